/-! SOUNDNESS, 6: one instruction, a whole method -/
theorem pm_dc_ok {b : ByteArray} {pc len : Nat} {ins : Instr} (h : pm_dc b pc ins len = true) : decode b pc = .ok (ins, len) := by
  unfold pm_dc at h
  split at h
  · rename_i q hq
    simp only [Bool.and_eq_true, decide_eq_true_eq] at h
    rw [hq, ← h.1, ← h.2]
  · cases h
theorem pm_tg_ok {C : List pm_I} {t : Nat} {v : Int} (h : pm_tg C t v = true) : ∃ i, pm_nth C t = some i ∧ (i.1 : Int) = v := by
  unfold pm_tg at h
  split at h
  · rename_i i hi
    exact ⟨i, hi, of_decide_eq_true h⟩
  · cases h
theorem pm_chkc_ok {x y : Nat} {b : pm_M → Bool} (h : pm_chkc x y b = true) : ∃ M', pm_cok M' x y ∧ b M' = true := by
  unfold pm_chkc at h
  split at h
  · rename_i M' hM'
    simp only [Bool.and_eq_true, decide_eq_true_eq] at h
    rw [pm_nth_eq] at hM'
    obtain ⟨⟨⟨⟨⟨h1, h2⟩, h3⟩, h4⟩, h5⟩, h6⟩ := h
    exact ⟨M', ⟨hM', by have h7 := Nat.le_of_ble_eq_true (show Nat.ble (x + 1) 256 = true from h5); omega, h1, h2, h3, h4⟩, h6⟩
  · cases h
theorem pm_chkp_ok {x y own : Nat} {zs : List Nat} {nm : String} (h : pm_chkp x y zs own nm = true) : ∃ q ty, pm_cls[x]? = some q ∧ y < q.2.2 ∧ parseFieldDescriptor (q.2.1 y).2.2.1 = some ty ∧ ((ty = .int ∧ zs = [0] ∧ (q.2.1 y).2.2.2 = false) ∨ (ty = .boolean ∧ zs = [1] ∧ (q.2.1 y).2.2.2 = false) ∨ (((∃ n, ty = .object n) ∨ (∃ t, ty = .array t)) ∧ zs = [2] ∧ (q.2.1 y).2.2.2 = true ∧ nm = "<init>" ∧ (q.2.1 y).1 = pm_cn.getD own "")) := by
  unfold pm_chkp at h
  split at h
  · rename_i q hq
    rw [pm_nth_eq] at hq
    simp only [Bool.and_eq_true, decide_eq_true_eq] at h
    obtain ⟨h1, h2⟩ := h
    split at h2
    · rename_i ht
      simp only [Bool.and_eq_true, decide_eq_true_eq, Bool.not_eq_true'] at h2
      exact ⟨q, _, hq, h1, ht, Or.inl ⟨rfl, h2.1, h2.2⟩⟩
    · rename_i ht
      simp only [Bool.and_eq_true, decide_eq_true_eq, Bool.not_eq_true'] at h2
      exact ⟨q, _, hq, h1, ht, Or.inr (Or.inl ⟨rfl, h2.1, h2.2⟩)⟩
    · rename_i n ht
      simp only [Bool.and_eq_true, decide_eq_true_eq] at h2
      exact ⟨q, _, hq, h1, ht, Or.inr (Or.inr ⟨Or.inl ⟨n, rfl⟩, h2.1.1.1, h2.1.1.2, h2.1.2, h2.2⟩)⟩
    · rename_i n ht
      simp only [Bool.and_eq_true, decide_eq_true_eq] at h2
      exact ⟨q, _, hq, h1, ht, Or.inr (Or.inr ⟨Or.inr ⟨n, rfl⟩, h2.1.1.1, h2.1.1.2, h2.1.2, h2.2⟩)⟩
    · cases h2
  · cases h
section GOK
variable {E : pm_E} {M : pm_M} {d : Nat} {p : Program} {e : Env} {R : Room} {s : State} {m : MethodId} {args : Array Value} {below : List Frame} {meth : Method} {c : Code} {H : Heap} {locs : List Loc} {cells slots : Nat} {QQ : State → Prop}
variable {pc : Nat} {ls : Array Slot} {st : List Value}
theorem pm_icmp_ok (F : pm_Fx E M d p R s m args meth c) {cc : Jvm.ClassFile.Cond} {off : Int} {tgt : Nat} {a b : Int32} (hd : decode M.2.1 pc = .ok (.if_icmp cc off, 3)) (ht : (pc : Int) + off = (tgt : Int)) {rest : List Value}
    (k1 : pm_cc cc a b → W p E.1 e R s m args below meth c H locs cells slots QQ (F0 m tgt ls rest)) (k2 : ¬ pm_cc cc a b → W p E.1 e R s m args below meth c H locs cells slots QQ (F0 m (pc + 3) ls rest)) : W p E.1 e R s m args below meth c H locs cells slots QQ (F0 m pc ls (.int b :: .int a :: rest)) := by
  obtain ⟨hx, hb, -⟩ := F
  cases cc
  · exact lv_icmp_eq hx hb hd ht k1 k2
  · exact lv_icmp_ne hx hb hd ht k1 (fun z => k2 (fun q => q z))
  · exact lv_icmp_lt hx hb hd ht k1 k2
  · exact lv_icmp_ge hx hb hd ht k1 k2
  · exact lv_icmp_gt hx hb hd ht k1 k2
  · exact lv_icmp_le hx hb hd ht k1 k2
theorem pm_if_ok (F : pm_Fx E M d p R s m args meth c) {cc : Jvm.ClassFile.Cond} {off : Int} {tgt : Nat} {a : Int32} (hd : decode M.2.1 pc = .ok (.ifCond cc off, 3)) (ht : (pc : Int) + off = (tgt : Int)) {rest : List Value}
    (k1 : pm_cc cc a 0 → W p E.1 e R s m args below meth c H locs cells slots QQ (F0 m tgt ls rest)) (k2 : ¬ pm_cc cc a 0 → W p E.1 e R s m args below meth c H locs cells slots QQ (F0 m (pc + 3) ls rest)) : W p E.1 e R s m args below meth c H locs cells slots QQ (F0 m pc ls (.int a :: rest)) := by
  obtain ⟨hx, hb, -⟩ := F
  cases cc
  · exact lv_if_eq hx hb hd ht k1 k2
  · exact lv_if_ne hx hb hd ht k1 (fun z => k2 (fun q => q z))
  · exact lv_if_lt hx hb hd ht k1 k2
  · exact lv_if_ge hx hb hd ht k1 k2
  · exact lv_if_gt hx hb hd ht k1 k2
  · exact lv_if_le hx hb hd ht k1 k2
end GOK
theorem pm_ofInt {k : Int} (h1 : -1000 ≤ k) (h2 : k ≤ 1000) {a : Int32} : a = Int32.ofInt k ↔ a.toInt = k := by
  have e : (Int32.ofInt k).toInt = k := by
    rw [Int32.toInt_ofInt]
    exact Int.bmod_eq_of_le (by have : Int32.size = 4294967296 := rfl; omega) (by have : Int32.size = 4294967296 := rfl; omega)
  constructor
  · intro h; rw [h, e]
  · intro h; exact Int32.toInt_inj.mp (by rw [e, h])
/-- a table of keys: which target is taken -/
theorem pm_sw_spec {nx : Nat → Prop} {a : Int32} {dflt : Nat} : ∀ {ks : List Int} {ts : List Nat}, pm_sw pm_br a nx dflt ks ts → ((∃ (j : Nat) (k : Int) (t : Nat), ks[j]? = some k ∧ ts[j]? = some t ∧ a = Int32.ofInt k ∧ nx t) ∨ ((∀ (j : Nat) (k : Int) (t : Nat), ks[j]? = some k → ts[j]? = some t → a ≠ Int32.ofInt k) ∧ nx dflt))
  | [], ts, h => by
    cases ts <;> exact Or.inr ⟨fun j k t q => by simp at q, h⟩
  | k :: ks, [], h => Or.inr ⟨fun j k t _ q => by simp at q, h⟩
  | k :: ks, t :: ts, h => by
    rcases Classical.em (a = Int32.ofInt k) with z | z
    · exact Or.inl ⟨0, k, t, rfl, rfl, z, h.1 z⟩
    · rcases pm_sw_spec (h.2 z) with ⟨j, k', t', q1, q2, q3, q4⟩ | ⟨q1, q2⟩
      · exact Or.inl ⟨j + 1, k', t', q1, q2, q3, q4⟩
      · refine Or.inr ⟨fun j k' t' r1 r2 => ?_, q2⟩
        cases j with
        | zero => cases r1; exact z
        | succ j => exact q1 j k' t' r1 r2
theorem pm_lk {nx : Nat → Prop} {a : Int32} {x pc : Nat} {dd : Int} {C : List pm_I} (hx : pm_tg C x (pc + dd) = true) : ∀ {ps : List (Int × Int)} {zs : List Nat}, (zs.zip ps).all (fun q => pm_tg C q.1 (pc + q.2.2) && decide (-1000 ≤ q.2.1 ∧ q.2.1 ≤ 1000)) = true → zs.length = ps.length → pm_sw pm_br a nx x (ps.map Prod.fst) zs → ∃ off t, Op.lookupswitch.offset ps dd a.toInt = off ∧ pm_tg C t (pc + off) = true ∧ nx t
  | [], zs, _, _, h => ⟨dd, x, rfl, hx, by cases zs <;> exact h⟩
  | (k, o) :: ps, [], _, hl, _ => by cases hl
  | (k, o) :: ps, z :: zs, hz, hl, h => by
    simp only [List.zip_cons_cons, List.all_cons, Bool.and_eq_true, decide_eq_true_eq] at hz
    obtain ⟨⟨h1, h2⟩, h3⟩ := hz
    rcases Classical.em (a = Int32.ofInt k) with q | q
    · refine ⟨o, z, ?_, h1, h.1 q⟩
      rw [Op.lookupswitch.offset_cons, if_pos]
      exact ((pm_ofInt h2.1 h2.2).mp q).symm
    · obtain ⟨off, t, g1, g2, g3⟩ := pm_lk hx (ps := ps) (zs := zs) h3 (by simpa using hl) (h.2 q)
      refine ⟨off, t, ?_, g2, g3⟩
      rw [Op.lookupswitch.offset_cons, if_neg]
      · exact g1
      · exact fun e5 => q ((pm_ofInt h2.1 h2.2).mpr e5.symm)
set_option maxHeartbeats 4000000 in
theorem pm_pchk_of {M : pm_M} {idx pc len x y : Nat} {ins : Instr} {zs : List Nat} {L st L1 st1 : List Value} (hck : pm_chk1 M idx (pc, ins, len, x, y, zs) = true) (hpu : pm_pu ins x y L st = some (L1, st1)) : pm_pchk M ins len x y ∧ pm_tg M.2.2.2.2.2 (idx + 1) ((pc + len : Nat) : Int) = true := by
  unfold pm_pu at hpu
  split at hpu
  · simp only [pm_chk1, Bool.and_eq_true, decide_eq_true_eq] at hck; obtain ⟨-, ⟨h1, rfl⟩, h2⟩ := hck; exact ⟨⟨rfl, h2⟩, h1⟩
  · simp only [pm_chk1, Bool.and_eq_true, decide_eq_true_eq] at hck; obtain ⟨-, ⟨h1, rfl⟩, h2⟩ := hck; exact ⟨⟨rfl, h2⟩, h1⟩
  · simp only [pm_chk1, Bool.and_eq_true, decide_eq_true_eq] at hck; obtain ⟨-, ⟨h1, rfl⟩, h2⟩ := hck; exact ⟨⟨rfl, h2⟩, h1⟩
  · simp only [pm_chk1, Bool.and_eq_true, decide_eq_true_eq] at hck; obtain ⟨-, ⟨h1, rfl⟩, h2⟩ := hck; exact ⟨⟨rfl, h2⟩, h1⟩
  · simp only [pm_chk1, Bool.and_eq_true, decide_eq_true_eq] at hck; obtain ⟨-, ⟨h1, rfl⟩, h2⟩ := hck
    refine ⟨⟨rfl, ?_⟩, h1⟩
    split at h2
    · simp only [Bool.and_eq_true, decide_eq_true_eq] at h2
      refine Or.inl ⟨rfl, h2.1, ?_⟩
      have h3 := h2.2
      split at h3
      · exact Or.inl ⟨rfl, of_decide_eq_true h3⟩
      · exact Or.inr ⟨rfl, of_decide_eq_true h3⟩
      · cases h3
    · rename_i hy
      exact Or.inr ⟨hy, by simpa using h2⟩
  · simp only [pm_chk1, Bool.and_eq_true, decide_eq_true_eq] at hck; obtain ⟨-, ⟨h1, rfl⟩, h2⟩ := hck; exact ⟨⟨rfl, by simpa using h2⟩, h1⟩
  · simp only [pm_chk1, Bool.and_eq_true, decide_eq_true_eq] at hck; obtain ⟨-, ⟨⟨h1, rfl⟩, h2⟩, h3⟩ := hck; exact ⟨⟨rfl, by simpa using h2, h3⟩, h1⟩
  · simp only [pm_chk1, Bool.and_eq_true, decide_eq_true_eq] at hck; obtain ⟨-, ⟨h1, rfl⟩, h2⟩ := hck; exact ⟨⟨rfl, by simpa using h2⟩, h1⟩
  all_goals first
    | (simp only [pm_chk1, Bool.and_eq_true, decide_eq_true_eq] at hck; obtain ⟨-, h1, rfl⟩ := hck; exact ⟨rfl, h1⟩)
    | cases hpu
set_option maxHeartbeats 8000000 in
/-- ONE INSTRUCTION -/
theorem pm_go_ok {E : pm_E} {d k idx N : Nat} {L st : List Value} {h : pm_H} {Q : Option Value → pm_H → Prop} {M : pm_M} {i : pm_I} (hd1 : 1 ≤ d) (hM : pm_tab[k]? = some M) (hi : pm_nth M.2.2.2.2.2 idx = some i)
    {nx : Nat → List Value → List Value → pm_H → Prop} {cl : Nat → List Value → pm_H → (Option Value → pm_H → Prop) → Prop} {rt : Option Value → pm_H → Prop}
    (hgo : pm_go (pm_OH (some (pe_n E, pe_x E))) False pm_br M.2.2.2.1 idx i L st h nx cl rt) (hN : h.length ≤ N)
    (hnx : ∀ (idx' : Nat) (L' st' : List Value) (h' : pm_H), nx idx' L' st' h' → L'.length = L.length → h'.length ≤ N ∧ pm_Ok E d k (N - h'.length) idx' L' st' h' Q)
    (hcl : ∀ (k' : Nat) (As : List Value) (h' : pm_H) (kont : Option Value → pm_H → Prop), (∀ r h2, kont r h2 → h2.length ≤ N) → cl k' As h' kont → ∃ mc d', d' + 1 ≤ d ∧ h'.length + mc ≤ N ∧ pm_Call E d' k' mc As h' kont)
    (hrt : ∀ (r : Option Value) (h' : pm_H), rt r h' → Q r h') : pm_Ok E d k (N - h.length) idx L st h Q := by
  intro M' i' hM' hi' hL p e R s m args below meth c F QQ H locs cells slots ls hP hS hcs hl hc1 hs1 kk
  have e1 : M' = M := Option.some.inj (hM'.symm.trans hM)
  subst e1
  have e2 : i' = i := Option.some.inj (hi'.symm.trans hi)
  subst e2
  have hrow := pm_row hM hi
  obtain ⟨hown, h19, hpl⟩ := pm_head hM
  have next : ∀ (idx' pc' : Nat), (∃ i2 : pm_I, pm_nth M'.2.2.2.2.2 idx' = some i2 ∧ (i2.1 : Int) = (pc' : Int)) → ∀ (L' st' : List Value) (h' : pm_H) (H' : Heap) (locs' : List Loc) (cells' slots' : Nat) (ls' : Array Slot), nx idx' L' st' h' → L'.length = L.length → va_P (pe_D E) pm_cls (pe_w E h') H' → va_S (pe_A E) s.heap H' locs' → s.heap.size + cells' = E.2.1 + h'.length → lv_has ls' M'.2.2.1 (pe_ls E L') → cells' + (N - h'.length) ≤ R.cells → slots' + 20000 * (N - h'.length) ≤ R.slots → W p E.1 e R s m args below meth c H' locs' cells' slots' QQ (F0 m pc' ls' (st'.map (pe_v E))) := by
    intro idx' pc' ⟨i2, hi2, hp2⟩ L' st' h' H' locs' cells' slots' ls' hn hl' a1 a2 a3 a4 a5 a6
    have e3 : i2.1 = pc' := by omega
    rw [← e3]
    exact (hnx idx' L' st' h' hn hl').2 M' i2 hM hi2 (by rw [hl', hL]) p e R s m args below meth c F QQ H' locs' cells' slots' ls' a1 a2 a3 a4 a5 a6 kk
  have nextH : ∀ (pc' : Nat), (∃ i2 : pm_I, pm_nth M'.2.2.2.2.2 (idx + 1) = some i2 ∧ (i2.1 : Int) = (pc' : Int)) → pm_kk E p e R s m args below meth c QQ pc' ls h (nx (idx + 1) L) cells slots := by
    intro pc' ht st1 h1 H1 locs1 hn hlen a1 a2
    exact next (idx + 1) pc' ht L st1 h1 H1 locs1 cells slots ls hn rfl a1 a2 (by rw [hlen]; exact hcs) hl (by rw [hlen]; exact hc1) (by rw [hlen]; exact hs1)
  obtain ⟨pc, ins, len, x, y, zs⟩ := i'
  have hrow0 := hrow
  simp only [pm_chk1, Bool.and_eq_true] at hrow
  obtain ⟨hdc, hck⟩ := hrow
  have hd := pm_dc_ok hdc
  have F0' := F
  obtain ⟨hx, hb, hml, ho, hts, hlk, hr, hnm, hf1, hf2, henv⟩ := F
  show W p E.1 e R s m args below meth c H locs cells slots QQ (F0 m pc ls (st.map (pe_v E)))
  have pure : ∀ (hpc : pm_pchk M' ins len x y) (ht : ∃ i2 : pm_I, pm_nth M'.2.2.2.2.2 (idx + 1) = some i2 ∧ (i2.1 : Int) = ((pc + len : Nat) : Int)) (hg : match pm_pu ins x y L st with | some (L1, st1) => nx (idx + 1) L1 st1 h | none => False), W p E.1 e R s m args below meth c H locs cells slots QQ (F0 m pc ls (st.map (pe_v E))) := by
    intro hpc ht hg
    split at hg
    · rename_i L1 st1 hpu
      exact pm_pu_ok F0' hown hS hd hpc hpu hl hL (fun ls' g1 g2 => next (idx + 1) (pc + len) ht L1 st1 h H locs cells slots ls' hg (by rw [g1, hL]) hP hS hcs g2 hc1 hs1)
    · exact hg.elim
  unfold pm_go at hgo
  try dsimp only at hgo
  split at hgo
  · -- goto
    simp only [Bool.and_eq_true, decide_eq_true_eq] at hck
    obtain ⟨h1, rfl⟩ := hck
    obtain ⟨i2, h2, h3⟩ := pm_tg_ok h1
    exact lv_goto hx hb hd (tgt := i2.1) h3.symm (next x i2.1 ⟨i2, h2, rfl⟩ L st h H locs cells slots ls hgo rfl hP hS hcs hl hc1 hs1)
  · -- ifCond
    simp only [Bool.and_eq_true, decide_eq_true_eq] at hck
    obtain ⟨⟨h1, h2⟩, rfl⟩ := hck
    obtain ⟨i2, h3, h4⟩ := pm_tg_ok h1
    split at hgo
    · rename_i a st2
      exact pm_if_ok F0' hd (tgt := i2.1) h4.symm (fun z => next x i2.1 ⟨i2, h3, rfl⟩ L st2 h H locs cells slots ls (hgo.1 z) rfl hP hS hcs hl hc1 hs1) (fun z => next (idx + 1) (pc + 3) (pm_tg_ok h2) L st2 h H locs cells slots ls (hgo.2 z) rfl hP hS hcs hl hc1 hs1)
    · exact hgo.elim
  · -- if_icmp
    simp only [Bool.and_eq_true, decide_eq_true_eq] at hck
    obtain ⟨⟨h1, h2⟩, rfl⟩ := hck
    obtain ⟨i2, h3, h4⟩ := pm_tg_ok h1
    split at hgo
    · rename_i b a st2
      exact pm_icmp_ok F0' hd (tgt := i2.1) h4.symm (fun z => next x i2.1 ⟨i2, h3, rfl⟩ L st2 h H locs cells slots ls (hgo.1 z) rfl hP hS hcs hl hc1 hs1) (fun z => next (idx + 1) (pc + 3) (pm_tg_ok h2) L st2 h H locs cells slots ls (hgo.2 z) rfl hP hS hcs hl hc1 hs1)
    · exact hgo.elim
  · -- tableswitch
    rename_i dd lo hi2 offs
    simp only [Bool.and_eq_true, decide_eq_true_eq] at hck
    obtain ⟨⟨⟨⟨h1, h2⟩, h3⟩, h4⟩, h5⟩ := hck
    split at hgo
    · rename_i a st2
      rcases pm_sw_spec hgo with ⟨j, kk5, t, q1, q2, q3, q4⟩ | ⟨q1, q2⟩
      · have hj : j < zs.length := (List.getElem?_eq_some_iff.mp q2).1
        rw [List.getElem?_map, List.getElem?_range hj] at q1
        have q1' : kk5 = lo + (j : Int) := (Option.some.inj q1).symm
        have ha : a.toInt = lo + j := by
          rw [← q1']; exact (pm_ofInt (by omega) (by omega)).mp q3
        have ho5 : ∃ o5, offs[j]? = some o5 := ⟨_, Array.getElem?_eq_getElem (by omega)⟩
        obtain ⟨o5, ho5⟩ := ho5
        have h6 := List.all_eq_true.mp h5 (t, o5) (List.mem_of_getElem? (i := j) (by rw [List.getElem?_zip_eq_some]; exact ⟨q2, by simpa using ho5⟩))
        obtain ⟨i2, g3, g4⟩ := pm_tg_ok h6
        exact lv_tableIn hx hb hd (off := o5) (tgt := i2.1) (by omega) (by omega) (by rw [show (a.toInt - lo).toNat = j by omega]; exact ho5) g4.symm (next t i2.1 ⟨i2, g3, rfl⟩ L st2 h H locs cells slots ls q4 rfl hP hS hcs hl hc1 hs1)
      · obtain ⟨i2, g3, g4⟩ := pm_tg_ok h1
        refine lv_tableOut hx hb hd (tgt := i2.1) ?_ g4.symm (next x i2.1 ⟨i2, g3, rfl⟩ L st2 h H locs cells slots ls q2 rfl hP hS hcs hl hc1 hs1)
        rcases Classical.em (a.toInt < lo ∨ hi2 < a.toInt) with z | z
        · exact z
        · exfalso
          have hj : (a.toInt - lo).toNat < zs.length := by omega
          have ht : ∃ t5, zs[(a.toInt - lo).toNat]? = some t5 := ⟨_, List.getElem?_eq_getElem hj⟩
          obtain ⟨t5, ht5⟩ := ht
          refine q1 (a.toInt - lo).toNat (lo + ((a.toInt - lo).toNat : Int)) t5 (by rw [List.getElem?_map, List.getElem?_range hj]; rfl) ht5 ?_
          exact (pm_ofInt (by omega) (by omega)).mpr (by omega)
    · exact hgo.elim
  · -- lookupswitch
    rename_i dd ps
    simp only [Bool.and_eq_true, decide_eq_true_eq] at hck
    obtain ⟨⟨⟨h1, h2⟩, h3⟩, h4⟩ := hck
    split at hgo
    · rename_i a st2
      obtain ⟨off, t, q1, q2, q3⟩ := pm_lk (pc := pc) (C := M'.2.2.2.2.2) h1 h4 (by simpa using h2) hgo
      obtain ⟨i2, g3, g4⟩ := pm_tg_ok q2
      exact lv_lookup hx hb hd (off := off) (tgt := i2.1) h3 q1 g4.symm (next t i2.1 ⟨i2, g3, rfl⟩ L st2 h H locs cells slots ls q3 rfl hP hS hcs hl hc1 hs1)
    · exact hgo.elim
  · -- getfield
    simp only [Bool.and_eq_true, decide_eq_true_eq] at hck
    obtain ⟨⟨h1, rfl⟩, h2⟩ := hck
    refine pm_gget_ok F0' hown hP hS hd ?_ hgo (nextH (pc + 3) (pm_tg_ok h1))
    split at h2
    · simpa using h2
    · rename_i hx50
      simp only [Bool.and_eq_true] at h2
      obtain ⟨h3, h4⟩ := h2
      split
      · exact absurd rfl hx50
      · refine ⟨by simpa using h3, ?_⟩
        split at h4
        · rename_i q hq
          rw [pm_nth_eq] at hq
          exact ⟨q, hq, of_decide_eq_true h4⟩
        · cases h4
  · -- putfield
    simp only [Bool.and_eq_true, decide_eq_true_eq] at hck
    obtain ⟨⟨⟨h1, rfl⟩, h2⟩, h3⟩ := hck
    refine pm_gput_ok F0' hown hP hS hd (by simpa using h2) ?_ hgo (nextH (pc + 3) (pm_tg_ok h1))
    rw [hown]
    exact pm_chkp_ok h3
  · simp only [Bool.and_eq_true, decide_eq_true_eq] at hck
    obtain ⟨h1, rfl⟩ := hck
    exact pm_gald_ok F0' hP hS rfl (Or.inl ⟨rfl, rfl⟩) hd hgo (nextH (pc + 1) (pm_tg_ok h1))
  · simp only [Bool.and_eq_true, decide_eq_true_eq] at hck
    obtain ⟨h1, rfl⟩ := hck
    exact pm_gald_ok F0' hP hS rfl (Or.inr ⟨rfl, rfl⟩) hd hgo (nextH (pc + 1) (pm_tg_ok h1))
  · simp only [Bool.and_eq_true, decide_eq_true_eq] at hck
    obtain ⟨h1, rfl⟩ := hck
    exact pm_gast_ok F0' hP hS (Or.inl ⟨rfl, rfl⟩) hd hgo (nextH (pc + 1) (pm_tg_ok h1))
  · simp only [Bool.and_eq_true, decide_eq_true_eq] at hck
    obtain ⟨h1, rfl⟩ := hck
    exact pm_gast_ok F0' hP hS (Or.inr ⟨rfl, rfl⟩) hd hgo (nextH (pc + 1) (pm_tg_ok h1))
  · simp only [Bool.and_eq_true, decide_eq_true_eq] at hck
    obtain ⟨h1, rfl⟩ := hck
    exact pm_glld_ok F0' hP hS hd hgo (nextH (pc + 1) (pm_tg_ok h1))
  · simp only [Bool.and_eq_true, decide_eq_true_eq] at hck
    obtain ⟨h1, rfl⟩ := hck
    exact pm_glst_ok F0' hP hS hd hgo (nextH (pc + 1) (pm_tg_ok h1))
  · simp only [Bool.and_eq_true, decide_eq_true_eq] at hck
    obtain ⟨h1, rfl⟩ := hck
    exact pm_glen_ok F0' hP hS rfl hd hgo (nextH (pc + 1) (pm_tg_ok h1))
  · simp only [Bool.and_eq_true, decide_eq_true_eq] at hck
    obtain ⟨h1, rfl⟩ := hck
    exact pm_gdiv_ok F0' hP hS (Or.inl ⟨rfl, rfl⟩) hd hgo (nextH (pc + 1) (pm_tg_ok h1))
  · simp only [Bool.and_eq_true, decide_eq_true_eq] at hck
    obtain ⟨h1, rfl⟩ := hck
    exact pm_gdiv_ok F0' hP hS (Or.inr ⟨rfl, rfl⟩) hd hgo (nextH (pc + 1) (pm_tg_ok h1))
  · -- new
    simp only [Bool.and_eq_true, decide_eq_true_eq] at hck
    obtain ⟨⟨⟨h1, rfl⟩, h2⟩, h3⟩ := hck
    have hg2 : nx (idx + 1) L (.ref h.length :: st) (h ++ [.inr (x, pm_dfl x)]) := hgo
    have h5 := (hnx _ _ _ _ hg2 rfl).1
    simp only [List.length_append, List.length_cons, List.length_nil] at h5
    exact pm_gnew_ok F0' hown hP hS hcs hd (by simpa using h2) h3 (by omega) (by omega) (fun H1 a1 a2 => next (idx + 1) (pc + 3) (pm_tg_ok h1) L (.ref h.length :: st) _ H1 locs (cells + 1) (slots + 20000) ls hg2 rfl a1 a2 (by simp only [List.length_append, List.length_cons, List.length_nil]; omega) hl (by simp only [List.length_append, List.length_cons, List.length_nil]; omega) (by simp only [List.length_append, List.length_cons, List.length_nil]; omega))
  · -- newarray
    simp only [Bool.and_eq_true, decide_eq_true_eq] at hck
    obtain ⟨h1, rfl⟩ := hck
    unfold pm_gnwa at hgo
    split at hgo
    · rename_i n st2
      obtain ⟨hn, hgo⟩ := pm_in_of hgo
      have fin : ∀ (kd : Nat) (ty : FieldType) (a0 : vp_A), (_ : Prop) → True := fun _ _ _ _ => trivial
      split at hgo
      · have hg2 : nx (idx + 1) L (.ref h.length :: st2) (h ++ [.inl (0, n.toNatClampNeg, .inl (fun _ => 0))]) := hgo
        have h5 := (hnx _ _ _ _ hg2 rfl).1
        simp only [List.length_append, List.length_cons, List.length_nil] at h5
        exact pm_gnwa_ok (st := st2) (ty := .int) F0' hP hS hcs hd (Or.inl ⟨rfl, rfl, rfl, rfl⟩) hn (by omega) (by omega) (fun H1 a1 a2 => next (idx + 1) (pc + 2) (pm_tg_ok h1) L (.ref h.length :: st2) _ H1 locs (cells + 1) (slots + 20000) ls hg2 rfl a1 a2 (by simp only [List.length_append, List.length_cons, List.length_nil]; omega) hl (by simp only [List.length_append, List.length_cons, List.length_nil]; omega) (by simp only [List.length_append, List.length_cons, List.length_nil]; omega))
      · have hg2 : nx (idx + 1) L (.ref h.length :: st2) (h ++ [.inl (1, n.toNatClampNeg, .inl (fun _ => 0))]) := hgo
        have h5 := (hnx _ _ _ _ hg2 rfl).1
        simp only [List.length_append, List.length_cons, List.length_nil] at h5
        exact pm_gnwa_ok (st := st2) (ty := .boolean) F0' hP hS hcs hd (Or.inr (Or.inl ⟨rfl, rfl, rfl, rfl⟩)) hn (by omega) (by omega) (fun H1 a1 a2 => next (idx + 1) (pc + 2) (pm_tg_ok h1) L (.ref h.length :: st2) _ H1 locs (cells + 1) (slots + 20000) ls hg2 rfl a1 a2 (by simp only [List.length_append, List.length_cons, List.length_nil]; omega) hl (by simp only [List.length_append, List.length_cons, List.length_nil]; omega) (by simp only [List.length_append, List.length_cons, List.length_nil]; omega))
      · have hg2 : nx (idx + 1) L (.ref h.length :: st2) (h ++ [.inl (2, n.toNatClampNeg, .inr (.inl (fun _ => 0)))]) := hgo
        have h5 := (hnx _ _ _ _ hg2 rfl).1
        simp only [List.length_append, List.length_cons, List.length_nil] at h5
        exact pm_gnwa_ok (st := st2) (ty := .long) F0' hP hS hcs hd (Or.inr (Or.inr ⟨rfl, rfl, rfl, rfl⟩)) hn (by omega) (by omega) (fun H1 a1 a2 => next (idx + 1) (pc + 2) (pm_tg_ok h1) L (.ref h.length :: st2) _ H1 locs (cells + 1) (slots + 20000) ls hg2 rfl a1 a2 (by simp only [List.length_append, List.length_cons, List.length_nil]; omega) hl (by simp only [List.length_append, List.length_cons, List.length_nil]; omega) (by simp only [List.length_append, List.length_cons, List.length_nil]; omega))
      · exact hgo.elim
    · exact hgo.elim
  · -- invokevirtual
    dsimp only at hck
    split at hck
    · exact False.elim hgo
    · simp only [Bool.and_eq_true, decide_eq_true_eq] at hck
      obtain ⟨⟨⟨⟨⟨h1, rfl⟩, h2⟩, h3⟩, h4⟩, h5⟩ := hck
      obtain ⟨M', hco, hzs0⟩ := pm_chkc_ok h5
      have hzs := of_decide_eq_true hzs0
      clear hzs0
      unfold pm_gcV at hgo
      split at hgo
      · exact hgo.elim
      split at hgo
      · exact hgo.elim
      · rename_i As rest0 hpop
        obtain ⟨A, e1, e2, e3⟩ := pm_pop_spec hpop
        rw [List.append_nil] at e1
        subst e1
        split at hgo
        · rename_i b rest
          split at hgo
          · rename_i h8
            have fin : ∀ b', pe_v E b = .ref b' → (∃ cell : Cell, H[b']? = some cell ∧ cell.vm.isStatics = false ∧ s.vm.findClass M'.1.cls = some cell.cls) → cl x (b :: As) h (fun r h1 => nx (idx + 1) L (pm_rv r rest) h1) → W p E.1 e R s m args below meth c H locs cells slots QQ (F0 m pc ls (st.map (pe_v E))) := by
              intro b' hb' hrc hc
              obtain ⟨mc, d', q1, q2, q3⟩ := hcl _ _ _ _ (fun r h2 q => (hnx _ _ _ _ q rfl).1) hc
              refine pm_call_ok (d' := d') (mc := mc) (ov := some b) F0' hown q1 hco hP hS hcs hl.1 (by omega) (by omega) hd e3 e2 h8 (Or.inr (Or.inr ⟨b, b', rfl, hb', rfl, by simpa using h3, by simpa using h4, by simpa using h2, hrc⟩)) q3 (fun r h' H1 locs1 a1 a2 a3 a4 => next (idx + 1) (pc + 3) (pm_tg_ok h1) L (pm_rv r rest) h' H1 locs1 (cells + mc) (slots + 20000 * mc) ls a1 rfl a3 a4 (by omega) hl (by omega) (by omega))
            split at hgo
            · rename_i q
              split at hgo
              · rename_i ci cj hci
                split at hgo
                · rename_i hcc
                  have hcc := Nat.eq_of_beq_eq_true hcc
                  subst hcc
                  dsimp only [pm_OH] at hci
                  split at hci
                  · rename_i fs hh
                    cases hci
                    obtain ⟨r5, h6, -⟩ := hP q _ (pe_w_get hh)
                    have hrv := va_recv henv.1 hP h6 (pe_w_get hh)
                    refine fin _ rfl ?_ hgo
                    have hz2 : ci = M'.2.2.2.2.1 := by simpa using hzs
                    have hnm2 : r5.1 = pm_cn.getD ci "" := by
                      have h0 : ∀ j, j < 13 → (pm_cls.getD j ("", pT_0, 0)).1 = pm_cn.getD j "" := by decide
                      have h13 : ci < 13 := (List.getElem?_eq_some_iff.mp h6).1
                      rw [← h0 ci h13, List.getD_eq_getElem?_getD, h6]
                      rfl
                    rw [(pm_head hco.1).1, ← hz2, ← hnm2]
                    exact hrv
                  · cases hci
                · exact hgo.elim
              · exact hgo.elim
            · rename_i kq
              split at hgo
              · rename_i hk1
                have hk2 : kq ≤ 1 := Nat.le_of_ble_eq_true hk1
                refine fin (pe_aK E kq) (by unfold pe_v; exact if_pos (by omega)) ?_ hgo
                have hz2 : 15 = M'.2.2.2.2.1 := by simpa using hzs
                rw [(pm_head hco.1).1, ← hz2]
                exact vk_recv henv.2.1 (by omega) hS
              · exact hgo.elim
            · exact hgo.elim
          · exact hgo.elim
        · exact hgo.elim
  · -- invokestatic
    dsimp only at hck
    split at hck
    · exact False.elim hgo
    · simp only [Bool.and_eq_true, decide_eq_true_eq] at hck
      obtain ⟨⟨h1, rfl⟩, h2⟩ := hck
      split at hgo
      · rename_i hbl
        rw [hbl] at h2
        exact pm_gint_ok F0' hown hd1 hP hS (by rw [hml]; exact hl.1.symm) (by omega) (by omega) hd (by simpa using h2) hgo (nextH (pc + 3) (pm_tg_ok h1))
      · rename_i hbl
        rw [hbl] at h2
        simp only [Bool.and_eq_true, Bool.or_eq_true] at h2
        obtain ⟨⟨h3, h4⟩, h5⟩ := h2
        obtain ⟨M', hco, -⟩ := pm_chkc_ok h5
        unfold pm_gcS at hgo
        split at hgo
        · exact hgo.elim
        split at hgo
        · exact hgo.elim
        · rename_i As rest hpop
          obtain ⟨A, e1, e2, e3⟩ := pm_pop_spec hpop
          rw [List.append_nil] at e1
          subst e1
          split at hgo
          · rename_i h8
            obtain ⟨mc, d', q1, q2, q3⟩ := hcl _ _ _ _ (fun r h2 q => (hnx _ _ _ _ q rfl).1) hgo
            refine pm_call_ok (d' := d') (mc := mc) (ov := none) F0' hown q1 hco hP hS hcs hl.1 (by omega) (by omega) hd e3 e2 h8 (Or.inl ⟨rfl, rfl, by simpa using h3, by simpa using h4⟩) q3 (fun r h' H1 locs1 a1 a2 a3 a4 => next (idx + 1) (pc + 3) (pm_tg_ok h1) L (pm_rv r rest) h' H1 locs1 (cells + mc) (slots + 20000 * mc) ls a1 rfl a3 a4 (by omega) hl (by omega) (by omega))
          · exact hgo.elim
  · -- invokespecial
    split at hgo
    · simp only [Bool.and_eq_true, decide_eq_true_eq] at hck
      obtain ⟨⟨h1, rfl⟩, h2⟩ := hck
      split at hgo
      · rename_i q st2
        split at hgo
        · rename_i h8
          have h8 := Nat.le_of_ble_eq_true h8
          have hw := hts _ (pm_MI_ok _ (by simpa using h2))
          exact W.objInit hx hb ho (by rw [hown]; exact hw) (hts _ pm_w_oi) (hts _ pm_w_oc) rfl (by rw [hml]; exact hl.1) rfl hd (by omega) (by show 2 * 0 + _ + 12 ≤ _; rw [pe_cs henv.zc]; omega) (next (idx + 1) (pc + 3) (pm_tg_ok h1) L st2 h H locs cells slots ls hgo rfl hP hS hcs hl hc1 hs1)
        · exact hgo.elim
      · exact hgo.elim
    · rename_i hne
      dsimp only at hck
      split at hck
      · exact False.elim hgo
      · exact absurd rfl hne
      · simp only [Bool.and_eq_true, Bool.or_eq_true, decide_eq_true_eq] at hck
        obtain ⟨⟨⟨⟨h1, rfl⟩, h2⟩, h3⟩, h4⟩ := hck
        obtain ⟨M', hco, hin⟩ := pm_chkc_ok h4
        simp only [Bool.and_eq_true, decide_eq_true_eq] at hin
        unfold pm_gcI at hgo
        split at hgo
        · exact hgo.elim
        split at hgo
        · exact hgo.elim
        · rename_i As rest0 hpop
          obtain ⟨A, e1, e2, e3⟩ := pm_pop_spec hpop
          rw [List.append_nil] at e1
          subst e1
          split at hgo
          · rename_i q rest
            split at hgo
            · rename_i h8
              obtain ⟨mc, d', q1, q2, q3⟩ := hcl _ _ _ _ (fun r h2 q => (hnx _ _ _ _ q rfl).1) hgo
              refine pm_call_ok (d' := d') (mc := mc) (ov := some (.ref q)) F0' hown q1 hco hP hS hcs hl.1 (by omega) (by omega) hd e3 e2 h8 (Or.inr (Or.inl ⟨q, rfl, rfl, by simpa using h2, hin.1, hin.2, by simpa using h3⟩)) q3 (fun r h' H1 locs1 a1 a2 a3 a4 => next (idx + 1) (pc + 3) (pm_tg_ok h1) L (pm_rv r rest) h' H1 locs1 (cells + mc) (slots + 20000 * mc) ls a1 rfl a3 a4 (by omega) hl (by omega) (by omega))
            · exact hgo.elim
          · exact hgo.elim
  · -- ireturn
    have h1 := of_decide_eq_true hck
    subst h1
    unfold pm_gret at hgo
    have fin : ∀ (v : Int32) (ty : FieldType), M'.2.2.2.1 = some ty → narrow ty (.int v) = .int v → rt (some (.int v)) h → W p E.1 e R s m args below meth c H locs cells slots QQ (F0 m pc ls [.int v]) := by
      intro v ty h1 h2 h3
      exact kk (some (.int v)) h H locs cells slots pc ls (hrt _ _ h3) hP hS hcs (by omega) (by omega) ⟨⟨ty, h1, h2⟩, hd⟩
    split at hgo
    · rename_i v
      split at hgo
      · rename_i hty; exact fin v _ hty rfl hgo
      · rename_i hty
        obtain ⟨z, hgo⟩ := pm_in_of hgo
        exact fin v _ hty (by rcases z with rfl | rfl <;> rfl) hgo
      · rename_i hty
        obtain ⟨z, hgo⟩ := pm_in_of hgo
        exact fin v _ hty (by subst z; rfl) hgo
      · rename_i hty
        obtain ⟨⟨z1, z2⟩, hgo⟩ := pm_in_of hgo
        obtain ⟨j, hj, rfl⟩ := nI_of z1
        have hj2 : j < 256 := by
          rcases Nat.lt_or_ge j 256 with q | q
          · exact q
          · exact absurd z2 (nI_nlt (a := j) (b := 256) q hj)
        exact fin _ _ hty (pk_charN (by omega)).1 hgo
      · exact hgo.elim
    · exact hgo.elim
  · -- lreturn
    have h1 := of_decide_eq_true hck
    subst h1
    split at hgo
    · rename_i v
      split at hgo
      · rename_i hty
        exact kk (some (.long v)) h H locs cells slots pc ls (hrt _ _ hgo) hP hS hcs (by omega) (by omega) ⟨hty, hd⟩
      · exact hgo.elim
    · exact hgo.elim
  · -- return
    have h1 := of_decide_eq_true hck
    subst h1
    split at hgo
    · split at hgo
      · rename_i hty
        exact kk none h H locs cells slots pc ls (hrt _ _ hgo) hP hS hcs (by omega) (by omega) ⟨hty, hd⟩
      · exact hgo.elim
    · exact hgo.elim
  · -- pure
    split at hgo
    · rename_i L1 st1 hpu
      obtain ⟨g1, g2⟩ := pm_pchk_of hrow0 hpu
      refine pure g1 (pm_tg_ok g2) ?_
      rw [hpu]
      exact hgo
    · exact hgo.elim
