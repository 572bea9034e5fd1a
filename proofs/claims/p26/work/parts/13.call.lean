/-! SOUNDNESS, 5: calls -/
theorem pm_env.same {E : pm_E} {u U : State} {H : Heap} (hv : U.vm = u.vm) (h : pm_env E u H) : pm_env E U H := by
  have hA : u.vm.Alike U.vm := by rw [hv]; exact Vm.Alike.refl _
  obtain ⟨h1, h2, h3, h4, h5, h6, h7, h8, h9, h10, h11, h12⟩ := h
  exact ⟨va_K.moved hA h1, vk_S.moved hA h2, va_Z.moved hA h3, va_Z.moved hA h4, h5.same hv, h6.same hv, fun q hm => va_Nw.same rfl hv.symm (h7 q hm), va_X.moved hA h8, h9, h10, h11, h12⟩
theorem pm_tab_split : pm_tab = pm_tabM ++ pm_tab_16 := by simp only [pm_tab, pm_tabM, List.append_assoc]
theorem pm_tabM_len : pm_tabM.length = 256 := by decide +kernel
theorem pm_inM {k : Nat} {M : pm_M} (h : pm_tab[k]? = some M) (hk : k < 256) : M ∈ pm_tabM := by
  rw [pm_tab_split, List.getElem?_append_left (by rw [pm_tabM_len]; exact hk)] at h
  exact List.mem_of_getElem? h
theorem pm_good_ws {k : Nat} {M : pm_M} (h : pm_tab[k]? = some M) (hk : k < 256) : GoodIn pm_big (pm_ws M) := by
  intro w hw
  have hb : w ∈ pm_big := by
    rcases List.mem_cons.mp hw with rfl | hw
    · exact pm_cd_ok M (pm_inM h hk)
    · exact hw
  exact ⟨hb, good_of_word (List.mem_filter.mp hb).2⟩
theorem pm_head {k : Nat} {M : pm_M} (h : pm_tab[k]? = some M) : M.1.cls = pm_cn.getD M.2.2.2.2.1 "" ∧ M.2.2.2.2.1 < 19 ∧ plainName M.1.cls = true := by
  have h1 := pm_ck M (List.mem_of_getElem? h)
  unfold pm_chk at h1
  simp only [Bool.and_eq_true, decide_eq_true_eq] at h1
  exact ⟨h1.1.1.2, h1.1.2, h1.2⟩
theorem pm_row {k idx : Nat} {M : pm_M} {i : pm_I} (h : pm_tab[k]? = some M) (hi : pm_nth M.2.2.2.2.2 idx = some i) : pm_chk1 M idx i = true := by
  have h1 := pm_ck M (List.mem_of_getElem? h)
  unfold pm_chk at h1
  simp only [Bool.and_eq_true] at h1
  rw [pm_nth_eq] at hi
  exact List.all_eq_true.mp h1.1.1.1 (i, idx) (List.mem_zipIdx_iff_getElem?.mpr hi)
theorem pm_first : ∀ M ∈ pm_tab, ∃ i, pm_nth M.2.2.2.2.2 0 = some i ∧ i.1 = 0 := by
  have h : pm_tab.all (fun M => match pm_nth M.2.2.2.2.2 0 with | some i => decide (i.1 = 0) | none => false) = true := by decide +kernel
  intro M hM
  have h1 := List.all_eq_true.mp h M hM
  cases h2 : pm_nth M.2.2.2.2.2 0 with
  | none => rw [h2] at h1; cases h1
  | some i => rw [h2] at h1; exact ⟨i, rfl, of_decide_eq_true h1⟩
theorem pm_blind (E : pm_E) (av : List Value) (h : pm_H) : FrameBlind (pm_pre E av h) := by
  intro a U g mk q
  obtain ⟨q0, q1, q2, q3⟩ := q
  exact ⟨q0, q1, q2, pm_env.same (u := U) rfl q3⟩
theorem pm_pop_spec : ∀ {n : Nat} {acc st As rest : List Value}, pm_pop n acc st = some (As, rest) → ∃ A, As = A ++ acc ∧ st = A.reverse ++ rest ∧ A.length = n
  | 0, acc, st, As, rest, h => by
    cases h
    exact ⟨[], rfl, rfl, rfl⟩
  | n + 1, acc, [], As, rest, h => by cases h
  | n + 1, acc, v :: st, As, rest, h => by
    obtain ⟨A, h1, h2, h3⟩ := pm_pop_spec (n := n) (acc := v :: acc) (st := st) h
    refine ⟨A ++ [v], by rw [h1]; simp, ?_, by simp [h3]⟩
    rw [h2]
    simp
section CA
variable {E : pm_E} {M M' : pm_M} {d d' : Nat} {p : Program} {e : Env} {R : Room} {s : State} {m : MethodId} {args : Array Value} {below : List Frame} {meth : Method} {c : Code} {H : Heap} {locs : List Loc} {cells slots : Nat} {QQ : State → Prop}
variable {pc x y mc : Nat} {ls : Array Slot} {h : pm_H} {Q : Option Value → pm_H → Prop}
theorem pm_run_go {n : Nat} {a : Array Value} {st0 rest : List Value} (hr : va_Run p E.1 e R s m args below meth c H locs cells slots mc (20000 * mc) (F0 m pc ls st0) rest (pm_post E n Q a) (pe_A E)) (hS : va_S (pe_A E) s.heap H locs)
    (kk : ∀ (r : Option Value) (h' : pm_H) (H1 : Heap) (locs1 : List Loc), Q r h' → h'.length = n → va_P (pe_D E) pm_cls (pe_w E h') H1 → va_S (pe_A E) s.heap H1 locs1 → W p E.1 e R s m args below meth c H1 locs1 (cells + mc) (slots + 20000 * mc) QQ (F0 m (pc + 3) ls ((r.map (pe_v E)).toList ++ rest))) : W p E.1 e R s m args below meth c H locs cells slots QQ (F0 m pc ls st0) := by
  intro T hT X
  obtain ⟨v, st₀, t, T', L, h0, X', hL, e1, e2, ⟨r, h', hv, hq, hlen, hP1, hz, hk⟩, stp⟩ := hr T hT X
  cases hv
  rw [h0] at hz hk
  obtain ⟨t2, a1, b1⟩ := kk r h' T'.heap (locs ++ L) hq hlen (by rw [e1]; exact hP1)
    ⟨Nat.le_trans hS.1 (by rw [e1]; exact hz), fun q h1 h2 => by rw [e1, hk q (Nat.lt_of_lt_of_le h1 hS.1) h2]; exact hS.2.1 q h1 h2, fun q hq => by
      rcases List.mem_append.mp hq with h | h
      · exact hS.2.2 q h
      · exact hL q h⟩ T' rfl X'
  exact ⟨t2, stp t2 a1, b1⟩
theorem pm_in19 {j : Nat} (h : j < 19) : j ∈ pm_IN := by
  have : ∀ j, j < 19 → j ∈ pm_IN := by decide
  exact this j h
/-- what the check says of a call, and of its callee -/
def pm_cok (M' : pm_M) (x y : Nat) : Prop := pm_tab[x]? = some M' ∧ x < 256 ∧ M'.1.cls ≠ "java/lang/invoke/MethodHandle" ∧ M'.1.cls ≠ "java/lang/invoke/VarHandle" ∧ (parseMethodDescriptor M'.1.desc).map (fun d => d.parameters.length) = some y ∧ M'.2.2.1 ≤ 40
theorem pm_yk_eq (h : pm_tab[x]? = some M') : pm_yk x = M'.1 := by unfold pm_yk; rw [h]
theorem pm_cb (F : pm_Fx E M d p R s m args meth c) (hown : M.1.cls = pm_cn.getD M.2.2.2.2.1 "") (hdd : d' + 1 ≤ d) (hco : pm_cok M' x y) {k : Nat} (hl : (M.2.2.2.2.1, k, x) ∈ pm_ML) : CallB R s args M.1.cls k M'.1 M'.2.1 M'.2.2.1 M'.2.2.2.1 (pm_ws M') (pm_rm d' mc) mc (20000 * mc) y := by
  obtain ⟨hx, hb, hml, ho, hts, hlk, hr, hnm, hf1, hf2, henv⟩ := F
  obtain ⟨h1, h2, h3, h4, h5, h6⟩ := hco
  obtain ⟨g1, g2, g3⟩ := pm_head h1
  have hw := hts _ (pm_ML_ok _ hl)
  simp only [pm_ML_w, pm_yk_eq h1] at hw
  have hi := hts _ (pm_IN_ok _ (pm_in19 g2))
  simp only [pm_IN_w] at hi
  exact callB_of y hts (pm_good_ws h1 h2) rfl rfl rfl (by rw [g1]; exact hi) (by rw [hown]; exact hw) ⟨h3, h4, h5⟩ ⟨by show d' + 1 ≤ _; omega, by show 8 + (M'.2.2.1 + 11) + 64 * d' ≤ _; omega⟩
theorem pm_cn_ok (F : pm_Fx E M d p R s m args meth c) (hown : M.1.cls = pm_cn.getD M.2.2.2.2.1 "") (hdd : d' + 1 ≤ d) (hco : pm_cok M' x y) {k : Nat} (hl : (M.2.2.2.2.1, k, x) ∈ pm_MN) : va_CN R s args M.1.cls k M'.1 "PaidWhereMade" M'.2.1 M'.2.2.1 M'.2.2.2.1 (pm_ws M') (pm_rm d' mc) mc (20000 * mc) y := by
  obtain ⟨hx, hb, hml, ho, hts, hlk, hr, hnm, hf1, hf2, henv⟩ := F
  obtain ⟨h1, h2, h3, h4, h5, h6⟩ := hco
  obtain ⟨g1, g2, g3⟩ := pm_head h1
  have hw := henv.2.2.2.2.2.2.1 _ hl
  simp only [pm_MN_w, pm_yk_eq h1] at hw
  have hi := hts _ (pm_IN_ok _ (pm_in19 g2))
  simp only [pm_IN_w] at hi
  exact va_cnB y hts (pm_good_ws h1 h2) rfl rfl rfl (by rw [hown]; exact hw) (by rw [g1]; exact hi) ⟨h3, h4, h5⟩ ⟨by show d' + 1 ≤ _; omega, by show 8 + (M'.2.2.1 + 11) + 64 * d' ≤ _; omega⟩
/-- the callee's start -/
theorem pm_pre_ok (henv : pm_env E s s.heap) (hS : va_S (pe_A E) s.heap H locs) (hP : va_P (pe_D E) pm_cls (pe_w E h) H) (hsz : H.size = E.2.1 + h.length) (av : List Value) : ∀ U : State, U.heap = H → s.WarmedH U.vm → pm_pre E av h (av.map (pe_v E)).toArray U := by
  intro U hU hW
  refine ⟨rfl, by rw [hU]; exact hsz, by rw [hU]; exact hP, ?_⟩
  rw [hU]
  exact henv.mv hW hS.1 hS.2.1
theorem pm_sum_le (hz : (pe_z E).category = 1) {rest : List Value} (h : Nat.ble (pm_cs rest) 8 = true) {g : JFrame} (hg : g = F0 m pc ls (g.stack)) : 2 * g.monitorRoom + ((rest.map (pe_v E)).map fun v => v.category).sum ≤ 8 := by
  rw [hg]
  exact lv_room (by rw [pe_cs hz]; exact Nat.le_of_ble_eq_true h)
/-- the three calls: virtual, static, special -/
theorem pm_call_ok (F : pm_Fx E M d p R s m args meth c) (hown : M.1.cls = pm_cn.getD M.2.2.2.2.1 "") (hdd : d' + 1 ≤ d) (hco : pm_cok M' x y) (hP : va_P (pe_D E) pm_cls (pe_w E h) H) (hS : va_S (pe_A E) s.heap H locs) (hcs : s.heap.size + cells = E.2.1 + h.length) (hl : ls.size = M.2.2.1)
    (hc1 : cells + mc ≤ R.cells) (hs1 : slots + 20000 * mc ≤ R.slots) {k : Nat} {ins : Instr} {As rest st0 : List Value} {ov : Option Value} (hd : decode M.2.1 pc = .ok (ins, 3)) (hn : As.length = y) (hst : st0 = As.reverse ++ (ov.toList ++ rest)) (h8 : Nat.ble (pm_cs rest) 8 = true)
    (hkind : (ov = none ∧ ins = .invokestatic k ∧ x ∈ pm_KS ∧ ((M.2.2.2.2.1, k, x) ∈ pm_ML ∨ (M.2.2.2.2.1, k, x) ∈ pm_MN)) ∨ (∃ q, ov = some (.ref q) ∧ ins = .invokespecial k ∧ x ∈ pm_KI ∧ M'.1.name = "<init>" ∧ M'.2.2.2.1 = none ∧ ((M.2.2.2.2.1, k, x) ∈ pm_ML ∨ (M.2.2.2.2.1, k, x) ∈ pm_MN)) ∨ (∃ v b, ov = some v ∧ pe_v E v = .ref b ∧ ins = .invokevirtual k ∧ x ∈ pm_KI ∧ x ∈ pm_KE ∧ (M.2.2.2.2.1, k, x) ∈ pm_ML ∧ ∃ cell : Cell, H[b]? = some cell ∧ cell.vm.isStatics = false ∧ s.vm.findClass M'.1.cls = some cell.cls))
    (hC : pm_Call E d' x mc (ov.toList ++ As) h Q)
    (kk : ∀ (r : Option Value) (h' : pm_H) (H1 : Heap) (locs1 : List Loc), Q r h' → h'.length = h.length + mc → va_P (pe_D E) pm_cls (pe_w E h') H1 → va_S (pe_A E) s.heap H1 locs1 → W p E.1 e R s m args below meth c H1 locs1 (cells + mc) (slots + 20000 * mc) QQ (F0 m (pc + 3) ls ((pm_rv r rest).map (pe_v E)))) : W p E.1 e R s m args below meth c H locs cells slots QQ (F0 m pc ls (st0.map (pe_v E))) := by
  have F0' := F
  obtain ⟨hx, hb, hml, ho, hts, hlk, hr, hnm, hf1, hf2, henv⟩ := F
  have hz := henv.zc
  refine pm_Wsz (fun hsz0 => ?_)
  have hsz : H.size = E.2.1 + h.length := by
    have h1 := pe_lo hP (Nat.le_trans henv.2.2.2.2.2.2.2.2.2.2.2 hS.1)
    omega
  have hM := hC M' hco.1 hco.2.1
  have kk2 : ∀ (r : Option Value) (h' : pm_H) (H1 : Heap) (locs1 : List Loc), Q r h' → h'.length = h.length + mc → va_P (pe_D E) pm_cls (pe_w E h') H1 → va_S (pe_A E) s.heap H1 locs1 → W p E.1 e R s m args below meth c H1 locs1 (cells + mc) (slots + 20000 * mc) QQ (F0 m (pc + 3) ls ((r.map (pe_v E)).toList ++ rest.map (pe_v E))) := by
    intro r h' H1 locs1 a1 a2 a3 a4
    have h5 := kk r h' H1 locs1 a1 a2 a3 a4
    have e5 : (pm_rv r rest).map (pe_v E) = (r.map (pe_v E)).toList ++ rest.map (pe_v E) := by
      unfold pm_rv
      cases r <;> simp
    rw [e5] at h5
    exact h5
  have hyk := pm_yk_eq hco.1
  have hCF : CallFix p m c M.2.1 M.2.2.1 s args pm_big M.1.cls := ⟨hx, hb, hml, ho, hts⟩
  rcases hkind with ⟨rfl, rfl, hK, hlk2⟩ | ⟨q, rfl, rfl, hK, hi1, hi2, hlk2⟩ | ⟨v, b, rfl, hvb, rfl, hK1, hK2, hlk2, hrc⟩
  · have hst2 : (F0 m pc ls (st0.map (pe_v E))).stack = (As.map (pe_v E)).reverse ++ rest.map (pe_v E) := by
      show st0.map (pe_v E) = _
      rw [hst]; simp
    have hw := hts _ (pm_KS_ok _ hK)
    simp only [pm_KS_w, hyk] at hw
    rcases hlk2 with hlk2 | hlk2
    · exact pm_run_go (va_runS (As := As.map (pe_v E)) (rest := rest.map (pe_v E)) hCF hM ⟨pm_cb F0' hown hdd hco hlk2, hw⟩ ⟨pm_blind _ _ _, pm_pre_ok henv hS hP hsz As⟩ rfl (by rw [List.length_map]; exact hn) hl hst2 (lv_room (by rw [pe_cs hz]; exact Nat.le_of_ble_eq_true h8)) hd ⟨hc1, hs1⟩) hS kk2
    · exact pm_run_go (va_runSN (As := As.map (pe_v E)) (rest := rest.map (pe_v E)) hCF hM ⟨pm_cn_ok F0' hown hdd hco hlk2, hw, trivial⟩ ⟨pm_blind _ _ _, pm_pre_ok henv hS hP hsz As⟩ rfl (by rw [List.length_map]; exact hn) hl hst2 (lv_room (by rw [pe_cs hz]; exact Nat.le_of_ble_eq_true h8)) hd ⟨hc1, hs1⟩) hS kk2
  · have hst2 : (F0 m pc ls (st0.map (pe_v E))).stack = (As.map (pe_v E)).reverse ++ .ref (E.2.1 + q) :: rest.map (pe_v E) := by
      show st0.map (pe_v E) = _
      rw [hst]; simp [pe_v]
    have hw := hts _ (pm_KI_ok _ hK)
    simp only [pm_KI_w, hyk] at hw
    rcases hlk2 with hlk2 | hlk2
    · have hcb := pm_cb (mc := mc) F0' hown hdd hco hlk2
      rw [hi2] at hcb
      exact pm_run_go (va_runI (As := As.map (pe_v E)) (b := E.2.1 + q) (rest := rest.map (pe_v E)) hCF hM ⟨hcb, hi1, hw⟩ ⟨pm_blind _ _ _, pm_pre_ok henv hS hP hsz (.ref q :: As)⟩ rfl (by rw [List.length_map]; exact hn) hl hst2 (lv_room (by rw [pe_cs hz]; exact Nat.le_of_ble_eq_true h8)) hd ⟨hc1, hs1⟩) hS kk2
    · have hcb := pm_cn_ok (mc := mc) F0' hown hdd hco hlk2
      rw [hi2] at hcb
      exact pm_run_go (va_runIN (As := As.map (pe_v E)) (b := E.2.1 + q) (rest := rest.map (pe_v E)) hCF hM ⟨hcb, hi1, hw⟩ ⟨pm_blind _ _ _, pm_pre_ok henv hS hP hsz (.ref q :: As)⟩ rfl (by rw [List.length_map]; exact hn) hl hst2 (lv_room (by rw [pe_cs hz]; exact Nat.le_of_ble_eq_true h8)) hd ⟨hc1, hs1⟩) hS kk2
  · have hst2 : (F0 m pc ls (st0.map (pe_v E))).stack = (As.map (pe_v E)).reverse ++ .ref b :: rest.map (pe_v E) := by
      show st0.map (pe_v E) = _
      rw [hst]; simp [hvb]
    have hw := hts _ (pm_KI_ok _ hK1)
    simp only [pm_KI_w, hyk] at hw
    have hw2 := hts _ (pm_KE_ok _ hK2)
    simp only [pm_KE_w, hyk] at hw2
    have hpre : ∀ U : State, U.heap = H → s.WarmedH U.vm → pm_pre E (v :: As) h (Value.ref b :: As.map (pe_v E)).toArray U := by
      intro U hU hW
      have h5 := pm_pre_ok henv hS hP hsz (v :: As) U hU hW
      rw [pe_rest, hvb] at h5
      exact h5
    exact pm_run_go (va_runV (As := As.map (pe_v E)) (b := b) (C := M'.1.cls) (rest := rest.map (pe_v E)) hCF hM ⟨pm_cb F0' hown hdd hco hlk2, hw, hw2⟩ ⟨pm_blind _ _ _, hrc, hpre⟩ rfl (by rw [List.length_map]; exact hn) hl hst2 (lv_room (by rw [pe_cs hz]; exact Nat.le_of_ble_eq_true h8)) hd ⟨hc1, hs1⟩) hS kk2
end CA
