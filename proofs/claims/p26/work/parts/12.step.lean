/-! SOUNDNESS, 4: what a method's run is, calls, one step -/
def pm_rt (M : pm_M) (r : Option Value) (pc : Nat) : Prop := match r with
  | none => M.2.2.2.1 = none ∧ decode M.2.1 pc = .ok (.return_, 1)
  | some (.int v) => (∃ ty, M.2.2.2.1 = some ty ∧ narrow ty (.int v) = .int v) ∧ decode M.2.1 pc = .ok (.ireturn, 1)
  | some (.long _) => M.2.2.2.1 = some .long ∧ decode M.2.1 pc = .ok (.lreturn, 1)
  | _ => False
/-- from this place of method k, with this heap, the machine comes to a return with Q; d: how deep calls may go; mc: how many cells may be made -/
def pm_Ok (E : pm_E) (d k mc idx : Nat) (L st : List Value) (h : pm_H) (Q : Option Value → pm_H → Prop) : Prop :=
  ∀ (M : pm_M) (i : pm_I), pm_tab[k]? = some M → pm_nth M.2.2.2.2.2 idx = some i → L.length = M.2.2.1 →
  ∀ (p : Program) (e : Env) (R : Room) (s : State) (m : MethodId) (args : Array Value) (below : List Frame) (meth : Method) (c : Code), pm_Fx E M d p R s m args meth c →
  ∀ (QQ : State → Prop) (H : Heap) (locs : List Loc) (cells slots : Nat) (ls : Array Slot),
    va_P (pe_D E) pm_cls (pe_w E h) H → va_S (pe_A E) s.heap H locs → s.heap.size + cells = E.2.1 + h.length → lv_has ls M.2.2.1 (pe_ls E L) → cells + mc ≤ R.cells → slots + 20000 * mc ≤ R.slots →
    (∀ (r : Option Value) (h' : pm_H) (H' : Heap) (locs' : List Loc) (cells' slots' pc' : Nat) (ls' : Array Slot), Q r h' → va_P (pe_D E) pm_cls (pe_w E h') H' → va_S (pe_A E) s.heap H' locs' → s.heap.size + cells' = E.2.1 + h'.length → cells' ≤ R.cells → slots' ≤ R.slots → pm_rt M r pc' → W p E.1 e R s m args below meth c H' locs' cells' slots' QQ (F0 m pc' ls' (r.toList.map (pe_v E)))) →
    W p E.1 e R s m args below meth c H locs cells slots QQ (F0 m i.1 ls (st.map (pe_v E)))
def pm_pre (E : pm_E) (av : List Value) (h : pm_H) : Array Value → State → Prop := fun v U => v = (av.map (pe_v E)).toArray ∧ U.heap.size = E.2.1 + h.length ∧ va_P (pe_D E) pm_cls (pe_w E h) U.heap ∧ pm_env E U U.heap
def pm_post (E : pm_E) (n : Nat) (Q : Option Value → pm_H → Prop) : Array Value → State → Outcome → State → Prop := fun _ st oc t => ∃ (r : Option Value) (h' : pm_H), oc = .returned (r.map (pe_v E)) ∧ Q r h' ∧ h'.length = n ∧ va_P (pe_D E) pm_cls (pe_w E h') t.heap ∧ st.heap.size ≤ t.heap.size ∧ ∀ q : Nat, q < st.heap.size → ¬ pe_A E q → t.heap[q]? = st.heap[q]?
def pm_rm (d mc : Nat) : Room := { frames := d, cells := mc, slots := 20000 * mc, locals := 64 * d }
def pm_ws (M : pm_M) : List Cond := .code M.1 M.2.1 M.2.2.1 M.2.2.2.1 :: pm_big
def pm_Call (E : pm_E) (d k mc : Nat) (av : List Value) (h : pm_H) (Q : Option Value → pm_H → Prop) : Prop :=
  ∀ M : pm_M, pm_tab[k]? = some M → k < 256 → Met E.1 M.1 (pm_ws M) (pm_rm d mc) (pm_pre E av h) (pm_post E (h.length + mc) Q) mc (20000 * mc) (pe_A E)
theorem pm_Ok.mono {E : pm_E} {d k mc idx : Nat} {L st : List Value} {h : pm_H} {Q Q' : Option Value → pm_H → Prop} (hok : pm_Ok E d k mc idx L st h Q) (hQ : ∀ r h', Q r h' → Q' r h') : pm_Ok E d k mc idx L st h Q' :=
  fun M i h1 h2 h3 p e R s m args below meth c F QQ H locs cells slots ls a1 a2 a3 a4 a5 a6 kk => hok M i h1 h2 h3 p e R s m args below meth c F QQ H locs cells slots ls a1 a2 a3 a4 a5 a6 (fun r h' H' locs' cells' slots' pc' ls' q => kk r h' H' locs' cells' slots' pc' ls' (hQ r h' q))
section ST
variable {E : pm_E} {M : pm_M} {d : Nat} {p : Program} {l : Launch} {e : Env} {R : Room} {s : State} {m : MethodId} {args : Array Value} {below : List Frame} {meth : Method} {c : Code} {H : Heap} {locs : List Loc} {cells slots : Nat} {QQ : State → Prop}
variable {pc : Nat} {ls : Array Slot} {st : List Value} {h : pm_H}
theorem pm_Wsz {g : JFrame} (k : H.size ≤ s.heap.size + cells → W p l e R s m args below meth c H locs cells slots QQ g) : W p l e R s m args below meth c H locs cells slots QQ g := by
  intro T hT X
  exact k (by rw [← hT]; exact X.heapSize) T hT X
theorem pe_lo (hP : va_P (pe_D E) pm_cls (pe_w E h) H) (hb : E.2.1 ≤ H.size) : E.2.1 + h.length ≤ H.size := by
  rcases Nat.eq_zero_or_pos h.length with z | z
  · omega
  · have hx : ∃ c, h[h.length - 1]? = some c := ⟨_, List.getElem?_eq_getElem (by omega)⟩
    obtain ⟨c, hc⟩ := hx
    have h1 := (hP _ _ (pe_w_get hc)).lt
    have h2 : E.2.1 + (h.length - 1) < H.size := h1
    omega
theorem pm_dfl_map (x : Nat) : (pm_dfl x).map (pe_v E) = pm_dfl x := by
  unfold pm_dfl
  split
  · rw [List.map_map]
    apply List.map_congr_left
    intro j _
    dsimp only [Function.comp]
    split <;> rfl
  · rfl
theorem pm_dfl_len {x : Nat} {q : vw_C} (h : pm_cls[x]? = some q) : (pm_dfl x).length = q.2.2 := by
  unfold pm_dfl
  rw [pm_nth_eq, h]
  simp
theorem pm_new_at {ws : va_W} {q : Nat} {ee : va_E} {H1 : Heap} (hws : ws = pe_w E h) (hP1 : va_P (pe_D E) pm_cls (ws ++ [(q, ee)]) H1) (hD1 : va_D (pe_A E) (ws ++ [(q, ee)])) (hz : H1.size ≤ E.2.1 + h.length + 1) : q = E.2.1 + h.length := by
  subst hws
  have hlen : (pe_w E h).length = h.length := pe_w_len
  have hlast : (pe_w E h ++ [(q, ee)])[h.length]? = some (q, ee) := by rw [← hlen]; simp
  have h1 : q < H1.size := (hP1 _ _ hlast).lt
  have h2 : E.2.1 ≤ q := hD1.2 _ _ hlast
  rcases Nat.lt_or_ge (q - E.2.1) h.length with h3 | h3
  · have hx : ∃ c, h[q - E.2.1]? = some c := ⟨_, List.getElem?_eq_getElem h3⟩
    obtain ⟨c, hc⟩ := hx
    have h4 : (pe_w E h ++ [(q, ee)])[q - E.2.1]? = some (E.2.1 + (q - E.2.1), pe_c E c) := by
      rw [List.getElem?_append_left (by rw [hlen]; exact h3)]
      exact pe_w_get hc
    have h5 := hD1.1 _ _ _ _ h4 hlast (by show E.2.1 + (q - E.2.1) = q; omega)
    omega
  · omega
theorem pm_gnew_ok (F : pm_Fx E M d p R s m args meth c) (hown : M.1.cls = pm_cn.getD M.2.2.2.2.1 "") (hP : va_P (pe_D E) pm_cls (pe_w E h) H) (hS : va_S (pe_A E) s.heap H locs) (hcs : s.heap.size + cells = E.2.1 + h.length) {x k : Nat} (hd : decode M.2.1 pc = .ok (.new k, 3)) (hc : (M.2.2.2.2.1, k, x) ∈ pm_NW) (hx13 : x < 13) (hc1 : cells + 1 ≤ R.cells) (hs1 : slots + 20000 ≤ R.slots)
    (kk : ∀ (H1 : Heap), va_P (pe_D E) pm_cls (pe_w E (h ++ [.inr (x, pm_dfl x)])) H1 → va_S (pe_A E) s.heap H1 locs → W p E.1 e R s m args below meth c H1 locs (cells + 1) (slots + 20000) QQ (F0 m (pc + 3) ls (.ref (E.2.1 + h.length) :: st.map (pe_v E)))) : W p E.1 e R s m args below meth c H locs cells slots QQ (F0 m pc ls (st.map (pe_v E))) := by
  obtain ⟨hx, hb, hml, ho, hts, hlk, hr, hnm, hf1, hf2, henv⟩ := F
  have hq : ∃ q, pm_cls[x]? = some q := ⟨_, List.getElem?_eq_getElem (show x < pm_cls.length from hx13)⟩
  obtain ⟨q, hq⟩ := hq
  obtain ⟨hin, ⟨ty0, hty0, hdf⟩, hn5⟩ := pm_cls_ok hq
  have hN := pm_dfl_len hq
  have hN2 : q.2.2 ≤ 20000 := by
    have h0 : ∀ j, j < 13 → (pm_cls.getD j ("", pT_0, 0)).2.2 ≤ 20000 := by decide
    have h1 := h0 x hx13
    rw [List.getD_eq_getElem?_getD, hq] at h1
    exact h1
  have hgd : pm_cls.getD x ("", pT_0, 0) = q := by rw [List.getD_eq_getElem?_getD, hq]; rfl
  have hw1 := hts _ (pm_NW_ok _ hc)
  have hw2 := hts _ (pm_IC_ok x (by
    have : ∀ j, j < 13 → j ∈ pm_IC := by decide
    exact this x hx13))
  have hnm2 : q.1 = pm_cn.getD x "" := by
    have h0 : ∀ j, j < 13 → (pm_cls.getD j ("", pT_0, 0)).1 = pm_cn.getD j "" := by decide
    rw [← h0 x hx13, hgd]
  have hw3 := hts _ (pm_IN_ok x (by
    have : ∀ j, j < 13 → j ∈ pm_IN := by decide
    exact this x hx13))
  simp only [pm_NW_w, pm_IC_w, pm_IN_w, hgd] at hw1 hw2 hw3
  obtain ⟨C, T, N⟩ := q
  refine va_new (ci := x) (fs := pm_dfl x) (C := C) (T := T) (N := N) hx hb hts hin ty0 hty0 ho (by rw [hown]; exact hw1) hw2 (by have e5 : C = _ := hnm2; rw [e5]; exact hw3) henv.1 hP pe_w_D hS (fun q h5 => Nat.le_trans henv.2.2.2.2.2.2.2.2.2.2.2 h5) hq hdf hc1 (by have : N ≤ 20000 := hN2; omega) hd (fun q H1 hP1 hD1 hS1 => ?_)
  refine pm_Wsz (fun hz => ?_)
  have e1 := pm_new_at rfl hP1 hD1 (by omega)
  subst e1
  refine W.widen (Nat.le_refl _) (show slots + N ≤ slots + 20000 by have : N ≤ 20000 := hN2; omega) ?_
  refine kk H1 ?_ hS1
  rw [pe_w_push]
  show va_P _ _ (_ ++ [(_, .inr (x, (pm_dfl x).map (pe_v E)))]) _
  rw [pm_dfl_map]
  exact hP1
theorem pm_arr_K (henv : pm_env E s s.heap) {cA : ClassId} {ty : FieldType} {kd : Nat} (hk : (kd = 0 ∧ ty = .int) ∨ (kd = 1 ∧ ty = .boolean) ∨ (kd = 2 ∧ ty = .long)) (h1 : va_K (pe_D E) pm_cls (pe_ty E ++ [(cA, ty)]) s) : cA = pe_K E kd := by
  have h2 := (h1.2 3 (cA, ty) rfl).2
  have h0 := henv.1.2
  rcases hk with ⟨rfl, rfl⟩ | ⟨rfl, rfl⟩ | ⟨rfl, rfl⟩
  · have h3 := (h0 0 _ rfl).2
    exact Option.some.inj (h2.symm.trans h3)
  · have h3 := (h0 1 _ rfl).2
    exact Option.some.inj (h2.symm.trans h3)
  · have h3 := (h0 2 _ rfl).2
    exact Option.some.inj (h2.symm.trans h3)
theorem pm_gnwa_ok (F : pm_Fx E M d p R s m args meth c) (hP : va_P (pe_D E) pm_cls (pe_w E h) H) (hS : va_S (pe_A E) s.heap H locs) (hcs : s.heap.size + cells = E.2.1 + h.length) {t : ArrayType} {kd : Nat} {ty : FieldType} {n : Int32} {a0 : vp_A} (hd : decode M.2.1 pc = .ok (.newarray t, 2)) (hk : (kd = 0 ∧ ty = .int ∧ t = .int ∧ a0 = (n.toNatClampNeg, .inl (fun _ => 0))) ∨ (kd = 1 ∧ ty = .boolean ∧ t = .boolean ∧ a0 = (n.toNatClampNeg, .inl (fun _ => 0))) ∨ (kd = 2 ∧ ty = .long ∧ t = .long ∧ a0 = (n.toNatClampNeg, .inr (.inl (fun _ => 0))))) (hn : ¬ n < 0 ∧ n.toNatClampNeg ≤ 20000) (hc1 : cells + 1 ≤ R.cells) (hs1 : slots + 20000 ≤ R.slots)
    (kk : ∀ (H1 : Heap), va_P (pe_D E) pm_cls (pe_w E (h ++ [.inl (kd, a0)])) H1 → va_S (pe_A E) s.heap H1 locs → W p E.1 e R s m args below meth c H1 locs (cells + 1) (slots + 20000) QQ (F0 m (pc + 2) ls (.ref (E.2.1 + h.length) :: st.map (pe_v E)))) : W p E.1 e R s m args below meth c H locs cells slots QQ (F0 m pc ls (.int n :: st.map (pe_v E))) := by
  obtain ⟨hx, hb, hml, ho, hts, hlk, hr, hnm, hf1, hf2, henv⟩ := F
  have hbase := henv.2.2.2.2.2.2.2.2.2.2.2
  have key : ∀ (hty : newarray.typeOf t = ty) (harr : (Cond.arrayClass (newarray.typeOf t)).before args s = true) (ha : ∀ cA : ClassId, vp_cell cA a0 = arrV cA n.toNatClampNeg (fun _ => defaultValue ty)) (hby : n.toNatClampNeg * componentBytes ty ≤ 536870912) (hk2 : (kd = 0 ∧ ty = .int) ∨ (kd = 1 ∧ ty = .boolean) ∨ (kd = 2 ∧ ty = .long)), W p E.1 e R s m args below meth c H locs cells slots QQ (F0 m pc ls (.int n :: st.map (pe_v E))) := by
    intro hty harr ha hby hk2
    refine va_newa hx hb harr hty henv.1 hP pe_w_D hS (fun q h5 => Nat.le_trans hbase h5) ha hn.1 rfl hby hc1 (by omega) hd (fun q cA H1 hK1 hP1 hD1 hS1 => ?_)
    refine pm_Wsz (fun hz => ?_)
    have e1 := pm_new_at rfl hP1 hD1 (by omega)
    subst e1
    have e2 := pm_arr_K henv hk2 hK1
    subst e2
    refine W.widen (Nat.le_refl _) (show slots + n.toNatClampNeg ≤ slots + 20000 by omega) ?_
    refine kk H1 ?_ hS1
    rw [pe_w_push]
    exact hP1
  rcases hk with ⟨rfl, rfl, rfl, rfl⟩ | ⟨rfl, rfl, rfl, rfl⟩ | ⟨rfl, rfl, rfl, rfl⟩
  · exact key rfl (hts _ pm_w_a_int) (fun cA => by rw [vp_cell_i]; rfl) (by rw [show componentBytes .int = 4 from rfl]; omega) (Or.inl ⟨rfl, rfl⟩)
  · exact key rfl (hts _ pm_w_a_boolean) (fun cA => by rw [vp_cell_i]; rfl) (by rw [show componentBytes .boolean = 1 from rfl]; omega) (Or.inr (Or.inl ⟨rfl, rfl⟩))
  · exact key rfl (hts _ pm_w_a_long) (fun cA => by rw [vp_cell_l]; rfl) (by rw [show componentBytes .long = 8 from rfl]; omega) (Or.inr (Or.inr ⟨rfl, rfl⟩))
end ST
