/-! THE LAW'S START: what the Statement gives of it is the abstract machine's environment -/
def pm_tm (i : Nat) : Term := match i with
  | 0 => .string "PaidWhereMade$LawReader" 137
  | _ => .string "PaidWhereMade$LawReader" 152
abbrev pm_gn : Cond := Jvm.Cond.and given_1 narrow_1
theorem pm_f_ex : ∀ i, i < 2 → (Cond.exactly (pm_tm i) "java/lang/String") ∈ flatC pm_gn := by decide +kernel
theorem pm_f_co : ∀ i, i < 2 → (Cond.eq (.field (pm_tm i) "java/lang/String" "coder" "B") (.int 0)) ∈ flatC pm_gn := by decide +kernel
theorem pm_f_ar : ∀ i, i < 2 → (Cond.arrayOf (.field (pm_tm i) "java/lang/String" "value" "[B") .byte) ∈ flatC pm_gn := by decide +kernel
theorem pm_f_le : ∀ i, i < 2 → (Cond.eq (.length (.field (pm_tm i) "java/lang/String" "value" "[B")) (.int (Int32.ofNat (pm_len.getD i 0)))) ∈ flatC pm_gn := by decide +kernel
set_option maxRecDepth 100000 in
theorem pm_f_el : ∀ i, i < 2 → ∀ j, j < pm_len.getD i 0 → (Cond.eq (.elem (.field (pm_tm i) "java/lang/String" "value" "[B") (.int (Int32.ofNat j))) (.int ((pm_byt.getD i []).getD j 0))) ∈ flatC pm_gn := by decide +kernel
theorem pm_f_ne : (Cond.not (Cond.eq (pm_tm 0) (pm_tm 1))) ∈ flatC pm_gn := by decide +kernel
theorem pm_f_cs : (Cond.eq (.static "java/lang/String" "COMPACT_STRINGS" "Z") (.int 1)) ∈ flatC pm_gn := by decide +kernel
theorem pm_f_fo : (Cond.isRef (.static "jdk/internal/util/Preconditions" "SIOOBE_FORMATTER" "Ljava/util/function/BiFunction;")) ∈ flatC pm_gn := by decide +kernel
theorem pm_t_s0 : (Cond.stringRef "PaidWhereMade$LawReader" 137 pm_kw) ∈ lw_tbl := by decide +kernel
theorem pm_t_s1 : (Cond.stringRef "PaidWhereMade$LawReader" 152 pm_sg) ∈ lw_tbl := by decide +kernel
theorem pm_t_l0 : (Cond.laysStatic "java/lang/String" "COMPACT_STRINGS" "Z") ∈ lw_tbl := by decide +kernel
theorem pm_t_l1 : (Cond.laysStatic "jdk/internal/util/Preconditions" "SIOOBE_FORMATTER" "Ljava/util/function/BiFunction;") ∈ lw_tbl := by decide +kernel
theorem pm_t_i0 : (Cond.initialized "java/lang/String") ∈ lw_tbl := by decide +kernel
theorem pm_t_i1 : (Cond.initialized "jdk/internal/util/Preconditions") ∈ lw_tbl := by decide +kernel
theorem pm_arr_of {s : State} {args : Array Value} {ty : FieldType} (h : (Cond.arrayClass ty).before args s = true) (hp : ∀ C, ty ≠ .object C) : ∃ cA : ClassId, ArrOfT s cA ty ∧ va_RA s cA ty := by
  obtain ⟨c, k, comp, h1, h2, h3⟩ := Cond.arrayClass_spec h
  refine ⟨c, fun n z => ⟨fun k h => (by cases h), k, h2, comp, h3⟩, ?_⟩
  cases ty with
  | object C => exact absurd rfl (hp C)
  | _ => exact h1
theorem pm_start {p : Program} {s : State} {m : MethodId} {meth : Method} {c : Code} (l : Launch) {b L : Nat} {xs : Nat → Int32} (C0 : lw_At p s m meth c b L xs) : ∃ E : pm_E, E.1 = l ∧ E.2.1 = s.heap.size ∧ pe_b E = b ∧ pe_n E = L ∧ pe_x E = xs ∧ pm_env E s s.heap := by
  obtain ⟨hx, hb, hr, hml, hown, hts, hX, hbl, hlocks, hgv⟩ := C0
  have hfl := flat_of_before pm_gn hgv
  have hbig : ∀ w ∈ pm_big, w.before #[Value.ref b] s = true := fun w hw => hts w (List.mem_filter.mp hw).1
  have hA : ∀ a : Nat, a < s.heap.size → ¬ (fun q : Nat => s.heap.size ≤ q) a := fun a h => Nat.not_le.mpr h
  have hcl : ∀ k : Nat, ∃ q : ClassId × (Nat → Nat), ∀ r : vw_C, pm_cls[k]? = some r → u_Kn s r.1 r.2.1 r.2.2 q.1 q.2 := by
    intro k
    cases hk : pm_cls[k]? with
    | none => exact ⟨(0, fun _ => 0), fun r h => by cases h⟩
    | some r =>
      have h13 : k < 13 := (List.getElem?_eq_some_iff.mp hk).1
      have hw := hbig _ (pm_IC_ok k (by
        have : ∀ j, j < 13 → j ∈ pm_IC := by decide
        exact this k h13))
      have hgd : pm_cls.getD k ("", pT_0, 0) = r := by rw [List.getD_eq_getElem?_getD, hk]; rfl
      simp only [pm_IC_w, hgd] at hw
      obtain ⟨cC, iS, hKn⟩ := u_known (C := r.1) (T := r.2.1) (N := r.2.2) hbig (pm_cls_ok hk).1 hw
      exact ⟨(cC, iS), fun r' h => by cases h; exact hKn⟩
  obtain ⟨dd, hdd⟩ := Classical.axiomOfChoice hcl
  obtain ⟨cI, hI1, hI2⟩ := pm_arr_of (hbig _ pm_w_a_int) (fun C h => by cases h)
  obtain ⟨cZ, hZ1, hZ2⟩ := pm_arr_of (hbig _ pm_w_a_boolean) (fun C h => by cases h)
  obtain ⟨cJ, hJ1, hJ2⟩ := pm_arr_of (hbig _ pm_w_a_long) (fun C h => by cases h)
  obtain ⟨adK, adV, hST, hEv⟩ := vk_Sof (N := 2) (tm := pm_tm) (len := pm_len) (byt := pm_byt) (A := fun q : Nat => s.heap.size ≤ q) (by decide +kernel) (fun i hi => hfl _ (pm_f_ex i hi)) (fun i hi => hfl _ (pm_f_co i hi)) (fun i hi => hfl _ (pm_f_ar i hi)) (fun i hi => hfl _ (pm_f_le i hi)) (fun i hi j hj => hfl _ (pm_f_el i hi j hj)) (fun i j hi hj hij => by
    rcases (show (i = 0 ∧ j = 1) ∨ (i = 1 ∧ j = 0) by omega) with ⟨rfl, rfl⟩ | ⟨rfl, rfl⟩
    · exact Or.inl (hfl _ pm_f_ne)
    · exact Or.inr (hfl _ pm_f_ne)) hA
  have hZ0 : va_Z "java/lang/String" "COMPACT_STRINGS" "Z" (.int 1) (fun q : Nat => s.heap.size ≤ q) s s.heap := va_Zof (hts _ pm_t_l0) (hts _ pm_t_i0) (va_eqi (hfl _ pm_f_cs)) hA
  have hZq : ∃ z : Value, va_Z "jdk/internal/util/Preconditions" "SIOOBE_FORMATTER" "Ljava/util/function/BiFunction;" z (fun q : Nat => s.heap.size ≤ q) s s.heap ∧ (z = .null ∨ ∃ a, z = .ref a) := by
    rcases va_Zqof (hts _ pm_t_l1) (hts _ pm_t_i1) (hfl _ pm_f_fo) hA with h | ⟨t, h⟩
    · exact ⟨.null, h, Or.inl rfl⟩
    · exact ⟨.ref t, h, Or.inr ⟨t, rfl⟩⟩
  obtain ⟨z, hz1, hz2⟩ := hZq
  refine ⟨(l, s.heap.size, fun k => (dd k).1, fun k => (dd k).2, fun k => match k with | 0 => cI | 1 => cZ | _ => cJ, adK, adV, z, b, L, xs), rfl, rfl, rfl, rfl, rfl, ⟨fun k q h => hdd k q h, fun k q h => ?_⟩, hST, hZ0, hz1, vk_R.of (hts _ pm_t_s0) (hEv 0 (by decide)), vk_R.of (hts _ pm_t_s1) (hEv 1 (by decide)), fun q hq => va_Nw.of rfl (hts _ (pm_MN_ok q hq)), hX, hbl, hbl, hz2, Nat.le_refl _⟩
  match k, h with
  | 0, h => cases h; exact ⟨hI1, hI2⟩
  | 1, h => cases h; exact ⟨hZ1, hZ2⟩
  | 2, h => cases h; exact ⟨hJ1, hJ2⟩
  | k + 3, h => simp [pe_ty] at h
