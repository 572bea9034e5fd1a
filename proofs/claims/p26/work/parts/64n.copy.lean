/-! the class copies exactly -/
/-- (from, to, n): the first n cells of a place are those of another -/
def CPR (ps : List (Nat × Nat × Nat)) (σ τ : pm_S) : Prop := ∀ t ∈ ps, ∀ j, j < t.2.2 → τ.1 t.2.1 j = σ.1 t.1 j
theorem CPR.nil {σ τ : pm_S} : CPR [] σ τ := fun t ht => absurd ht List.not_mem_nil
theorem CPR.app {a b : List (Nat × Nat × Nat)} {σ τ : pm_S} (h : CPR a σ τ) (h' : CPR b σ τ) : CPR (a ++ b) σ τ := fun t ht => by
  rcases List.mem_append.mp ht with q | q
  · exact h t q
  · exact h' t q
theorem CPR.post {ps : List (Nat × Nat × Nat)} {G : List (Nat × Nat)} {σ τ υ : pm_S} (hc : ps.all (fun t => !an_inP G t.2.1) = true) (hF : FQ G τ υ) (h : CPR ps σ τ) : CPR ps σ υ := fun t ht j hj => by
  have c := List.all_eq_true.mp hc t ht
  rw [Bool.not_eq_true'] at c
  rw [hF _ _ (an_inP_ok c j)]
  exact h t ht j hj
theorem CPR.pre {ps : List (Nat × Nat × Nat)} {G : List (Nat × Nat)} {σ τ υ : pm_S} (hc : ps.all (fun t => !an_inP G t.1) = true) (hF : FQ G σ τ) (h : CPR ps τ υ) : CPR ps σ υ := fun t ht j hj => by
  have c := List.all_eq_true.mp hc t ht
  rw [Bool.not_eq_true'] at c
  rw [h t ht j hj, hF _ _ (an_inP_ok c j)]
def cpy (σ : pm_S) (p q n : Nat) : pm_S := (va_up σ.1 q (va_cpy (σ.1 p) (σ.1 q) 0 0 n), σ.2)
theorem cpy_F {σ : pm_S} {p q n : Nat} : FQ [(q, 9999)] σ (cpy σ p q n) := fun p' j h => by
  have e : p' ≠ q := fun z => by
    rw [an_inF_mem.mpr ⟨(q, 9999), List.mem_singleton.mpr rfl, Or.inl z.symm, Or.inr rfl⟩] at h
    cases h
  exact congrFun (va_up_ne σ.1 _ e) j
theorem cpy_C {σ : pm_S} {p q n : Nat} : CPR [(p, q, n)] σ (cpy σ p q n) := fun t ht j hj => by
  rw [List.mem_singleton.mp ht] at hj ⊢
  have hj : j < n := hj
  show va_up σ.1 q (va_cpy (σ.1 p) (σ.1 q) 0 0 n) q j = σ.1 p j
  rw [va_up_self]
  unfold va_cpy
  rw [if_pos ⟨Nat.zero_le j, by omega⟩, Nat.sub_zero, Nat.zero_add]
def GBc (ps : List (Nat × Nat × Nat)) (G : List (Nat × Nat)) : Bool := G.all (fun g => Nat.blt g.1 9999 && ps.any (fun t => Nat.beq t.2.1 g.1 && (match Nat.beq g.2 9999 with
  | true => Nat.ble (an_len g.1) t.2.2
  | false => Nat.blt g.2 t.2.2) && decide (pm_nth pm_B t.1 = pm_nth pm_B t.2.1) && Nat.ble t.2.2 (an_len t.1)))
set_option maxRecDepth 20000 in
theorem x_row_2_35 {σ : pm_S} : Sp 157 2 [.ref 2, .ref 35] σ (fun r τ => r = none ∧ FQ [(35, 9999)] σ τ ∧ CPR [(2, 35, 4)] σ τ) := by
  refine S_PaidWhereMade_copyRow [] 400 rfl (fun R cl Z hR hcl hZ => ?_)
  conv => whnf
  exact ⟨fun _ => hZ _ (cpy σ 2 35 4) ⟨rfl, cpy_F, cpy_C⟩, fun z => absurd (by decide) z⟩
set_option maxRecDepth 20000 in
theorem x_row_35_2 {σ : pm_S} : Sp 157 2 [.ref 35, .ref 2] σ (fun r τ => r = none ∧ FQ [(2, 9999)] σ τ ∧ CPR [(35, 2, 4)] σ τ) := by
  refine S_PaidWhereMade_copyRow [] 400 rfl (fun R cl Z hR hcl hZ => ?_)
  conv => whnf
  exact ⟨fun _ => hZ _ (cpy σ 35 2 4) ⟨rfl, cpy_F, cpy_C⟩, fun z => absurd (by decide) z⟩
set_option maxRecDepth 20000 in
theorem x_row_4_37 {σ : pm_S} : Sp 157 2 [.ref 4, .ref 37] σ (fun r τ => r = none ∧ FQ [(37, 9999)] σ τ ∧ CPR [(4, 37, 10)] σ τ) := by
  refine S_PaidWhereMade_copyRow [] 400 rfl (fun R cl Z hR hcl hZ => ?_)
  conv => whnf
  exact ⟨fun _ => hZ _ (cpy σ 4 37 10) ⟨rfl, cpy_F, cpy_C⟩, fun z => absurd (by decide) z⟩
set_option maxRecDepth 20000 in
theorem x_row_37_4 {σ : pm_S} : Sp 157 2 [.ref 37, .ref 4] σ (fun r τ => r = none ∧ FQ [(4, 9999)] σ τ ∧ CPR [(37, 4, 10)] σ τ) := by
  refine S_PaidWhereMade_copyRow [] 400 rfl (fun R cl Z hR hcl hZ => ?_)
  conv => whnf
  exact ⟨fun _ => hZ _ (cpy σ 37 4 10) ⟨rfl, cpy_F, cpy_C⟩, fun z => absurd (by decide) z⟩
set_option maxRecDepth 20000 in
theorem x_row_5_38 {σ : pm_S} : Sp 157 2 [.ref 5, .ref 38] σ (fun r τ => r = none ∧ FQ [(38, 9999)] σ τ ∧ CPR [(5, 38, 100)] σ τ) := by
  refine S_PaidWhereMade_copyRow [] 400 rfl (fun R cl Z hR hcl hZ => ?_)
  conv => whnf
  exact ⟨fun _ => hZ _ (cpy σ 5 38 100) ⟨rfl, cpy_F, cpy_C⟩, fun z => absurd (by decide) z⟩
set_option maxRecDepth 20000 in
theorem x_row_38_5 {σ : pm_S} : Sp 157 2 [.ref 38, .ref 5] σ (fun r τ => r = none ∧ FQ [(5, 9999)] σ τ ∧ CPR [(38, 5, 100)] σ τ) := by
  refine S_PaidWhereMade_copyRow [] 400 rfl (fun R cl Z hR hcl hZ => ?_)
  conv => whnf
  exact ⟨fun _ => hZ _ (cpy σ 38 5 100) ⟨rfl, cpy_F, cpy_C⟩, fun z => absurd (by decide) z⟩
set_option maxRecDepth 20000 in
theorem x_row_6_39 {σ : pm_S} : Sp 157 2 [.ref 6, .ref 39] σ (fun r τ => r = none ∧ FQ [(39, 9999)] σ τ ∧ CPR [(6, 39, 80)] σ τ) := by
  refine S_PaidWhereMade_copyRow [] 400 rfl (fun R cl Z hR hcl hZ => ?_)
  conv => whnf
  exact ⟨fun _ => hZ _ (cpy σ 6 39 80) ⟨rfl, cpy_F, cpy_C⟩, fun z => absurd (by decide) z⟩
set_option maxRecDepth 20000 in
theorem x_row_39_6 {σ : pm_S} : Sp 157 2 [.ref 39, .ref 6] σ (fun r τ => r = none ∧ FQ [(6, 9999)] σ τ ∧ CPR [(39, 6, 80)] σ τ) := by
  refine S_PaidWhereMade_copyRow [] 400 rfl (fun R cl Z hR hcl hZ => ?_)
  conv => whnf
  exact ⟨fun _ => hZ _ (cpy σ 39 6 80) ⟨rfl, cpy_F, cpy_C⟩, fun z => absurd (by decide) z⟩
set_option maxRecDepth 20000 in
theorem x_row_8_41 {σ : pm_S} : Sp 157 2 [.ref 8, .ref 41] σ (fun r τ => r = none ∧ FQ [(41, 9999)] σ τ ∧ CPR [(8, 41, 10)] σ τ) := by
  refine S_PaidWhereMade_copyRow [] 400 rfl (fun R cl Z hR hcl hZ => ?_)
  conv => whnf
  exact ⟨fun _ => hZ _ (cpy σ 8 41 10) ⟨rfl, cpy_F, cpy_C⟩, fun z => absurd (by decide) z⟩
set_option maxRecDepth 20000 in
theorem x_row_41_8 {σ : pm_S} : Sp 157 2 [.ref 41, .ref 8] σ (fun r τ => r = none ∧ FQ [(8, 9999)] σ τ ∧ CPR [(41, 8, 10)] σ τ) := by
  refine S_PaidWhereMade_copyRow [] 400 rfl (fun R cl Z hR hcl hZ => ?_)
  conv => whnf
  exact ⟨fun _ => hZ _ (cpy σ 41 8 10) ⟨rfl, cpy_F, cpy_C⟩, fun z => absurd (by decide) z⟩
set_option maxRecDepth 20000 in
theorem x_row_9_42 {σ : pm_S} : Sp 157 2 [.ref 9, .ref 42] σ (fun r τ => r = none ∧ FQ [(42, 9999)] σ τ ∧ CPR [(9, 42, 10)] σ τ) := by
  refine S_PaidWhereMade_copyRow [] 400 rfl (fun R cl Z hR hcl hZ => ?_)
  conv => whnf
  exact ⟨fun _ => hZ _ (cpy σ 9 42 10) ⟨rfl, cpy_F, cpy_C⟩, fun z => absurd (by decide) z⟩
set_option maxRecDepth 20000 in
theorem x_row_42_9 {σ : pm_S} : Sp 157 2 [.ref 42, .ref 9] σ (fun r τ => r = none ∧ FQ [(9, 9999)] σ τ ∧ CPR [(42, 9, 10)] σ τ) := by
  refine S_PaidWhereMade_copyRow [] 400 rfl (fun R cl Z hR hcl hZ => ?_)
  conv => whnf
  exact ⟨fun _ => hZ _ (cpy σ 42 9 10) ⟨rfl, cpy_F, cpy_C⟩, fun z => absurd (by decide) z⟩
set_option maxRecDepth 20000 in
theorem x_row_10_43 {σ : pm_S} : Sp 157 2 [.ref 10, .ref 43] σ (fun r τ => r = none ∧ FQ [(43, 9999)] σ τ ∧ CPR [(10, 43, 10)] σ τ) := by
  refine S_PaidWhereMade_copyRow [] 400 rfl (fun R cl Z hR hcl hZ => ?_)
  conv => whnf
  exact ⟨fun _ => hZ _ (cpy σ 10 43 10) ⟨rfl, cpy_F, cpy_C⟩, fun z => absurd (by decide) z⟩
set_option maxRecDepth 20000 in
theorem x_row_43_10 {σ : pm_S} : Sp 157 2 [.ref 43, .ref 10] σ (fun r τ => r = none ∧ FQ [(10, 9999)] σ τ ∧ CPR [(43, 10, 10)] σ τ) := by
  refine S_PaidWhereMade_copyRow [] 400 rfl (fun R cl Z hR hcl hZ => ?_)
  conv => whnf
  exact ⟨fun _ => hZ _ (cpy σ 43 10 10) ⟨rfl, cpy_F, cpy_C⟩, fun z => absurd (by decide) z⟩
set_option maxRecDepth 20000 in
theorem x_row_11_44 {σ : pm_S} : Sp 157 2 [.ref 11, .ref 44] σ (fun r τ => r = none ∧ FQ [(44, 9999)] σ τ ∧ CPR [(11, 44, 10)] σ τ) := by
  refine S_PaidWhereMade_copyRow [] 400 rfl (fun R cl Z hR hcl hZ => ?_)
  conv => whnf
  exact ⟨fun _ => hZ _ (cpy σ 11 44 10) ⟨rfl, cpy_F, cpy_C⟩, fun z => absurd (by decide) z⟩
set_option maxRecDepth 20000 in
theorem x_row_44_11 {σ : pm_S} : Sp 157 2 [.ref 44, .ref 11] σ (fun r τ => r = none ∧ FQ [(11, 9999)] σ τ ∧ CPR [(44, 11, 10)] σ τ) := by
  refine S_PaidWhereMade_copyRow [] 400 rfl (fun R cl Z hR hcl hZ => ?_)
  conv => whnf
  exact ⟨fun _ => hZ _ (cpy σ 44 11 10) ⟨rfl, cpy_F, cpy_C⟩, fun z => absurd (by decide) z⟩
set_option maxRecDepth 20000 in
theorem x_row_12_45 {σ : pm_S} : Sp 157 2 [.ref 12, .ref 45] σ (fun r τ => r = none ∧ FQ [(45, 9999)] σ τ ∧ CPR [(12, 45, 10)] σ τ) := by
  refine S_PaidWhereMade_copyRow [] 400 rfl (fun R cl Z hR hcl hZ => ?_)
  conv => whnf
  exact ⟨fun _ => hZ _ (cpy σ 12 45 10) ⟨rfl, cpy_F, cpy_C⟩, fun z => absurd (by decide) z⟩
set_option maxRecDepth 20000 in
theorem x_row_45_12 {σ : pm_S} : Sp 157 2 [.ref 45, .ref 12] σ (fun r τ => r = none ∧ FQ [(12, 9999)] σ τ ∧ CPR [(45, 12, 10)] σ τ) := by
  refine S_PaidWhereMade_copyRow [] 400 rfl (fun R cl Z hR hcl hZ => ?_)
  conv => whnf
  exact ⟨fun _ => hZ _ (cpy σ 45 12 10) ⟨rfl, cpy_F, cpy_C⟩, fun z => absurd (by decide) z⟩
set_option maxRecDepth 20000 in
theorem x_row_14_47 {σ : pm_S} : Sp 157 2 [.ref 14, .ref 47] σ (fun r τ => r = none ∧ FQ [(47, 9999)] σ τ ∧ CPR [(14, 47, 30)] σ τ) := by
  refine S_PaidWhereMade_copyRow [] 400 rfl (fun R cl Z hR hcl hZ => ?_)
  conv => whnf
  exact ⟨fun _ => hZ _ (cpy σ 14 47 30) ⟨rfl, cpy_F, cpy_C⟩, fun z => absurd (by decide) z⟩
set_option maxRecDepth 20000 in
theorem x_row_47_14 {σ : pm_S} : Sp 157 2 [.ref 47, .ref 14] σ (fun r τ => r = none ∧ FQ [(14, 9999)] σ τ ∧ CPR [(47, 14, 30)] σ τ) := by
  refine S_PaidWhereMade_copyRow [] 400 rfl (fun R cl Z hR hcl hZ => ?_)
  conv => whnf
  exact ⟨fun _ => hZ _ (cpy σ 47 14 30) ⟨rfl, cpy_F, cpy_C⟩, fun z => absurd (by decide) z⟩
set_option maxRecDepth 20000 in
theorem x_row_15_48 {σ : pm_S} : Sp 157 2 [.ref 15, .ref 48] σ (fun r τ => r = none ∧ FQ [(48, 9999)] σ τ ∧ CPR [(15, 48, 30)] σ τ) := by
  refine S_PaidWhereMade_copyRow [] 400 rfl (fun R cl Z hR hcl hZ => ?_)
  conv => whnf
  exact ⟨fun _ => hZ _ (cpy σ 15 48 30) ⟨rfl, cpy_F, cpy_C⟩, fun z => absurd (by decide) z⟩
set_option maxRecDepth 20000 in
theorem x_row_48_15 {σ : pm_S} : Sp 157 2 [.ref 48, .ref 15] σ (fun r τ => r = none ∧ FQ [(15, 9999)] σ τ ∧ CPR [(48, 15, 30)] σ τ) := by
  refine S_PaidWhereMade_copyRow [] 400 rfl (fun R cl Z hR hcl hZ => ?_)
  conv => whnf
  exact ⟨fun _ => hZ _ (cpy σ 48 15 30) ⟨rfl, cpy_F, cpy_C⟩, fun z => absurd (by decide) z⟩
set_option maxRecDepth 20000 in
theorem x_row_16_49 {σ : pm_S} : Sp 157 2 [.ref 16, .ref 49] σ (fun r τ => r = none ∧ FQ [(49, 9999)] σ τ ∧ CPR [(16, 49, 30)] σ τ) := by
  refine S_PaidWhereMade_copyRow [] 400 rfl (fun R cl Z hR hcl hZ => ?_)
  conv => whnf
  exact ⟨fun _ => hZ _ (cpy σ 16 49 30) ⟨rfl, cpy_F, cpy_C⟩, fun z => absurd (by decide) z⟩
set_option maxRecDepth 20000 in
theorem x_row_49_16 {σ : pm_S} : Sp 157 2 [.ref 49, .ref 16] σ (fun r τ => r = none ∧ FQ [(16, 9999)] σ τ ∧ CPR [(49, 16, 30)] σ τ) := by
  refine S_PaidWhereMade_copyRow [] 400 rfl (fun R cl Z hR hcl hZ => ?_)
  conv => whnf
  exact ⟨fun _ => hZ _ (cpy σ 49 16 30) ⟨rfl, cpy_F, cpy_C⟩, fun z => absurd (by decide) z⟩
set_option maxRecDepth 20000 in
theorem x_row_17_50 {σ : pm_S} : Sp 157 2 [.ref 17, .ref 50] σ (fun r τ => r = none ∧ FQ [(50, 9999)] σ τ ∧ CPR [(17, 50, 30)] σ τ) := by
  refine S_PaidWhereMade_copyRow [] 400 rfl (fun R cl Z hR hcl hZ => ?_)
  conv => whnf
  exact ⟨fun _ => hZ _ (cpy σ 17 50 30) ⟨rfl, cpy_F, cpy_C⟩, fun z => absurd (by decide) z⟩
set_option maxRecDepth 20000 in
theorem x_row_50_17 {σ : pm_S} : Sp 157 2 [.ref 50, .ref 17] σ (fun r τ => r = none ∧ FQ [(17, 9999)] σ τ ∧ CPR [(50, 17, 30)] σ τ) := by
  refine S_PaidWhereMade_copyRow [] 400 rfl (fun R cl Z hR hcl hZ => ?_)
  conv => whnf
  exact ⟨fun _ => hZ _ (cpy σ 50 17 30) ⟨rfl, cpy_F, cpy_C⟩, fun z => absurd (by decide) z⟩
set_option maxRecDepth 20000 in
theorem x_row_18_51 {σ : pm_S} : Sp 157 2 [.ref 18, .ref 51] σ (fun r τ => r = none ∧ FQ [(51, 9999)] σ τ ∧ CPR [(18, 51, 30)] σ τ) := by
  refine S_PaidWhereMade_copyRow [] 400 rfl (fun R cl Z hR hcl hZ => ?_)
  conv => whnf
  exact ⟨fun _ => hZ _ (cpy σ 18 51 30) ⟨rfl, cpy_F, cpy_C⟩, fun z => absurd (by decide) z⟩
set_option maxRecDepth 20000 in
theorem x_row_51_18 {σ : pm_S} : Sp 157 2 [.ref 51, .ref 18] σ (fun r τ => r = none ∧ FQ [(18, 9999)] σ τ ∧ CPR [(51, 18, 30)] σ τ) := by
  refine S_PaidWhereMade_copyRow [] 400 rfl (fun R cl Z hR hcl hZ => ?_)
  conv => whnf
  exact ⟨fun _ => hZ _ (cpy σ 51 18 30) ⟨rfl, cpy_F, cpy_C⟩, fun z => absurd (by decide) z⟩
set_option maxRecDepth 20000 in
theorem x_row_19_52 {σ : pm_S} : Sp 157 2 [.ref 19, .ref 52] σ (fun r τ => r = none ∧ FQ [(52, 9999)] σ τ ∧ CPR [(19, 52, 30)] σ τ) := by
  refine S_PaidWhereMade_copyRow [] 400 rfl (fun R cl Z hR hcl hZ => ?_)
  conv => whnf
  exact ⟨fun _ => hZ _ (cpy σ 19 52 30) ⟨rfl, cpy_F, cpy_C⟩, fun z => absurd (by decide) z⟩
set_option maxRecDepth 20000 in
theorem x_row_52_19 {σ : pm_S} : Sp 157 2 [.ref 52, .ref 19] σ (fun r τ => r = none ∧ FQ [(19, 9999)] σ τ ∧ CPR [(52, 19, 30)] σ τ) := by
  refine S_PaidWhereMade_copyRow [] 400 rfl (fun R cl Z hR hcl hZ => ?_)
  conv => whnf
  exact ⟨fun _ => hZ _ (cpy σ 52 19 30) ⟨rfl, cpy_F, cpy_C⟩, fun z => absurd (by decide) z⟩
set_option maxRecDepth 20000 in
theorem x_row_20_53 {σ : pm_S} : Sp 157 2 [.ref 20, .ref 53] σ (fun r τ => r = none ∧ FQ [(53, 9999)] σ τ ∧ CPR [(20, 53, 30)] σ τ) := by
  refine S_PaidWhereMade_copyRow [] 400 rfl (fun R cl Z hR hcl hZ => ?_)
  conv => whnf
  exact ⟨fun _ => hZ _ (cpy σ 20 53 30) ⟨rfl, cpy_F, cpy_C⟩, fun z => absurd (by decide) z⟩
set_option maxRecDepth 20000 in
theorem x_row_53_20 {σ : pm_S} : Sp 157 2 [.ref 53, .ref 20] σ (fun r τ => r = none ∧ FQ [(20, 9999)] σ τ ∧ CPR [(53, 20, 30)] σ τ) := by
  refine S_PaidWhereMade_copyRow [] 400 rfl (fun R cl Z hR hcl hZ => ?_)
  conv => whnf
  exact ⟨fun _ => hZ _ (cpy σ 53 20 30) ⟨rfl, cpy_F, cpy_C⟩, fun z => absurd (by decide) z⟩
set_option maxRecDepth 20000 in
theorem x_row_22_55 {σ : pm_S} : Sp 157 2 [.ref 22, .ref 55] σ (fun r τ => r = none ∧ FQ [(55, 9999)] σ τ ∧ CPR [(22, 55, 30)] σ τ) := by
  refine S_PaidWhereMade_copyRow [] 400 rfl (fun R cl Z hR hcl hZ => ?_)
  conv => whnf
  exact ⟨fun _ => hZ _ (cpy σ 22 55 30) ⟨rfl, cpy_F, cpy_C⟩, fun z => absurd (by decide) z⟩
set_option maxRecDepth 20000 in
theorem x_row_55_22 {σ : pm_S} : Sp 157 2 [.ref 55, .ref 22] σ (fun r τ => r = none ∧ FQ [(22, 9999)] σ τ ∧ CPR [(55, 22, 30)] σ τ) := by
  refine S_PaidWhereMade_copyRow [] 400 rfl (fun R cl Z hR hcl hZ => ?_)
  conv => whnf
  exact ⟨fun _ => hZ _ (cpy σ 55 22 30) ⟨rfl, cpy_F, cpy_C⟩, fun z => absurd (by decide) z⟩
set_option maxRecDepth 20000 in
theorem x_row_23_56 {σ : pm_S} : Sp 157 2 [.ref 23, .ref 56] σ (fun r τ => r = none ∧ FQ [(56, 9999)] σ τ ∧ CPR [(23, 56, 30)] σ τ) := by
  refine S_PaidWhereMade_copyRow [] 400 rfl (fun R cl Z hR hcl hZ => ?_)
  conv => whnf
  exact ⟨fun _ => hZ _ (cpy σ 23 56 30) ⟨rfl, cpy_F, cpy_C⟩, fun z => absurd (by decide) z⟩
set_option maxRecDepth 20000 in
theorem x_row_56_23 {σ : pm_S} : Sp 157 2 [.ref 56, .ref 23] σ (fun r τ => r = none ∧ FQ [(23, 9999)] σ τ ∧ CPR [(56, 23, 30)] σ τ) := by
  refine S_PaidWhereMade_copyRow [] 400 rfl (fun R cl Z hR hcl hZ => ?_)
  conv => whnf
  exact ⟨fun _ => hZ _ (cpy σ 56 23 30) ⟨rfl, cpy_F, cpy_C⟩, fun z => absurd (by decide) z⟩
set_option maxRecDepth 20000 in
theorem x_row_24_57 {σ : pm_S} : Sp 157 2 [.ref 24, .ref 57] σ (fun r τ => r = none ∧ FQ [(57, 9999)] σ τ ∧ CPR [(24, 57, 30)] σ τ) := by
  refine S_PaidWhereMade_copyRow [] 400 rfl (fun R cl Z hR hcl hZ => ?_)
  conv => whnf
  exact ⟨fun _ => hZ _ (cpy σ 24 57 30) ⟨rfl, cpy_F, cpy_C⟩, fun z => absurd (by decide) z⟩
set_option maxRecDepth 20000 in
theorem x_row_57_24 {σ : pm_S} : Sp 157 2 [.ref 57, .ref 24] σ (fun r τ => r = none ∧ FQ [(24, 9999)] σ τ ∧ CPR [(57, 24, 30)] σ τ) := by
  refine S_PaidWhereMade_copyRow [] 400 rfl (fun R cl Z hR hcl hZ => ?_)
  conv => whnf
  exact ⟨fun _ => hZ _ (cpy σ 57 24 30) ⟨rfl, cpy_F, cpy_C⟩, fun z => absurd (by decide) z⟩
set_option maxRecDepth 20000 in
theorem x_row_25_58 {σ : pm_S} : Sp 157 2 [.ref 25, .ref 58] σ (fun r τ => r = none ∧ FQ [(58, 9999)] σ τ ∧ CPR [(25, 58, 30)] σ τ) := by
  refine S_PaidWhereMade_copyRow [] 400 rfl (fun R cl Z hR hcl hZ => ?_)
  conv => whnf
  exact ⟨fun _ => hZ _ (cpy σ 25 58 30) ⟨rfl, cpy_F, cpy_C⟩, fun z => absurd (by decide) z⟩
set_option maxRecDepth 20000 in
theorem x_row_58_25 {σ : pm_S} : Sp 157 2 [.ref 58, .ref 25] σ (fun r τ => r = none ∧ FQ [(25, 9999)] σ τ ∧ CPR [(58, 25, 30)] σ τ) := by
  refine S_PaidWhereMade_copyRow [] 400 rfl (fun R cl Z hR hcl hZ => ?_)
  conv => whnf
  exact ⟨fun _ => hZ _ (cpy σ 58 25 30) ⟨rfl, cpy_F, cpy_C⟩, fun z => absurd (by decide) z⟩
set_option maxRecDepth 20000 in
theorem x_row_32_65 {σ : pm_S} : Sp 157 2 [.ref 32, .ref 65] σ (fun r τ => r = none ∧ FQ [(65, 9999)] σ τ ∧ CPR [(32, 65, 400)] σ τ) := by
  refine S_PaidWhereMade_copyRow [] 400 rfl (fun R cl Z hR hcl hZ => ?_)
  conv => whnf
  exact ⟨fun _ => hZ _ (cpy σ 32 65 400) ⟨rfl, cpy_F, cpy_C⟩, fun z => absurd (by decide) z⟩
set_option maxRecDepth 20000 in
theorem x_row_65_32 {σ : pm_S} : Sp 157 2 [.ref 65, .ref 32] σ (fun r τ => r = none ∧ FQ [(32, 9999)] σ τ ∧ CPR [(65, 32, 400)] σ τ) := by
  refine S_PaidWhereMade_copyRow [] 400 rfl (fun R cl Z hR hcl hZ => ?_)
  conv => whnf
  exact ⟨fun _ => hZ _ (cpy σ 65 32 400) ⟨rfl, cpy_F, cpy_C⟩, fun z => absurd (by decide) z⟩
set_option maxRecDepth 20000 in
theorem x_cpSpots0 {σ : pm_S} : Sp 88 4 [.ref 36, .ref 3] σ (fun r τ => r = none ∧ FQ [(36, 0), (37, 9999), (38, 9999), (39, 9999)] σ τ ∧ CPR [(3, 36, 1), (4, 37, 10), (5, 38, 100), (6, 39, 80)] σ τ) := by
  have F0 : FQ [(36, 0)] σ (put σ 36 0 (σ.1 3 0)) := fq_put1 rfl
  have C0 : CPR [(3, 36, 1)] σ (put σ 36 0 (σ.1 3 0)) := fun t ht j hj => by
    rw [List.mem_singleton.mp ht] at hj ⊢
    match j, hj with
    | 0, _ => rfl
    | j + 1, hj => exact absurd hj (by show ¬ (j + 1 < 1); omega)
  refine S_Spots_copyFrom [] 400 rfl (fun R cl Z hR hcl hZ => ?_)
  conv => whnf
  refine hcl _ _ _ _ ((x_row_4_37).use (by decide) (fun r1 τ1 q1 => ?_))
  obtain ⟨rfl, f1, c1⟩ := q1
  have F1 : FQ [(36, 0), (37, 9999)] σ τ1 := FQ.tr (FQ.up (G := [(36, 0)]) rfl F0) (FQ.up (G := [(37, 9999)]) rfl f1)
  have C1 : CPR [(3, 36, 1), (4, 37, 10)] σ τ1 := CPR.app (CPR.post (G := [(37, 9999)]) rfl f1 C0) (CPR.pre (G := [(36, 0)]) rfl F0 c1)
  conv => whnf
  refine hcl _ _ _ _ ((x_row_5_38).use (by decide) (fun r2 τ2 q2 => ?_))
  obtain ⟨rfl, f2, c2⟩ := q2
  have F2 : FQ [(36, 0), (37, 9999), (38, 9999)] σ τ2 := FQ.tr (FQ.up (G := [(36, 0), (37, 9999)]) rfl F1) (FQ.up (G := [(38, 9999)]) rfl f2)
  have C2 : CPR [(3, 36, 1), (4, 37, 10), (5, 38, 100)] σ τ2 := CPR.app (CPR.post (G := [(38, 9999)]) rfl f2 C1) (CPR.pre (G := [(36, 0), (37, 9999)]) rfl F1 c2)
  conv => whnf
  refine hcl _ _ _ _ ((x_row_6_39).use (by decide) (fun r3 τ3 q3 => ?_))
  obtain ⟨rfl, f3, c3⟩ := q3
  have F3 : FQ [(36, 0), (37, 9999), (38, 9999), (39, 9999)] σ τ3 := FQ.tr (FQ.up (G := [(36, 0), (37, 9999), (38, 9999)]) rfl F2) (FQ.up (G := [(39, 9999)]) rfl f3)
  have C3 : CPR [(3, 36, 1), (4, 37, 10), (5, 38, 100), (6, 39, 80)] σ τ3 := CPR.app (CPR.post (G := [(39, 9999)]) rfl f3 C2) (CPR.pre (G := [(36, 0), (37, 9999), (38, 9999)]) rfl F2 c3)
  conv => whnf
  exact hZ _ _ ⟨rfl, F3, C3⟩
set_option maxRecDepth 20000 in
theorem x_cpSpots1 {σ : pm_S} : Sp 88 4 [.ref 3, .ref 36] σ (fun r τ => r = none ∧ FQ [(3, 0), (4, 9999), (5, 9999), (6, 9999)] σ τ ∧ CPR [(36, 3, 1), (37, 4, 10), (38, 5, 100), (39, 6, 80)] σ τ) := by
  have F0 : FQ [(3, 0)] σ (put σ 3 0 (σ.1 36 0)) := fq_put1 rfl
  have C0 : CPR [(36, 3, 1)] σ (put σ 3 0 (σ.1 36 0)) := fun t ht j hj => by
    rw [List.mem_singleton.mp ht] at hj ⊢
    match j, hj with
    | 0, _ => rfl
    | j + 1, hj => exact absurd hj (by show ¬ (j + 1 < 1); omega)
  refine S_Spots_copyFrom [] 400 rfl (fun R cl Z hR hcl hZ => ?_)
  conv => whnf
  refine hcl _ _ _ _ ((x_row_37_4).use (by decide) (fun r1 τ1 q1 => ?_))
  obtain ⟨rfl, f1, c1⟩ := q1
  have F1 : FQ [(3, 0), (4, 9999)] σ τ1 := FQ.tr (FQ.up (G := [(3, 0)]) rfl F0) (FQ.up (G := [(4, 9999)]) rfl f1)
  have C1 : CPR [(36, 3, 1), (37, 4, 10)] σ τ1 := CPR.app (CPR.post (G := [(4, 9999)]) rfl f1 C0) (CPR.pre (G := [(3, 0)]) rfl F0 c1)
  conv => whnf
  refine hcl _ _ _ _ ((x_row_38_5).use (by decide) (fun r2 τ2 q2 => ?_))
  obtain ⟨rfl, f2, c2⟩ := q2
  have F2 : FQ [(3, 0), (4, 9999), (5, 9999)] σ τ2 := FQ.tr (FQ.up (G := [(3, 0), (4, 9999)]) rfl F1) (FQ.up (G := [(5, 9999)]) rfl f2)
  have C2 : CPR [(36, 3, 1), (37, 4, 10), (38, 5, 100)] σ τ2 := CPR.app (CPR.post (G := [(5, 9999)]) rfl f2 C1) (CPR.pre (G := [(3, 0), (4, 9999)]) rfl F1 c2)
  conv => whnf
  refine hcl _ _ _ _ ((x_row_39_6).use (by decide) (fun r3 τ3 q3 => ?_))
  obtain ⟨rfl, f3, c3⟩ := q3
  have F3 : FQ [(3, 0), (4, 9999), (5, 9999), (6, 9999)] σ τ3 := FQ.tr (FQ.up (G := [(3, 0), (4, 9999), (5, 9999)]) rfl F2) (FQ.up (G := [(6, 9999)]) rfl f3)
  have C3 : CPR [(36, 3, 1), (37, 4, 10), (38, 5, 100), (39, 6, 80)] σ τ3 := CPR.app (CPR.post (G := [(6, 9999)]) rfl f3 C2) (CPR.pre (G := [(3, 0), (4, 9999), (5, 9999)]) rfl F2 c3)
  conv => whnf
  exact hZ _ _ ⟨rfl, F3, C3⟩
set_option maxRecDepth 20000 in
theorem x_cpPeople0 {σ : pm_S} : Sp 66 4 [.ref 40, .ref 7] σ (fun r τ => r = none ∧ FQ [(40, 0), (41, 9999), (42, 9999), (43, 9999), (44, 9999), (45, 9999)] σ τ ∧ CPR [(7, 40, 1), (8, 41, 10), (9, 42, 10), (10, 43, 10), (11, 44, 10), (12, 45, 10)] σ τ) := by
  have F0 : FQ [(40, 0)] σ (put σ 40 0 (σ.1 7 0)) := fq_put1 rfl
  have C0 : CPR [(7, 40, 1)] σ (put σ 40 0 (σ.1 7 0)) := fun t ht j hj => by
    rw [List.mem_singleton.mp ht] at hj ⊢
    match j, hj with
    | 0, _ => rfl
    | j + 1, hj => exact absurd hj (by show ¬ (j + 1 < 1); omega)
  refine S_People_copyFrom [] 400 rfl (fun R cl Z hR hcl hZ => ?_)
  conv => whnf
  refine hcl _ _ _ _ ((x_row_8_41).use (by decide) (fun r1 τ1 q1 => ?_))
  obtain ⟨rfl, f1, c1⟩ := q1
  have F1 : FQ [(40, 0), (41, 9999)] σ τ1 := FQ.tr (FQ.up (G := [(40, 0)]) rfl F0) (FQ.up (G := [(41, 9999)]) rfl f1)
  have C1 : CPR [(7, 40, 1), (8, 41, 10)] σ τ1 := CPR.app (CPR.post (G := [(41, 9999)]) rfl f1 C0) (CPR.pre (G := [(40, 0)]) rfl F0 c1)
  conv => whnf
  refine hcl _ _ _ _ ((x_row_9_42).use (by decide) (fun r2 τ2 q2 => ?_))
  obtain ⟨rfl, f2, c2⟩ := q2
  have F2 : FQ [(40, 0), (41, 9999), (42, 9999)] σ τ2 := FQ.tr (FQ.up (G := [(40, 0), (41, 9999)]) rfl F1) (FQ.up (G := [(42, 9999)]) rfl f2)
  have C2 : CPR [(7, 40, 1), (8, 41, 10), (9, 42, 10)] σ τ2 := CPR.app (CPR.post (G := [(42, 9999)]) rfl f2 C1) (CPR.pre (G := [(40, 0), (41, 9999)]) rfl F1 c2)
  conv => whnf
  refine hcl _ _ _ _ ((x_row_10_43).use (by decide) (fun r3 τ3 q3 => ?_))
  obtain ⟨rfl, f3, c3⟩ := q3
  have F3 : FQ [(40, 0), (41, 9999), (42, 9999), (43, 9999)] σ τ3 := FQ.tr (FQ.up (G := [(40, 0), (41, 9999), (42, 9999)]) rfl F2) (FQ.up (G := [(43, 9999)]) rfl f3)
  have C3 : CPR [(7, 40, 1), (8, 41, 10), (9, 42, 10), (10, 43, 10)] σ τ3 := CPR.app (CPR.post (G := [(43, 9999)]) rfl f3 C2) (CPR.pre (G := [(40, 0), (41, 9999), (42, 9999)]) rfl F2 c3)
  conv => whnf
  refine hcl _ _ _ _ ((x_row_11_44).use (by decide) (fun r4 τ4 q4 => ?_))
  obtain ⟨rfl, f4, c4⟩ := q4
  have F4 : FQ [(40, 0), (41, 9999), (42, 9999), (43, 9999), (44, 9999)] σ τ4 := FQ.tr (FQ.up (G := [(40, 0), (41, 9999), (42, 9999), (43, 9999)]) rfl F3) (FQ.up (G := [(44, 9999)]) rfl f4)
  have C4 : CPR [(7, 40, 1), (8, 41, 10), (9, 42, 10), (10, 43, 10), (11, 44, 10)] σ τ4 := CPR.app (CPR.post (G := [(44, 9999)]) rfl f4 C3) (CPR.pre (G := [(40, 0), (41, 9999), (42, 9999), (43, 9999)]) rfl F3 c4)
  conv => whnf
  refine hcl _ _ _ _ ((x_row_12_45).use (by decide) (fun r5 τ5 q5 => ?_))
  obtain ⟨rfl, f5, c5⟩ := q5
  have F5 : FQ [(40, 0), (41, 9999), (42, 9999), (43, 9999), (44, 9999), (45, 9999)] σ τ5 := FQ.tr (FQ.up (G := [(40, 0), (41, 9999), (42, 9999), (43, 9999), (44, 9999)]) rfl F4) (FQ.up (G := [(45, 9999)]) rfl f5)
  have C5 : CPR [(7, 40, 1), (8, 41, 10), (9, 42, 10), (10, 43, 10), (11, 44, 10), (12, 45, 10)] σ τ5 := CPR.app (CPR.post (G := [(45, 9999)]) rfl f5 C4) (CPR.pre (G := [(40, 0), (41, 9999), (42, 9999), (43, 9999), (44, 9999)]) rfl F4 c5)
  conv => whnf
  exact hZ _ _ ⟨rfl, F5, C5⟩
set_option maxRecDepth 20000 in
theorem x_cpPeople1 {σ : pm_S} : Sp 66 4 [.ref 7, .ref 40] σ (fun r τ => r = none ∧ FQ [(7, 0), (8, 9999), (9, 9999), (10, 9999), (11, 9999), (12, 9999)] σ τ ∧ CPR [(40, 7, 1), (41, 8, 10), (42, 9, 10), (43, 10, 10), (44, 11, 10), (45, 12, 10)] σ τ) := by
  have F0 : FQ [(7, 0)] σ (put σ 7 0 (σ.1 40 0)) := fq_put1 rfl
  have C0 : CPR [(40, 7, 1)] σ (put σ 7 0 (σ.1 40 0)) := fun t ht j hj => by
    rw [List.mem_singleton.mp ht] at hj ⊢
    match j, hj with
    | 0, _ => rfl
    | j + 1, hj => exact absurd hj (by show ¬ (j + 1 < 1); omega)
  refine S_People_copyFrom [] 400 rfl (fun R cl Z hR hcl hZ => ?_)
  conv => whnf
  refine hcl _ _ _ _ ((x_row_41_8).use (by decide) (fun r1 τ1 q1 => ?_))
  obtain ⟨rfl, f1, c1⟩ := q1
  have F1 : FQ [(7, 0), (8, 9999)] σ τ1 := FQ.tr (FQ.up (G := [(7, 0)]) rfl F0) (FQ.up (G := [(8, 9999)]) rfl f1)
  have C1 : CPR [(40, 7, 1), (41, 8, 10)] σ τ1 := CPR.app (CPR.post (G := [(8, 9999)]) rfl f1 C0) (CPR.pre (G := [(7, 0)]) rfl F0 c1)
  conv => whnf
  refine hcl _ _ _ _ ((x_row_42_9).use (by decide) (fun r2 τ2 q2 => ?_))
  obtain ⟨rfl, f2, c2⟩ := q2
  have F2 : FQ [(7, 0), (8, 9999), (9, 9999)] σ τ2 := FQ.tr (FQ.up (G := [(7, 0), (8, 9999)]) rfl F1) (FQ.up (G := [(9, 9999)]) rfl f2)
  have C2 : CPR [(40, 7, 1), (41, 8, 10), (42, 9, 10)] σ τ2 := CPR.app (CPR.post (G := [(9, 9999)]) rfl f2 C1) (CPR.pre (G := [(7, 0), (8, 9999)]) rfl F1 c2)
  conv => whnf
  refine hcl _ _ _ _ ((x_row_43_10).use (by decide) (fun r3 τ3 q3 => ?_))
  obtain ⟨rfl, f3, c3⟩ := q3
  have F3 : FQ [(7, 0), (8, 9999), (9, 9999), (10, 9999)] σ τ3 := FQ.tr (FQ.up (G := [(7, 0), (8, 9999), (9, 9999)]) rfl F2) (FQ.up (G := [(10, 9999)]) rfl f3)
  have C3 : CPR [(40, 7, 1), (41, 8, 10), (42, 9, 10), (43, 10, 10)] σ τ3 := CPR.app (CPR.post (G := [(10, 9999)]) rfl f3 C2) (CPR.pre (G := [(7, 0), (8, 9999), (9, 9999)]) rfl F2 c3)
  conv => whnf
  refine hcl _ _ _ _ ((x_row_44_11).use (by decide) (fun r4 τ4 q4 => ?_))
  obtain ⟨rfl, f4, c4⟩ := q4
  have F4 : FQ [(7, 0), (8, 9999), (9, 9999), (10, 9999), (11, 9999)] σ τ4 := FQ.tr (FQ.up (G := [(7, 0), (8, 9999), (9, 9999), (10, 9999)]) rfl F3) (FQ.up (G := [(11, 9999)]) rfl f4)
  have C4 : CPR [(40, 7, 1), (41, 8, 10), (42, 9, 10), (43, 10, 10), (44, 11, 10)] σ τ4 := CPR.app (CPR.post (G := [(11, 9999)]) rfl f4 C3) (CPR.pre (G := [(7, 0), (8, 9999), (9, 9999), (10, 9999)]) rfl F3 c4)
  conv => whnf
  refine hcl _ _ _ _ ((x_row_45_12).use (by decide) (fun r5 τ5 q5 => ?_))
  obtain ⟨rfl, f5, c5⟩ := q5
  have F5 : FQ [(7, 0), (8, 9999), (9, 9999), (10, 9999), (11, 9999), (12, 9999)] σ τ5 := FQ.tr (FQ.up (G := [(7, 0), (8, 9999), (9, 9999), (10, 9999), (11, 9999)]) rfl F4) (FQ.up (G := [(12, 9999)]) rfl f5)
  have C5 : CPR [(40, 7, 1), (41, 8, 10), (42, 9, 10), (43, 10, 10), (44, 11, 10), (45, 12, 10)] σ τ5 := CPR.app (CPR.post (G := [(12, 9999)]) rfl f5 C4) (CPR.pre (G := [(7, 0), (8, 9999), (9, 9999), (10, 9999), (11, 9999)]) rfl F4 c5)
  conv => whnf
  exact hZ _ _ ⟨rfl, F5, C5⟩
set_option maxRecDepth 20000 in
theorem x_cpDebts0 {σ : pm_S} : Sp 11 4 [.ref 46, .ref 13] σ (fun r τ => r = none ∧ FQ [(46, 0), (47, 9999), (48, 9999), (49, 9999), (50, 9999), (51, 9999), (52, 9999), (53, 9999)] σ τ ∧ CPR [(13, 46, 1), (14, 47, 30), (15, 48, 30), (16, 49, 30), (17, 50, 30), (18, 51, 30), (19, 52, 30), (20, 53, 30)] σ τ) := by
  have F0 : FQ [(46, 0)] σ (put σ 46 0 (σ.1 13 0)) := fq_put1 rfl
  have C0 : CPR [(13, 46, 1)] σ (put σ 46 0 (σ.1 13 0)) := fun t ht j hj => by
    rw [List.mem_singleton.mp ht] at hj ⊢
    match j, hj with
    | 0, _ => rfl
    | j + 1, hj => exact absurd hj (by show ¬ (j + 1 < 1); omega)
  refine S_Debts_copyFrom [] 400 rfl (fun R cl Z hR hcl hZ => ?_)
  conv => whnf
  refine hcl _ _ _ _ ((x_row_14_47).use (by decide) (fun r1 τ1 q1 => ?_))
  obtain ⟨rfl, f1, c1⟩ := q1
  have F1 : FQ [(46, 0), (47, 9999)] σ τ1 := FQ.tr (FQ.up (G := [(46, 0)]) rfl F0) (FQ.up (G := [(47, 9999)]) rfl f1)
  have C1 : CPR [(13, 46, 1), (14, 47, 30)] σ τ1 := CPR.app (CPR.post (G := [(47, 9999)]) rfl f1 C0) (CPR.pre (G := [(46, 0)]) rfl F0 c1)
  conv => whnf
  refine hcl _ _ _ _ ((x_row_15_48).use (by decide) (fun r2 τ2 q2 => ?_))
  obtain ⟨rfl, f2, c2⟩ := q2
  have F2 : FQ [(46, 0), (47, 9999), (48, 9999)] σ τ2 := FQ.tr (FQ.up (G := [(46, 0), (47, 9999)]) rfl F1) (FQ.up (G := [(48, 9999)]) rfl f2)
  have C2 : CPR [(13, 46, 1), (14, 47, 30), (15, 48, 30)] σ τ2 := CPR.app (CPR.post (G := [(48, 9999)]) rfl f2 C1) (CPR.pre (G := [(46, 0), (47, 9999)]) rfl F1 c2)
  conv => whnf
  refine hcl _ _ _ _ ((x_row_16_49).use (by decide) (fun r3 τ3 q3 => ?_))
  obtain ⟨rfl, f3, c3⟩ := q3
  have F3 : FQ [(46, 0), (47, 9999), (48, 9999), (49, 9999)] σ τ3 := FQ.tr (FQ.up (G := [(46, 0), (47, 9999), (48, 9999)]) rfl F2) (FQ.up (G := [(49, 9999)]) rfl f3)
  have C3 : CPR [(13, 46, 1), (14, 47, 30), (15, 48, 30), (16, 49, 30)] σ τ3 := CPR.app (CPR.post (G := [(49, 9999)]) rfl f3 C2) (CPR.pre (G := [(46, 0), (47, 9999), (48, 9999)]) rfl F2 c3)
  conv => whnf
  refine hcl _ _ _ _ ((x_row_17_50).use (by decide) (fun r4 τ4 q4 => ?_))
  obtain ⟨rfl, f4, c4⟩ := q4
  have F4 : FQ [(46, 0), (47, 9999), (48, 9999), (49, 9999), (50, 9999)] σ τ4 := FQ.tr (FQ.up (G := [(46, 0), (47, 9999), (48, 9999), (49, 9999)]) rfl F3) (FQ.up (G := [(50, 9999)]) rfl f4)
  have C4 : CPR [(13, 46, 1), (14, 47, 30), (15, 48, 30), (16, 49, 30), (17, 50, 30)] σ τ4 := CPR.app (CPR.post (G := [(50, 9999)]) rfl f4 C3) (CPR.pre (G := [(46, 0), (47, 9999), (48, 9999), (49, 9999)]) rfl F3 c4)
  conv => whnf
  refine hcl _ _ _ _ ((x_row_18_51).use (by decide) (fun r5 τ5 q5 => ?_))
  obtain ⟨rfl, f5, c5⟩ := q5
  have F5 : FQ [(46, 0), (47, 9999), (48, 9999), (49, 9999), (50, 9999), (51, 9999)] σ τ5 := FQ.tr (FQ.up (G := [(46, 0), (47, 9999), (48, 9999), (49, 9999), (50, 9999)]) rfl F4) (FQ.up (G := [(51, 9999)]) rfl f5)
  have C5 : CPR [(13, 46, 1), (14, 47, 30), (15, 48, 30), (16, 49, 30), (17, 50, 30), (18, 51, 30)] σ τ5 := CPR.app (CPR.post (G := [(51, 9999)]) rfl f5 C4) (CPR.pre (G := [(46, 0), (47, 9999), (48, 9999), (49, 9999), (50, 9999)]) rfl F4 c5)
  conv => whnf
  refine hcl _ _ _ _ ((x_row_19_52).use (by decide) (fun r6 τ6 q6 => ?_))
  obtain ⟨rfl, f6, c6⟩ := q6
  have F6 : FQ [(46, 0), (47, 9999), (48, 9999), (49, 9999), (50, 9999), (51, 9999), (52, 9999)] σ τ6 := FQ.tr (FQ.up (G := [(46, 0), (47, 9999), (48, 9999), (49, 9999), (50, 9999), (51, 9999)]) rfl F5) (FQ.up (G := [(52, 9999)]) rfl f6)
  have C6 : CPR [(13, 46, 1), (14, 47, 30), (15, 48, 30), (16, 49, 30), (17, 50, 30), (18, 51, 30), (19, 52, 30)] σ τ6 := CPR.app (CPR.post (G := [(52, 9999)]) rfl f6 C5) (CPR.pre (G := [(46, 0), (47, 9999), (48, 9999), (49, 9999), (50, 9999), (51, 9999)]) rfl F5 c6)
  conv => whnf
  refine hcl _ _ _ _ ((x_row_20_53).use (by decide) (fun r7 τ7 q7 => ?_))
  obtain ⟨rfl, f7, c7⟩ := q7
  have F7 : FQ [(46, 0), (47, 9999), (48, 9999), (49, 9999), (50, 9999), (51, 9999), (52, 9999), (53, 9999)] σ τ7 := FQ.tr (FQ.up (G := [(46, 0), (47, 9999), (48, 9999), (49, 9999), (50, 9999), (51, 9999), (52, 9999)]) rfl F6) (FQ.up (G := [(53, 9999)]) rfl f7)
  have C7 : CPR [(13, 46, 1), (14, 47, 30), (15, 48, 30), (16, 49, 30), (17, 50, 30), (18, 51, 30), (19, 52, 30), (20, 53, 30)] σ τ7 := CPR.app (CPR.post (G := [(53, 9999)]) rfl f7 C6) (CPR.pre (G := [(46, 0), (47, 9999), (48, 9999), (49, 9999), (50, 9999), (51, 9999), (52, 9999)]) rfl F6 c7)
  conv => whnf
  exact hZ _ _ ⟨rfl, F7, C7⟩
set_option maxRecDepth 20000 in
theorem x_cpDebts1 {σ : pm_S} : Sp 11 4 [.ref 13, .ref 46] σ (fun r τ => r = none ∧ FQ [(13, 0), (14, 9999), (15, 9999), (16, 9999), (17, 9999), (18, 9999), (19, 9999), (20, 9999)] σ τ ∧ CPR [(46, 13, 1), (47, 14, 30), (48, 15, 30), (49, 16, 30), (50, 17, 30), (51, 18, 30), (52, 19, 30), (53, 20, 30)] σ τ) := by
  have F0 : FQ [(13, 0)] σ (put σ 13 0 (σ.1 46 0)) := fq_put1 rfl
  have C0 : CPR [(46, 13, 1)] σ (put σ 13 0 (σ.1 46 0)) := fun t ht j hj => by
    rw [List.mem_singleton.mp ht] at hj ⊢
    match j, hj with
    | 0, _ => rfl
    | j + 1, hj => exact absurd hj (by show ¬ (j + 1 < 1); omega)
  refine S_Debts_copyFrom [] 400 rfl (fun R cl Z hR hcl hZ => ?_)
  conv => whnf
  refine hcl _ _ _ _ ((x_row_47_14).use (by decide) (fun r1 τ1 q1 => ?_))
  obtain ⟨rfl, f1, c1⟩ := q1
  have F1 : FQ [(13, 0), (14, 9999)] σ τ1 := FQ.tr (FQ.up (G := [(13, 0)]) rfl F0) (FQ.up (G := [(14, 9999)]) rfl f1)
  have C1 : CPR [(46, 13, 1), (47, 14, 30)] σ τ1 := CPR.app (CPR.post (G := [(14, 9999)]) rfl f1 C0) (CPR.pre (G := [(13, 0)]) rfl F0 c1)
  conv => whnf
  refine hcl _ _ _ _ ((x_row_48_15).use (by decide) (fun r2 τ2 q2 => ?_))
  obtain ⟨rfl, f2, c2⟩ := q2
  have F2 : FQ [(13, 0), (14, 9999), (15, 9999)] σ τ2 := FQ.tr (FQ.up (G := [(13, 0), (14, 9999)]) rfl F1) (FQ.up (G := [(15, 9999)]) rfl f2)
  have C2 : CPR [(46, 13, 1), (47, 14, 30), (48, 15, 30)] σ τ2 := CPR.app (CPR.post (G := [(15, 9999)]) rfl f2 C1) (CPR.pre (G := [(13, 0), (14, 9999)]) rfl F1 c2)
  conv => whnf
  refine hcl _ _ _ _ ((x_row_49_16).use (by decide) (fun r3 τ3 q3 => ?_))
  obtain ⟨rfl, f3, c3⟩ := q3
  have F3 : FQ [(13, 0), (14, 9999), (15, 9999), (16, 9999)] σ τ3 := FQ.tr (FQ.up (G := [(13, 0), (14, 9999), (15, 9999)]) rfl F2) (FQ.up (G := [(16, 9999)]) rfl f3)
  have C3 : CPR [(46, 13, 1), (47, 14, 30), (48, 15, 30), (49, 16, 30)] σ τ3 := CPR.app (CPR.post (G := [(16, 9999)]) rfl f3 C2) (CPR.pre (G := [(13, 0), (14, 9999), (15, 9999)]) rfl F2 c3)
  conv => whnf
  refine hcl _ _ _ _ ((x_row_50_17).use (by decide) (fun r4 τ4 q4 => ?_))
  obtain ⟨rfl, f4, c4⟩ := q4
  have F4 : FQ [(13, 0), (14, 9999), (15, 9999), (16, 9999), (17, 9999)] σ τ4 := FQ.tr (FQ.up (G := [(13, 0), (14, 9999), (15, 9999), (16, 9999)]) rfl F3) (FQ.up (G := [(17, 9999)]) rfl f4)
  have C4 : CPR [(46, 13, 1), (47, 14, 30), (48, 15, 30), (49, 16, 30), (50, 17, 30)] σ τ4 := CPR.app (CPR.post (G := [(17, 9999)]) rfl f4 C3) (CPR.pre (G := [(13, 0), (14, 9999), (15, 9999), (16, 9999)]) rfl F3 c4)
  conv => whnf
  refine hcl _ _ _ _ ((x_row_51_18).use (by decide) (fun r5 τ5 q5 => ?_))
  obtain ⟨rfl, f5, c5⟩ := q5
  have F5 : FQ [(13, 0), (14, 9999), (15, 9999), (16, 9999), (17, 9999), (18, 9999)] σ τ5 := FQ.tr (FQ.up (G := [(13, 0), (14, 9999), (15, 9999), (16, 9999), (17, 9999)]) rfl F4) (FQ.up (G := [(18, 9999)]) rfl f5)
  have C5 : CPR [(46, 13, 1), (47, 14, 30), (48, 15, 30), (49, 16, 30), (50, 17, 30), (51, 18, 30)] σ τ5 := CPR.app (CPR.post (G := [(18, 9999)]) rfl f5 C4) (CPR.pre (G := [(13, 0), (14, 9999), (15, 9999), (16, 9999), (17, 9999)]) rfl F4 c5)
  conv => whnf
  refine hcl _ _ _ _ ((x_row_52_19).use (by decide) (fun r6 τ6 q6 => ?_))
  obtain ⟨rfl, f6, c6⟩ := q6
  have F6 : FQ [(13, 0), (14, 9999), (15, 9999), (16, 9999), (17, 9999), (18, 9999), (19, 9999)] σ τ6 := FQ.tr (FQ.up (G := [(13, 0), (14, 9999), (15, 9999), (16, 9999), (17, 9999), (18, 9999)]) rfl F5) (FQ.up (G := [(19, 9999)]) rfl f6)
  have C6 : CPR [(46, 13, 1), (47, 14, 30), (48, 15, 30), (49, 16, 30), (50, 17, 30), (51, 18, 30), (52, 19, 30)] σ τ6 := CPR.app (CPR.post (G := [(19, 9999)]) rfl f6 C5) (CPR.pre (G := [(13, 0), (14, 9999), (15, 9999), (16, 9999), (17, 9999), (18, 9999)]) rfl F5 c6)
  conv => whnf
  refine hcl _ _ _ _ ((x_row_53_20).use (by decide) (fun r7 τ7 q7 => ?_))
  obtain ⟨rfl, f7, c7⟩ := q7
  have F7 : FQ [(13, 0), (14, 9999), (15, 9999), (16, 9999), (17, 9999), (18, 9999), (19, 9999), (20, 9999)] σ τ7 := FQ.tr (FQ.up (G := [(13, 0), (14, 9999), (15, 9999), (16, 9999), (17, 9999), (18, 9999), (19, 9999)]) rfl F6) (FQ.up (G := [(20, 9999)]) rfl f7)
  have C7 : CPR [(46, 13, 1), (47, 14, 30), (48, 15, 30), (49, 16, 30), (50, 17, 30), (51, 18, 30), (52, 19, 30), (53, 20, 30)] σ τ7 := CPR.app (CPR.post (G := [(20, 9999)]) rfl f7 C6) (CPR.pre (G := [(13, 0), (14, 9999), (15, 9999), (16, 9999), (17, 9999), (18, 9999), (19, 9999)]) rfl F6 c7)
  conv => whnf
  exact hZ _ _ ⟨rfl, F7, C7⟩
set_option maxRecDepth 20000 in
theorem x_cpLines0 {σ : pm_S} : Sp 59 4 [.ref 54, .ref 21] σ (fun r τ => r = none ∧ FQ [(54, 0), (55, 9999), (56, 9999), (57, 9999), (58, 9999)] σ τ ∧ CPR [(21, 54, 1), (22, 55, 30), (23, 56, 30), (24, 57, 30), (25, 58, 30)] σ τ) := by
  have F0 : FQ [(54, 0)] σ (put σ 54 0 (σ.1 21 0)) := fq_put1 rfl
  have C0 : CPR [(21, 54, 1)] σ (put σ 54 0 (σ.1 21 0)) := fun t ht j hj => by
    rw [List.mem_singleton.mp ht] at hj ⊢
    match j, hj with
    | 0, _ => rfl
    | j + 1, hj => exact absurd hj (by show ¬ (j + 1 < 1); omega)
  refine S_Lines_copyFrom [] 400 rfl (fun R cl Z hR hcl hZ => ?_)
  conv => whnf
  refine hcl _ _ _ _ ((x_row_22_55).use (by decide) (fun r1 τ1 q1 => ?_))
  obtain ⟨rfl, f1, c1⟩ := q1
  have F1 : FQ [(54, 0), (55, 9999)] σ τ1 := FQ.tr (FQ.up (G := [(54, 0)]) rfl F0) (FQ.up (G := [(55, 9999)]) rfl f1)
  have C1 : CPR [(21, 54, 1), (22, 55, 30)] σ τ1 := CPR.app (CPR.post (G := [(55, 9999)]) rfl f1 C0) (CPR.pre (G := [(54, 0)]) rfl F0 c1)
  conv => whnf
  refine hcl _ _ _ _ ((x_row_23_56).use (by decide) (fun r2 τ2 q2 => ?_))
  obtain ⟨rfl, f2, c2⟩ := q2
  have F2 : FQ [(54, 0), (55, 9999), (56, 9999)] σ τ2 := FQ.tr (FQ.up (G := [(54, 0), (55, 9999)]) rfl F1) (FQ.up (G := [(56, 9999)]) rfl f2)
  have C2 : CPR [(21, 54, 1), (22, 55, 30), (23, 56, 30)] σ τ2 := CPR.app (CPR.post (G := [(56, 9999)]) rfl f2 C1) (CPR.pre (G := [(54, 0), (55, 9999)]) rfl F1 c2)
  conv => whnf
  refine hcl _ _ _ _ ((x_row_24_57).use (by decide) (fun r3 τ3 q3 => ?_))
  obtain ⟨rfl, f3, c3⟩ := q3
  have F3 : FQ [(54, 0), (55, 9999), (56, 9999), (57, 9999)] σ τ3 := FQ.tr (FQ.up (G := [(54, 0), (55, 9999), (56, 9999)]) rfl F2) (FQ.up (G := [(57, 9999)]) rfl f3)
  have C3 : CPR [(21, 54, 1), (22, 55, 30), (23, 56, 30), (24, 57, 30)] σ τ3 := CPR.app (CPR.post (G := [(57, 9999)]) rfl f3 C2) (CPR.pre (G := [(54, 0), (55, 9999), (56, 9999)]) rfl F2 c3)
  conv => whnf
  refine hcl _ _ _ _ ((x_row_25_58).use (by decide) (fun r4 τ4 q4 => ?_))
  obtain ⟨rfl, f4, c4⟩ := q4
  have F4 : FQ [(54, 0), (55, 9999), (56, 9999), (57, 9999), (58, 9999)] σ τ4 := FQ.tr (FQ.up (G := [(54, 0), (55, 9999), (56, 9999), (57, 9999)]) rfl F3) (FQ.up (G := [(58, 9999)]) rfl f4)
  have C4 : CPR [(21, 54, 1), (22, 55, 30), (23, 56, 30), (24, 57, 30), (25, 58, 30)] σ τ4 := CPR.app (CPR.post (G := [(58, 9999)]) rfl f4 C3) (CPR.pre (G := [(54, 0), (55, 9999), (56, 9999), (57, 9999)]) rfl F3 c4)
  conv => whnf
  exact hZ _ _ ⟨rfl, F4, C4⟩
set_option maxRecDepth 20000 in
theorem x_cpLines1 {σ : pm_S} : Sp 59 4 [.ref 21, .ref 54] σ (fun r τ => r = none ∧ FQ [(21, 0), (22, 9999), (23, 9999), (24, 9999), (25, 9999)] σ τ ∧ CPR [(54, 21, 1), (55, 22, 30), (56, 23, 30), (57, 24, 30), (58, 25, 30)] σ τ) := by
  have F0 : FQ [(21, 0)] σ (put σ 21 0 (σ.1 54 0)) := fq_put1 rfl
  have C0 : CPR [(54, 21, 1)] σ (put σ 21 0 (σ.1 54 0)) := fun t ht j hj => by
    rw [List.mem_singleton.mp ht] at hj ⊢
    match j, hj with
    | 0, _ => rfl
    | j + 1, hj => exact absurd hj (by show ¬ (j + 1 < 1); omega)
  refine S_Lines_copyFrom [] 400 rfl (fun R cl Z hR hcl hZ => ?_)
  conv => whnf
  refine hcl _ _ _ _ ((x_row_55_22).use (by decide) (fun r1 τ1 q1 => ?_))
  obtain ⟨rfl, f1, c1⟩ := q1
  have F1 : FQ [(21, 0), (22, 9999)] σ τ1 := FQ.tr (FQ.up (G := [(21, 0)]) rfl F0) (FQ.up (G := [(22, 9999)]) rfl f1)
  have C1 : CPR [(54, 21, 1), (55, 22, 30)] σ τ1 := CPR.app (CPR.post (G := [(22, 9999)]) rfl f1 C0) (CPR.pre (G := [(21, 0)]) rfl F0 c1)
  conv => whnf
  refine hcl _ _ _ _ ((x_row_56_23).use (by decide) (fun r2 τ2 q2 => ?_))
  obtain ⟨rfl, f2, c2⟩ := q2
  have F2 : FQ [(21, 0), (22, 9999), (23, 9999)] σ τ2 := FQ.tr (FQ.up (G := [(21, 0), (22, 9999)]) rfl F1) (FQ.up (G := [(23, 9999)]) rfl f2)
  have C2 : CPR [(54, 21, 1), (55, 22, 30), (56, 23, 30)] σ τ2 := CPR.app (CPR.post (G := [(23, 9999)]) rfl f2 C1) (CPR.pre (G := [(21, 0), (22, 9999)]) rfl F1 c2)
  conv => whnf
  refine hcl _ _ _ _ ((x_row_57_24).use (by decide) (fun r3 τ3 q3 => ?_))
  obtain ⟨rfl, f3, c3⟩ := q3
  have F3 : FQ [(21, 0), (22, 9999), (23, 9999), (24, 9999)] σ τ3 := FQ.tr (FQ.up (G := [(21, 0), (22, 9999), (23, 9999)]) rfl F2) (FQ.up (G := [(24, 9999)]) rfl f3)
  have C3 : CPR [(54, 21, 1), (55, 22, 30), (56, 23, 30), (57, 24, 30)] σ τ3 := CPR.app (CPR.post (G := [(24, 9999)]) rfl f3 C2) (CPR.pre (G := [(21, 0), (22, 9999), (23, 9999)]) rfl F2 c3)
  conv => whnf
  refine hcl _ _ _ _ ((x_row_58_25).use (by decide) (fun r4 τ4 q4 => ?_))
  obtain ⟨rfl, f4, c4⟩ := q4
  have F4 : FQ [(21, 0), (22, 9999), (23, 9999), (24, 9999), (25, 9999)] σ τ4 := FQ.tr (FQ.up (G := [(21, 0), (22, 9999), (23, 9999), (24, 9999)]) rfl F3) (FQ.up (G := [(25, 9999)]) rfl f4)
  have C4 : CPR [(54, 21, 1), (55, 22, 30), (56, 23, 30), (57, 24, 30), (58, 25, 30)] σ τ4 := CPR.app (CPR.post (G := [(25, 9999)]) rfl f4 C3) (CPR.pre (G := [(21, 0), (22, 9999), (23, 9999), (24, 9999)]) rfl F3 c4)
  conv => whnf
  exact hZ _ _ ⟨rfl, F4, C4⟩
set_option maxRecDepth 20000 in
theorem x_cpLaw0 {σ : pm_S} : Sp 22 4 [.ref 64, .ref 31] σ (fun r τ => r = none ∧ FQ [(64, 0), (64, 1), (65, 9999)] σ τ ∧ CPR [(31, 64, 2), (32, 65, 400)] σ τ) := by
  have F0 : FQ [(64, 0), (64, 1)] σ (put (put σ 64 0 (σ.1 31 0)) 64 1 ((put σ 64 0 (σ.1 31 0)).1 31 1)) := FQ.tr (fq_put1 rfl) (fq_put1 rfl)
  have C0 : CPR [(31, 64, 2)] σ (put (put σ 64 0 (σ.1 31 0)) 64 1 ((put σ 64 0 (σ.1 31 0)).1 31 1)) := fun t ht j hj => by
    rw [List.mem_singleton.mp ht] at hj ⊢
    match j, hj with
    | 0, _ => rfl
    | 1, _ => rfl
    | j + 2, hj => exact absurd hj (by show ¬ (j + 2 < 2); omega)
  refine S_Law_copyFrom [] 400 rfl (fun R cl Z hR hcl hZ => ?_)
  conv => whnf
  refine hcl _ _ _ _ ((x_row_32_65).use (by decide) (fun r1 τ1 q1 => ?_))
  obtain ⟨rfl, f1, c1⟩ := q1
  have F1 : FQ [(64, 0), (64, 1), (65, 9999)] σ τ1 := FQ.tr (FQ.up (G := [(64, 0), (64, 1)]) rfl F0) (FQ.up (G := [(65, 9999)]) rfl f1)
  have C1 : CPR [(31, 64, 2), (32, 65, 400)] σ τ1 := CPR.app (CPR.post (G := [(65, 9999)]) rfl f1 C0) (CPR.pre (G := [(64, 0), (64, 1)]) rfl F0 c1)
  conv => whnf
  exact hZ _ _ ⟨rfl, F1, C1⟩
set_option maxRecDepth 20000 in
theorem x_cpLaw1 {σ : pm_S} : Sp 22 4 [.ref 31, .ref 64] σ (fun r τ => r = none ∧ FQ [(31, 0), (31, 1), (32, 9999)] σ τ ∧ CPR [(64, 31, 2), (65, 32, 400)] σ τ) := by
  have F0 : FQ [(31, 0), (31, 1)] σ (put (put σ 31 0 (σ.1 64 0)) 31 1 ((put σ 31 0 (σ.1 64 0)).1 64 1)) := FQ.tr (fq_put1 rfl) (fq_put1 rfl)
  have C0 : CPR [(64, 31, 2)] σ (put (put σ 31 0 (σ.1 64 0)) 31 1 ((put σ 31 0 (σ.1 64 0)).1 64 1)) := fun t ht j hj => by
    rw [List.mem_singleton.mp ht] at hj ⊢
    match j, hj with
    | 0, _ => rfl
    | 1, _ => rfl
    | j + 2, hj => exact absurd hj (by show ¬ (j + 2 < 2); omega)
  refine S_Law_copyFrom [] 400 rfl (fun R cl Z hR hcl hZ => ?_)
  conv => whnf
  refine hcl _ _ _ _ ((x_row_65_32).use (by decide) (fun r1 τ1 q1 => ?_))
  obtain ⟨rfl, f1, c1⟩ := q1
  have F1 : FQ [(31, 0), (31, 1), (32, 9999)] σ τ1 := FQ.tr (FQ.up (G := [(31, 0), (31, 1)]) rfl F0) (FQ.up (G := [(32, 9999)]) rfl f1)
  have C1 : CPR [(64, 31, 2), (65, 32, 400)] σ τ1 := CPR.app (CPR.post (G := [(32, 9999)]) rfl f1 C0) (CPR.pre (G := [(31, 0), (31, 1)]) rfl F0 c1)
  conv => whnf
  exact hZ _ _ ⟨rfl, F1, C1⟩
set_option maxRecDepth 20000 in
theorem x_cpTown0 {σ : pm_S} (hB : an_GB pm_B σ) : Sp 119 6 [.ref 34, .ref 1] σ (fun r τ => r = none ∧ FQ [(34, 0), (34, 1), (34, 2), (34, 3), (35, 9999), (36, 0), (37, 9999), (38, 9999), (39, 9999), (40, 0), (41, 9999), (42, 9999), (43, 9999), (44, 9999), (45, 9999), (46, 0), (47, 9999), (48, 9999), (49, 9999), (50, 9999), (51, 9999), (52, 9999), (53, 9999), (54, 0), (55, 9999), (56, 9999), (57, 9999), (58, 9999), (64, 0), (64, 1), (65, 9999)] σ τ ∧ CPR [(1, 34, 4), (2, 35, 4), (3, 36, 1), (4, 37, 10), (5, 38, 100), (6, 39, 80), (7, 40, 1), (8, 41, 10), (9, 42, 10), (10, 43, 10), (11, 44, 10), (12, 45, 10), (13, 46, 1), (14, 47, 30), (15, 48, 30), (16, 49, 30), (17, 50, 30), (18, 51, 30), (19, 52, 30), (20, 53, 30), (21, 54, 1), (22, 55, 30), (23, 56, 30), (24, 57, 30), (25, 58, 30), (31, 64, 2), (32, 65, 400)] σ τ) := by
  have w : σ.1 1 3 = 0 ∨ σ.1 1 3 = 1 := by
    have g : (0 : Int) ≤ (σ.1 1 3).toInt ∧ (σ.1 1 3).toInt ≤ 1 := hB 1 3 (by decide)
    rcases (show (σ.1 1 3).toInt = 0 ∨ (σ.1 1 3).toInt = 1 by omega) with h | h
    · exact Or.inl (Int32.toInt_inj.mp h)
    · exact Or.inr (Int32.toInt_inj.mp h)
  have F0 : FQ [(34, 0), (34, 1), (34, 2), (34, 3)] σ (put (put (put (put σ 34 0 (σ.1 1 0)) 34 1 (σ.1 1 1)) 34 2 (σ.1 1 2)) 34 3 (σ.1 1 3)) := FQ.tr (FQ.tr (FQ.tr (fq_put1 rfl) (fq_put1 rfl)) (fq_put1 rfl)) (fq_put1 rfl)
  have C0 : CPR [(1, 34, 4)] σ (put (put (put (put σ 34 0 (σ.1 1 0)) 34 1 (σ.1 1 1)) 34 2 (σ.1 1 2)) 34 3 (σ.1 1 3)) := fun t ht j hj => by
    rw [List.mem_singleton.mp ht] at hj ⊢
    match j, hj with
    | 0, _ => rfl
    | 1, _ => rfl
    | 2, _ => rfl
    | 3, _ => rfl
    | j + 4, hj => exact absurd hj (by show ¬ (j + 4 < 4); omega)
  refine S_Town_copyFrom [] 400 rfl (fun R cl Z hR hcl hZ => ?_)
  conv => whnf
  refine ⟨fun _ => ?_, fun z => absurd w z⟩
  conv => whnf
  refine hcl _ _ _ _ ((x_row_2_35).use (by decide) (fun r1 τ1 q1 => ?_))
  obtain ⟨rfl, f1, c1⟩ := q1
  have F1 : FQ [(34, 0), (34, 1), (34, 2), (34, 3), (35, 9999)] σ τ1 := FQ.tr (FQ.up (G := [(34, 0), (34, 1), (34, 2), (34, 3)]) rfl F0) (FQ.up (G := [(35, 9999)]) rfl f1)
  have C1 : CPR [(1, 34, 4), (2, 35, 4)] σ τ1 := CPR.app (CPR.post (G := [(35, 9999)]) rfl f1 C0) (CPR.pre (G := [(34, 0), (34, 1), (34, 2), (34, 3)]) rfl F0 c1)
  conv => whnf
  refine hcl _ _ _ _ ((x_cpSpots0).use (by decide) (fun r2 τ2 q2 => ?_))
  obtain ⟨rfl, f2, c2⟩ := q2
  have F2 : FQ [(34, 0), (34, 1), (34, 2), (34, 3), (35, 9999), (36, 0), (37, 9999), (38, 9999), (39, 9999)] σ τ2 := FQ.tr (FQ.up (G := [(34, 0), (34, 1), (34, 2), (34, 3), (35, 9999)]) rfl F1) (FQ.up (G := [(36, 0), (37, 9999), (38, 9999), (39, 9999)]) rfl f2)
  have C2 : CPR [(1, 34, 4), (2, 35, 4), (3, 36, 1), (4, 37, 10), (5, 38, 100), (6, 39, 80)] σ τ2 := CPR.app (CPR.post (G := [(36, 0), (37, 9999), (38, 9999), (39, 9999)]) rfl f2 C1) (CPR.pre (G := [(34, 0), (34, 1), (34, 2), (34, 3), (35, 9999)]) rfl F1 c2)
  conv => whnf
  refine hcl _ _ _ _ ((x_cpPeople0).use (by decide) (fun r3 τ3 q3 => ?_))
  obtain ⟨rfl, f3, c3⟩ := q3
  have F3 : FQ [(34, 0), (34, 1), (34, 2), (34, 3), (35, 9999), (36, 0), (37, 9999), (38, 9999), (39, 9999), (40, 0), (41, 9999), (42, 9999), (43, 9999), (44, 9999), (45, 9999)] σ τ3 := FQ.tr (FQ.up (G := [(34, 0), (34, 1), (34, 2), (34, 3), (35, 9999), (36, 0), (37, 9999), (38, 9999), (39, 9999)]) rfl F2) (FQ.up (G := [(40, 0), (41, 9999), (42, 9999), (43, 9999), (44, 9999), (45, 9999)]) rfl f3)
  have C3 : CPR [(1, 34, 4), (2, 35, 4), (3, 36, 1), (4, 37, 10), (5, 38, 100), (6, 39, 80), (7, 40, 1), (8, 41, 10), (9, 42, 10), (10, 43, 10), (11, 44, 10), (12, 45, 10)] σ τ3 := CPR.app (CPR.post (G := [(40, 0), (41, 9999), (42, 9999), (43, 9999), (44, 9999), (45, 9999)]) rfl f3 C2) (CPR.pre (G := [(34, 0), (34, 1), (34, 2), (34, 3), (35, 9999), (36, 0), (37, 9999), (38, 9999), (39, 9999)]) rfl F2 c3)
  conv => whnf
  refine hcl _ _ _ _ ((x_cpDebts0).use (by decide) (fun r4 τ4 q4 => ?_))
  obtain ⟨rfl, f4, c4⟩ := q4
  have F4 : FQ [(34, 0), (34, 1), (34, 2), (34, 3), (35, 9999), (36, 0), (37, 9999), (38, 9999), (39, 9999), (40, 0), (41, 9999), (42, 9999), (43, 9999), (44, 9999), (45, 9999), (46, 0), (47, 9999), (48, 9999), (49, 9999), (50, 9999), (51, 9999), (52, 9999), (53, 9999)] σ τ4 := FQ.tr (FQ.up (G := [(34, 0), (34, 1), (34, 2), (34, 3), (35, 9999), (36, 0), (37, 9999), (38, 9999), (39, 9999), (40, 0), (41, 9999), (42, 9999), (43, 9999), (44, 9999), (45, 9999)]) rfl F3) (FQ.up (G := [(46, 0), (47, 9999), (48, 9999), (49, 9999), (50, 9999), (51, 9999), (52, 9999), (53, 9999)]) rfl f4)
  have C4 : CPR [(1, 34, 4), (2, 35, 4), (3, 36, 1), (4, 37, 10), (5, 38, 100), (6, 39, 80), (7, 40, 1), (8, 41, 10), (9, 42, 10), (10, 43, 10), (11, 44, 10), (12, 45, 10), (13, 46, 1), (14, 47, 30), (15, 48, 30), (16, 49, 30), (17, 50, 30), (18, 51, 30), (19, 52, 30), (20, 53, 30)] σ τ4 := CPR.app (CPR.post (G := [(46, 0), (47, 9999), (48, 9999), (49, 9999), (50, 9999), (51, 9999), (52, 9999), (53, 9999)]) rfl f4 C3) (CPR.pre (G := [(34, 0), (34, 1), (34, 2), (34, 3), (35, 9999), (36, 0), (37, 9999), (38, 9999), (39, 9999), (40, 0), (41, 9999), (42, 9999), (43, 9999), (44, 9999), (45, 9999)]) rfl F3 c4)
  conv => whnf
  refine hcl _ _ _ _ ((x_cpLines0).use (by decide) (fun r5 τ5 q5 => ?_))
  obtain ⟨rfl, f5, c5⟩ := q5
  have F5 : FQ [(34, 0), (34, 1), (34, 2), (34, 3), (35, 9999), (36, 0), (37, 9999), (38, 9999), (39, 9999), (40, 0), (41, 9999), (42, 9999), (43, 9999), (44, 9999), (45, 9999), (46, 0), (47, 9999), (48, 9999), (49, 9999), (50, 9999), (51, 9999), (52, 9999), (53, 9999), (54, 0), (55, 9999), (56, 9999), (57, 9999), (58, 9999)] σ τ5 := FQ.tr (FQ.up (G := [(34, 0), (34, 1), (34, 2), (34, 3), (35, 9999), (36, 0), (37, 9999), (38, 9999), (39, 9999), (40, 0), (41, 9999), (42, 9999), (43, 9999), (44, 9999), (45, 9999), (46, 0), (47, 9999), (48, 9999), (49, 9999), (50, 9999), (51, 9999), (52, 9999), (53, 9999)]) rfl F4) (FQ.up (G := [(54, 0), (55, 9999), (56, 9999), (57, 9999), (58, 9999)]) rfl f5)
  have C5 : CPR [(1, 34, 4), (2, 35, 4), (3, 36, 1), (4, 37, 10), (5, 38, 100), (6, 39, 80), (7, 40, 1), (8, 41, 10), (9, 42, 10), (10, 43, 10), (11, 44, 10), (12, 45, 10), (13, 46, 1), (14, 47, 30), (15, 48, 30), (16, 49, 30), (17, 50, 30), (18, 51, 30), (19, 52, 30), (20, 53, 30), (21, 54, 1), (22, 55, 30), (23, 56, 30), (24, 57, 30), (25, 58, 30)] σ τ5 := CPR.app (CPR.post (G := [(54, 0), (55, 9999), (56, 9999), (57, 9999), (58, 9999)]) rfl f5 C4) (CPR.pre (G := [(34, 0), (34, 1), (34, 2), (34, 3), (35, 9999), (36, 0), (37, 9999), (38, 9999), (39, 9999), (40, 0), (41, 9999), (42, 9999), (43, 9999), (44, 9999), (45, 9999), (46, 0), (47, 9999), (48, 9999), (49, 9999), (50, 9999), (51, 9999), (52, 9999), (53, 9999)]) rfl F4 c5)
  conv => whnf
  refine hcl _ _ _ _ ((x_cpLaw0).use (by decide) (fun r6 τ6 q6 => ?_))
  obtain ⟨rfl, f6, c6⟩ := q6
  have F6 : FQ [(34, 0), (34, 1), (34, 2), (34, 3), (35, 9999), (36, 0), (37, 9999), (38, 9999), (39, 9999), (40, 0), (41, 9999), (42, 9999), (43, 9999), (44, 9999), (45, 9999), (46, 0), (47, 9999), (48, 9999), (49, 9999), (50, 9999), (51, 9999), (52, 9999), (53, 9999), (54, 0), (55, 9999), (56, 9999), (57, 9999), (58, 9999), (64, 0), (64, 1), (65, 9999)] σ τ6 := FQ.tr (FQ.up (G := [(34, 0), (34, 1), (34, 2), (34, 3), (35, 9999), (36, 0), (37, 9999), (38, 9999), (39, 9999), (40, 0), (41, 9999), (42, 9999), (43, 9999), (44, 9999), (45, 9999), (46, 0), (47, 9999), (48, 9999), (49, 9999), (50, 9999), (51, 9999), (52, 9999), (53, 9999), (54, 0), (55, 9999), (56, 9999), (57, 9999), (58, 9999)]) rfl F5) (FQ.up (G := [(64, 0), (64, 1), (65, 9999)]) rfl f6)
  have C6 : CPR [(1, 34, 4), (2, 35, 4), (3, 36, 1), (4, 37, 10), (5, 38, 100), (6, 39, 80), (7, 40, 1), (8, 41, 10), (9, 42, 10), (10, 43, 10), (11, 44, 10), (12, 45, 10), (13, 46, 1), (14, 47, 30), (15, 48, 30), (16, 49, 30), (17, 50, 30), (18, 51, 30), (19, 52, 30), (20, 53, 30), (21, 54, 1), (22, 55, 30), (23, 56, 30), (24, 57, 30), (25, 58, 30), (31, 64, 2), (32, 65, 400)] σ τ6 := CPR.app (CPR.post (G := [(64, 0), (64, 1), (65, 9999)]) rfl f6 C5) (CPR.pre (G := [(34, 0), (34, 1), (34, 2), (34, 3), (35, 9999), (36, 0), (37, 9999), (38, 9999), (39, 9999), (40, 0), (41, 9999), (42, 9999), (43, 9999), (44, 9999), (45, 9999), (46, 0), (47, 9999), (48, 9999), (49, 9999), (50, 9999), (51, 9999), (52, 9999), (53, 9999), (54, 0), (55, 9999), (56, 9999), (57, 9999), (58, 9999)]) rfl F5 c6)
  conv => whnf
  exact hZ _ _ ⟨rfl, F6, C6⟩
set_option maxRecDepth 20000 in
theorem x_cpTown1 {σ : pm_S} (hB : an_GB pm_B σ) : Sp 119 6 [.ref 1, .ref 34] σ (fun r τ => r = none ∧ FQ [(1, 0), (1, 1), (1, 2), (1, 3), (2, 9999), (3, 0), (4, 9999), (5, 9999), (6, 9999), (7, 0), (8, 9999), (9, 9999), (10, 9999), (11, 9999), (12, 9999), (13, 0), (14, 9999), (15, 9999), (16, 9999), (17, 9999), (18, 9999), (19, 9999), (20, 9999), (21, 0), (22, 9999), (23, 9999), (24, 9999), (25, 9999), (31, 0), (31, 1), (32, 9999)] σ τ ∧ CPR [(34, 1, 4), (35, 2, 4), (36, 3, 1), (37, 4, 10), (38, 5, 100), (39, 6, 80), (40, 7, 1), (41, 8, 10), (42, 9, 10), (43, 10, 10), (44, 11, 10), (45, 12, 10), (46, 13, 1), (47, 14, 30), (48, 15, 30), (49, 16, 30), (50, 17, 30), (51, 18, 30), (52, 19, 30), (53, 20, 30), (54, 21, 1), (55, 22, 30), (56, 23, 30), (57, 24, 30), (58, 25, 30), (64, 31, 2), (65, 32, 400)] σ τ) := by
  have w : σ.1 34 3 = 0 ∨ σ.1 34 3 = 1 := by
    have g : (0 : Int) ≤ (σ.1 34 3).toInt ∧ (σ.1 34 3).toInt ≤ 1 := hB 34 3 (by decide)
    rcases (show (σ.1 34 3).toInt = 0 ∨ (σ.1 34 3).toInt = 1 by omega) with h | h
    · exact Or.inl (Int32.toInt_inj.mp h)
    · exact Or.inr (Int32.toInt_inj.mp h)
  have F0 : FQ [(1, 0), (1, 1), (1, 2), (1, 3)] σ (put (put (put (put σ 1 0 (σ.1 34 0)) 1 1 (σ.1 34 1)) 1 2 (σ.1 34 2)) 1 3 (σ.1 34 3)) := FQ.tr (FQ.tr (FQ.tr (fq_put1 rfl) (fq_put1 rfl)) (fq_put1 rfl)) (fq_put1 rfl)
  have C0 : CPR [(34, 1, 4)] σ (put (put (put (put σ 1 0 (σ.1 34 0)) 1 1 (σ.1 34 1)) 1 2 (σ.1 34 2)) 1 3 (σ.1 34 3)) := fun t ht j hj => by
    rw [List.mem_singleton.mp ht] at hj ⊢
    match j, hj with
    | 0, _ => rfl
    | 1, _ => rfl
    | 2, _ => rfl
    | 3, _ => rfl
    | j + 4, hj => exact absurd hj (by show ¬ (j + 4 < 4); omega)
  refine S_Town_copyFrom [] 400 rfl (fun R cl Z hR hcl hZ => ?_)
  conv => whnf
  refine ⟨fun _ => ?_, fun z => absurd w z⟩
  conv => whnf
  refine hcl _ _ _ _ ((x_row_35_2).use (by decide) (fun r1 τ1 q1 => ?_))
  obtain ⟨rfl, f1, c1⟩ := q1
  have F1 : FQ [(1, 0), (1, 1), (1, 2), (1, 3), (2, 9999)] σ τ1 := FQ.tr (FQ.up (G := [(1, 0), (1, 1), (1, 2), (1, 3)]) rfl F0) (FQ.up (G := [(2, 9999)]) rfl f1)
  have C1 : CPR [(34, 1, 4), (35, 2, 4)] σ τ1 := CPR.app (CPR.post (G := [(2, 9999)]) rfl f1 C0) (CPR.pre (G := [(1, 0), (1, 1), (1, 2), (1, 3)]) rfl F0 c1)
  conv => whnf
  refine hcl _ _ _ _ ((x_cpSpots1).use (by decide) (fun r2 τ2 q2 => ?_))
  obtain ⟨rfl, f2, c2⟩ := q2
  have F2 : FQ [(1, 0), (1, 1), (1, 2), (1, 3), (2, 9999), (3, 0), (4, 9999), (5, 9999), (6, 9999)] σ τ2 := FQ.tr (FQ.up (G := [(1, 0), (1, 1), (1, 2), (1, 3), (2, 9999)]) rfl F1) (FQ.up (G := [(3, 0), (4, 9999), (5, 9999), (6, 9999)]) rfl f2)
  have C2 : CPR [(34, 1, 4), (35, 2, 4), (36, 3, 1), (37, 4, 10), (38, 5, 100), (39, 6, 80)] σ τ2 := CPR.app (CPR.post (G := [(3, 0), (4, 9999), (5, 9999), (6, 9999)]) rfl f2 C1) (CPR.pre (G := [(1, 0), (1, 1), (1, 2), (1, 3), (2, 9999)]) rfl F1 c2)
  conv => whnf
  refine hcl _ _ _ _ ((x_cpPeople1).use (by decide) (fun r3 τ3 q3 => ?_))
  obtain ⟨rfl, f3, c3⟩ := q3
  have F3 : FQ [(1, 0), (1, 1), (1, 2), (1, 3), (2, 9999), (3, 0), (4, 9999), (5, 9999), (6, 9999), (7, 0), (8, 9999), (9, 9999), (10, 9999), (11, 9999), (12, 9999)] σ τ3 := FQ.tr (FQ.up (G := [(1, 0), (1, 1), (1, 2), (1, 3), (2, 9999), (3, 0), (4, 9999), (5, 9999), (6, 9999)]) rfl F2) (FQ.up (G := [(7, 0), (8, 9999), (9, 9999), (10, 9999), (11, 9999), (12, 9999)]) rfl f3)
  have C3 : CPR [(34, 1, 4), (35, 2, 4), (36, 3, 1), (37, 4, 10), (38, 5, 100), (39, 6, 80), (40, 7, 1), (41, 8, 10), (42, 9, 10), (43, 10, 10), (44, 11, 10), (45, 12, 10)] σ τ3 := CPR.app (CPR.post (G := [(7, 0), (8, 9999), (9, 9999), (10, 9999), (11, 9999), (12, 9999)]) rfl f3 C2) (CPR.pre (G := [(1, 0), (1, 1), (1, 2), (1, 3), (2, 9999), (3, 0), (4, 9999), (5, 9999), (6, 9999)]) rfl F2 c3)
  conv => whnf
  refine hcl _ _ _ _ ((x_cpDebts1).use (by decide) (fun r4 τ4 q4 => ?_))
  obtain ⟨rfl, f4, c4⟩ := q4
  have F4 : FQ [(1, 0), (1, 1), (1, 2), (1, 3), (2, 9999), (3, 0), (4, 9999), (5, 9999), (6, 9999), (7, 0), (8, 9999), (9, 9999), (10, 9999), (11, 9999), (12, 9999), (13, 0), (14, 9999), (15, 9999), (16, 9999), (17, 9999), (18, 9999), (19, 9999), (20, 9999)] σ τ4 := FQ.tr (FQ.up (G := [(1, 0), (1, 1), (1, 2), (1, 3), (2, 9999), (3, 0), (4, 9999), (5, 9999), (6, 9999), (7, 0), (8, 9999), (9, 9999), (10, 9999), (11, 9999), (12, 9999)]) rfl F3) (FQ.up (G := [(13, 0), (14, 9999), (15, 9999), (16, 9999), (17, 9999), (18, 9999), (19, 9999), (20, 9999)]) rfl f4)
  have C4 : CPR [(34, 1, 4), (35, 2, 4), (36, 3, 1), (37, 4, 10), (38, 5, 100), (39, 6, 80), (40, 7, 1), (41, 8, 10), (42, 9, 10), (43, 10, 10), (44, 11, 10), (45, 12, 10), (46, 13, 1), (47, 14, 30), (48, 15, 30), (49, 16, 30), (50, 17, 30), (51, 18, 30), (52, 19, 30), (53, 20, 30)] σ τ4 := CPR.app (CPR.post (G := [(13, 0), (14, 9999), (15, 9999), (16, 9999), (17, 9999), (18, 9999), (19, 9999), (20, 9999)]) rfl f4 C3) (CPR.pre (G := [(1, 0), (1, 1), (1, 2), (1, 3), (2, 9999), (3, 0), (4, 9999), (5, 9999), (6, 9999), (7, 0), (8, 9999), (9, 9999), (10, 9999), (11, 9999), (12, 9999)]) rfl F3 c4)
  conv => whnf
  refine hcl _ _ _ _ ((x_cpLines1).use (by decide) (fun r5 τ5 q5 => ?_))
  obtain ⟨rfl, f5, c5⟩ := q5
  have F5 : FQ [(1, 0), (1, 1), (1, 2), (1, 3), (2, 9999), (3, 0), (4, 9999), (5, 9999), (6, 9999), (7, 0), (8, 9999), (9, 9999), (10, 9999), (11, 9999), (12, 9999), (13, 0), (14, 9999), (15, 9999), (16, 9999), (17, 9999), (18, 9999), (19, 9999), (20, 9999), (21, 0), (22, 9999), (23, 9999), (24, 9999), (25, 9999)] σ τ5 := FQ.tr (FQ.up (G := [(1, 0), (1, 1), (1, 2), (1, 3), (2, 9999), (3, 0), (4, 9999), (5, 9999), (6, 9999), (7, 0), (8, 9999), (9, 9999), (10, 9999), (11, 9999), (12, 9999), (13, 0), (14, 9999), (15, 9999), (16, 9999), (17, 9999), (18, 9999), (19, 9999), (20, 9999)]) rfl F4) (FQ.up (G := [(21, 0), (22, 9999), (23, 9999), (24, 9999), (25, 9999)]) rfl f5)
  have C5 : CPR [(34, 1, 4), (35, 2, 4), (36, 3, 1), (37, 4, 10), (38, 5, 100), (39, 6, 80), (40, 7, 1), (41, 8, 10), (42, 9, 10), (43, 10, 10), (44, 11, 10), (45, 12, 10), (46, 13, 1), (47, 14, 30), (48, 15, 30), (49, 16, 30), (50, 17, 30), (51, 18, 30), (52, 19, 30), (53, 20, 30), (54, 21, 1), (55, 22, 30), (56, 23, 30), (57, 24, 30), (58, 25, 30)] σ τ5 := CPR.app (CPR.post (G := [(21, 0), (22, 9999), (23, 9999), (24, 9999), (25, 9999)]) rfl f5 C4) (CPR.pre (G := [(1, 0), (1, 1), (1, 2), (1, 3), (2, 9999), (3, 0), (4, 9999), (5, 9999), (6, 9999), (7, 0), (8, 9999), (9, 9999), (10, 9999), (11, 9999), (12, 9999), (13, 0), (14, 9999), (15, 9999), (16, 9999), (17, 9999), (18, 9999), (19, 9999), (20, 9999)]) rfl F4 c5)
  conv => whnf
  refine hcl _ _ _ _ ((x_cpLaw1).use (by decide) (fun r6 τ6 q6 => ?_))
  obtain ⟨rfl, f6, c6⟩ := q6
  have F6 : FQ [(1, 0), (1, 1), (1, 2), (1, 3), (2, 9999), (3, 0), (4, 9999), (5, 9999), (6, 9999), (7, 0), (8, 9999), (9, 9999), (10, 9999), (11, 9999), (12, 9999), (13, 0), (14, 9999), (15, 9999), (16, 9999), (17, 9999), (18, 9999), (19, 9999), (20, 9999), (21, 0), (22, 9999), (23, 9999), (24, 9999), (25, 9999), (31, 0), (31, 1), (32, 9999)] σ τ6 := FQ.tr (FQ.up (G := [(1, 0), (1, 1), (1, 2), (1, 3), (2, 9999), (3, 0), (4, 9999), (5, 9999), (6, 9999), (7, 0), (8, 9999), (9, 9999), (10, 9999), (11, 9999), (12, 9999), (13, 0), (14, 9999), (15, 9999), (16, 9999), (17, 9999), (18, 9999), (19, 9999), (20, 9999), (21, 0), (22, 9999), (23, 9999), (24, 9999), (25, 9999)]) rfl F5) (FQ.up (G := [(31, 0), (31, 1), (32, 9999)]) rfl f6)
  have C6 : CPR [(34, 1, 4), (35, 2, 4), (36, 3, 1), (37, 4, 10), (38, 5, 100), (39, 6, 80), (40, 7, 1), (41, 8, 10), (42, 9, 10), (43, 10, 10), (44, 11, 10), (45, 12, 10), (46, 13, 1), (47, 14, 30), (48, 15, 30), (49, 16, 30), (50, 17, 30), (51, 18, 30), (52, 19, 30), (53, 20, 30), (54, 21, 1), (55, 22, 30), (56, 23, 30), (57, 24, 30), (58, 25, 30), (64, 31, 2), (65, 32, 400)] σ τ6 := CPR.app (CPR.post (G := [(31, 0), (31, 1), (32, 9999)]) rfl f6 C5) (CPR.pre (G := [(1, 0), (1, 1), (1, 2), (1, 3), (2, 9999), (3, 0), (4, 9999), (5, 9999), (6, 9999), (7, 0), (8, 9999), (9, 9999), (10, 9999), (11, 9999), (12, 9999), (13, 0), (14, 9999), (15, 9999), (16, 9999), (17, 9999), (18, 9999), (19, 9999), (20, 9999), (21, 0), (22, 9999), (23, 9999), (24, 9999), (25, 9999)]) rfl F5 c6)
  conv => whnf
  exact hZ _ _ ⟨rfl, F6, C6⟩
abbrev cpT : List (Nat × Nat × Nat) := [(1, 34, 4), (2, 35, 4), (3, 36, 1), (4, 37, 10), (5, 38, 100), (6, 39, 80), (7, 40, 1), (8, 41, 10), (9, 42, 10), (10, 43, 10), (11, 44, 10), (12, 45, 10), (13, 46, 1), (14, 47, 30), (15, 48, 30), (16, 49, 30), (17, 50, 30), (18, 51, 30), (19, 52, 30), (20, 53, 30), (21, 54, 1), (22, 55, 30), (23, 56, 30), (24, 57, 30), (25, 58, 30), (31, 64, 2), (32, 65, 400)]
abbrev cpK : List (Nat × Nat × Nat) := [(34, 1, 4), (35, 2, 4), (36, 3, 1), (37, 4, 10), (38, 5, 100), (39, 6, 80), (40, 7, 1), (41, 8, 10), (42, 9, 10), (43, 10, 10), (44, 11, 10), (45, 12, 10), (46, 13, 1), (47, 14, 30), (48, 15, 30), (49, 16, 30), (50, 17, 30), (51, 18, 30), (52, 19, 30), (53, 20, 30), (54, 21, 1), (55, 22, 30), (56, 23, 30), (57, 24, 30), (58, 25, 30), (64, 31, 2), (65, 32, 400)]
abbrev fpT : List (Nat × Nat) := [(34, 0), (34, 1), (34, 2), (34, 3), (35, 9999), (36, 0), (37, 9999), (38, 9999), (39, 9999), (40, 0), (41, 9999), (42, 9999), (43, 9999), (44, 9999), (45, 9999), (46, 0), (47, 9999), (48, 9999), (49, 9999), (50, 9999), (51, 9999), (52, 9999), (53, 9999), (54, 0), (55, 9999), (56, 9999), (57, 9999), (58, 9999), (64, 0), (64, 1), (65, 9999)]
abbrev fpK : List (Nat × Nat) := [(1, 0), (1, 1), (1, 2), (1, 3), (2, 9999), (3, 0), (4, 9999), (5, 9999), (6, 9999), (7, 0), (8, 9999), (9, 9999), (10, 9999), (11, 9999), (12, 9999), (13, 0), (14, 9999), (15, 9999), (16, 9999), (17, 9999), (18, 9999), (19, 9999), (20, 9999), (21, 0), (22, 9999), (23, 9999), (24, 9999), (25, 9999), (31, 0), (31, 1), (32, 9999)]
theorem GB_cp {ps : List (Nat × Nat × Nat)} {G : List (Nat × Nat)} {σ τ : pm_S} (hc : GBc ps G = true) (hB : an_GB pm_B σ) (hF : FQ G σ τ) (h : CPR ps σ τ) : an_GB pm_B τ := fun p j hj => by
  by_cases e : an_inF G p j = true
  · obtain ⟨g, hg, e1, e2⟩ := an_inF_mem.mp e
    have c := List.all_eq_true.mp hc g hg
    rw [Bool.and_eq_true] at c
    have c0 : g.1 < 9999 := Nat.le_of_ble_eq_true c.1
    have e1 : g.1 = p := by omega
    obtain ⟨t, ht, c⟩ := List.any_eq_true.mp c.2
    rw [Bool.and_eq_true, Bool.and_eq_true, Bool.and_eq_true] at c
    have c1 := Nat.eq_of_beq_eq_true c.1.1.1
    have c3 := of_decide_eq_true c.1.2
    have c4 := Nat.le_of_ble_eq_true c.2
    have hjn : j < t.2.2 := by
      have c2 := c.1.1.2
      split at c2
      · have := Nat.le_of_ble_eq_true c2
        rw [e1] at this
        omega
      · rename_i z
        have c2 : g.2 < t.2.2 := Nat.le_of_ble_eq_true c2
        rcases e2 with e2 | e2
        · omega
        · rw [e2] at z
          cases z
    have b : an_bd pm_B p j = an_bd pm_B t.1 j := by
      unfold an_bd
      rw [← e1, ← c1, c3]
    rw [b, ← e1, ← c1, h t ht j hjn]
    exact hB t.1 j (by omega)
  · rw [hF p j (by simpa using e)]
    exact hB p j hj
set_option maxRecDepth 20000 in
theorem xc_image {σ : pm_S} (a1 : Int32) (hw : a1 = 0 ∨ a1 = 1) (hB : an_GB pm_B σ) : Sp 151 8 [.ref 0, .int a1] σ (fun r τ => an_GB pm_B τ ∧ (∀ p j, 93 ≤ p → τ.1 p j = σ.1 p j) ∧ ((r = some (.int (Int32.ofInt 0)) ∧ a1 = 0 ∧ (σ.1 0 2).toInt = 0 ∧ τ = σ) ∨ (r = some (.int (Int32.ofInt 1)) ∧ (τ.1 0 2).toInt = 1 ∧ ((a1 = 1 ∧ CPR cpT σ τ ∧ FQ ((0, 2) :: fpT) σ τ) ∨ (a1 = 0 ∧ (σ.1 0 2).toInt = 1 ∧ CPR cpK σ τ ∧ FQ fpK σ τ))))) := by
  have g : (0 : Int) ≤ (σ.1 0 2).toInt ∧ (σ.1 0 2).toInt ≤ 1 := hB 0 2 (by decide)
  rcases hw with rfl | rfl
  · rcases (show (σ.1 0 2).toInt = 0 ∨ (σ.1 0 2).toInt = 1 by omega) with h | h
    · have h' : σ.1 0 2 = 0 := Int32.toInt_inj.mp h
      refine S_PaidWhereMade_image [13] 400 rfl (fun R cl Z hR hcl hZ => ?_)
      conv => whnf
      refine ⟨fun _ => ?_, fun z => absurd (show (0 : Int32) = 0 from rfl) z⟩
      conv => whnf
      refine hR _ _ _ _ ?_
      refine Ok.if1 (c := .eq) rfl rfl (fun z => ?_) (fun z => absurd h' z)
      refine O_PaidWhereMade_image [] 400 (fun R cl Z hR hcl hZ => ?_)
      conv => whnf
      exact ⟨fun _ => hZ _ _ ⟨hB, fun _ _ _ => rfl, Or.inl ⟨congrArg (fun w => some (Value.int w)) h', rfl, h, rfl⟩⟩, fun z => absurd (Or.inl h') z⟩
    · have h' : σ.1 0 2 = 1 := Int32.toInt_inj.mp h
      refine S_PaidWhereMade_image [13] 400 rfl (fun R cl Z hR hcl hZ => ?_)
      conv => whnf
      refine ⟨fun _ => ?_, fun z => absurd (show (0 : Int32) = 0 from rfl) z⟩
      conv => whnf
      refine hR _ _ _ _ ?_
      refine Ok.if1 (c := .eq) rfl rfl (fun z => absurd (h'.symm.trans z) (by decide)) (fun z => ?_)
      refine O_PaidWhereMade_image [] 400 (fun R cl Z hR hcl hZ => ?_)
      conv => whnf
      refine hcl _ _ _ _ ((x_cpTown1 hB).use (by decide) (fun r τ q => ?_))
      obtain ⟨rfl, F, C⟩ := q
      conv => whnf
      have e : τ.1 0 2 = 1 := (F 0 2 rfl).trans h'
      exact ⟨fun _ => hZ _ _ ⟨GB_cp rfl hB F C, fun p j hp => F p j (an_foot93 rfl hp), Or.inr ⟨congrArg (fun w => some (Value.int w)) e, congrArg Int32.toInt e, Or.inr ⟨rfl, h, C, F⟩⟩⟩, fun z => absurd (Or.inr e) z⟩
  · refine S_PaidWhereMade_image [] 400 rfl (fun R cl Z hR hcl hZ => ?_)
    conv => whnf
    refine ⟨fun z => absurd z (show ¬ (1 : Int32) = 0 by decide), fun _ => ?_⟩
    conv => whnf
    refine hcl _ _ _ _ ((x_cpTown0 hB).use (by decide) (fun r τ q => ?_))
    obtain ⟨rfl, F, C⟩ := q
    conv => whnf
    have Bτ : an_GB pm_B τ := GB_cp rfl hB F C
    have F1 : FQ [(0, 2)] τ (put τ 0 2 (pm_iv 1 0)) := fq_put1 rfl
    have B1 : an_GB pm_B (put τ 0 2 (pm_iv 1 0)) := put_GB Bτ (by decide)
    have e1 : (put τ 0 2 (pm_iv 1 0)).1 0 2 = pm_iv 1 0 := put_eq
    have F2 : FQ ((0, 2) :: fpT) σ (put τ 0 2 (pm_iv 1 0)) := FQ.tr (FQ.up (G := fpT) rfl F) (FQ.up (G := [(0, 2)]) rfl F1)
    have C2 : CPR cpT σ (put τ 0 2 (pm_iv 1 0)) := CPR.post (G := [(0, 2)]) rfl F1 C
    refine ⟨fun _ => ?_, fun z => absurd (by decide) z⟩
    conv => whnf
    exact ⟨fun _ => hZ _ (put τ 0 2 (pm_iv 1 0)) ⟨B1, fun p j hp => F2 p j (an_foot93 rfl hp), Or.inr ⟨congrArg (fun w => some (Value.int w)) o1, by rw [e1]; decide, Or.inl ⟨rfl, C2, F2⟩⟩⟩, fun z => absurd (Or.inr (e1.trans (by decide))) z⟩
