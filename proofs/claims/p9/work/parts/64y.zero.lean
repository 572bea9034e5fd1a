/-! the beginning -/
abbrev I7 : pm_S → Prop := fun σ => an_GB pm_B σ ∧ mP σ
set_option maxRecDepth 100000 in
theorem gb_0 : (List.range 134).all (fun p => (List.range (an_len p)).all (fun j => an_le (an_bd pm_B p j).1 (pm_s0.1 p j).toInt && an_le (pm_s0.1 p j).toInt (an_bd pm_B p j).2)) = true := by decide +kernel
set_option maxRecDepth 100000 in
theorem len_134 {p : Nat} (h : 134 ≤ p) : an_len p = 0 := by
  unfold an_len
  have : pm_nth pm_lay p = none := by
    rw [pm_nth_eq]
    exact List.getElem?_eq_none (by show 134 ≤ p; exact h)
  rw [this]
theorem I7_0 : I7 pm_s0 := by
  have e5 : cI pm_s0 5 = 0 := by decide +kernel
  refine ⟨fun p j hj => ?_, ⟨⟨fun i hi => ?_, fun d hd => ?_⟩, Or.inr e5⟩, fun z => ?_, fun z => ?_⟩
  · by_cases h : 134 ≤ p
    · rw [len_134 h] at hj
      exact absurd hj (Nat.not_lt_zero _)
    · have h1 := List.all_eq_true.mp gb_0 p (List.mem_range.mpr (by omega))
      have h2 := List.all_eq_true.mp h1 j (List.mem_range.mpr hj)
      rw [Bool.and_eq_true, an_le_iff, an_le_iff] at h2
      exact h2
  · have e : cI pm_s0 36 = 0 := by decide +kernel
    omega
  · have e : cI pm_s0 11 = 0 := by decide +kernel
    omega
  · have e : cI pm_s0 64 = 0 := by decide +kernel
    omega
  · have e : cI pm_s0 64 = 0 := by decide +kernel
    omega
