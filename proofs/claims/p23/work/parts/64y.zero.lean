/-! the beginning -/
abbrev I7 : pm_S → Prop := fun σ => an_GB pm_B σ ∧ mP σ
def gbF (p : Nat) : Bool := match pm_nth pm_B p with
  | some (true, q :: _) => an_le q.1 (-2147483648) && an_le 2147483647 q.2
  | some (false, _) => false
  | _ => true
theorem gbF_ok {p j : Nat} (h : gbF p = true) {x : Int32} : (an_bd pm_B p j).1 ≤ x.toInt ∧ x.toInt ≤ (an_bd pm_B p j).2 := by
  have g := ai_rng x
  unfold gbF at h
  unfold an_bd
  split at h
  · rename_i q _ e
    rw [e]
    rw [Bool.and_eq_true, an_le_iff, an_le_iff] at h
    dsimp only
    omega
  · cases h
  · rename_i e1 e2
    split
    · rename_i e
      exact absurd e (e1 _ _)
    · rename_i e
      exact absurd e (e2 _)
    · exact g
set_option maxRecDepth 100000 in
theorem gb_all : ((List.range 134).all (fun p => gbF p || (List.range (an_len p)).all (fun j => an_le (an_bd pm_B p j).1 (pm_s0.1 p j).toInt && an_le (pm_s0.1 p j).toInt (an_bd pm_B p j).2)) && decide (pm_s0.1 93 5 = 0) && decide (pm_s0.1 93 36 = 0) && decide (pm_s0.1 93 11 = 0) && decide (pm_s0.1 93 64 = 0) && (Kq).all (fun q => decide (pm_s0.1 q.1 q.2.1 = pm_s0.1 q.2.2.1 q.2.2.2)) && true) = true := by decide +kernel
theorem gb_s : (List.range 134).all (fun p => gbF p || (List.range (an_len p)).all (fun j => an_le (an_bd pm_B p j).1 (pm_s0.1 p j).toInt && an_le (pm_s0.1 p j).toInt (an_bd pm_B p j).2)) = true ∧ pm_s0.1 93 5 = 0 ∧ pm_s0.1 93 36 = 0 ∧ pm_s0.1 93 11 = 0 ∧ pm_s0.1 93 64 = 0 ∧ (∀ q ∈ Kq, pm_s0.1 q.1 q.2.1 = pm_s0.1 q.2.2.1 q.2.2.2) := by
  have h := gb_all
  rw [Bool.and_eq_true, Bool.and_eq_true, Bool.and_eq_true, Bool.and_eq_true, Bool.and_eq_true, Bool.and_eq_true] at h
  exact ⟨h.1.1.1.1.1.1, of_decide_eq_true h.1.1.1.1.1.2, of_decide_eq_true h.1.1.1.1.2, of_decide_eq_true h.1.1.1.2, of_decide_eq_true h.1.1.2, fun q hq => of_decide_eq_true (List.all_eq_true.mp h.1.2 q hq)⟩
set_option maxRecDepth 100000 in
theorem len_134 {p : Nat} (h : 134 ≤ p) : an_len p = 0 := by
  unfold an_len
  have : pm_nth pm_lay p = none := by
    rw [pm_nth_eq]
    exact List.getElem?_eq_none (by show 134 ≤ p; exact h)
  rw [this]
theorem I7_0 : I7 pm_s0 := by
  have e5 : cI pm_s0 5 = 0 := by
      show (pm_s0.1 93 5).toInt = 0
      rw [gb_s.2.1]
      rfl
  refine ⟨fun p j hj => ?_, ⟨⟨fun i hi => ?_, fun d hd => ?_⟩, Or.inr e5⟩, fun z => ?_, fun z => ?_⟩
  · by_cases h : 134 ≤ p
    · rw [len_134 h] at hj
      exact absurd hj (Nat.not_lt_zero _)
    · have h1 := List.all_eq_true.mp gb_s.1 p (List.mem_range.mpr (by omega))
      rw [Bool.or_eq_true] at h1
      rcases h1 with h1 | h1
      · exact gbF_ok h1
      · have h2 := List.all_eq_true.mp h1 j (List.mem_range.mpr hj)
        rw [Bool.and_eq_true, an_le_iff, an_le_iff] at h2
        exact h2
  · have e : cI pm_s0 36 = 0 := by
      show (pm_s0.1 93 36).toInt = 0
      rw [gb_s.2.2.1]
      rfl
    omega
  · have e : cI pm_s0 11 = 0 := by
      show (pm_s0.1 93 11).toInt = 0
      rw [gb_s.2.2.2.1]
      rfl
    omega
  · have e : cI pm_s0 64 = 0 := by
      show (pm_s0.1 93 64).toInt = 0
      rw [gb_s.2.2.2.2.1]
      rfl
    omega
  · have e : cI pm_s0 64 = 0 := by
      show (pm_s0.1 93 64).toInt = 0
      rw [gb_s.2.2.2.2.1]
      rfl
    omega
