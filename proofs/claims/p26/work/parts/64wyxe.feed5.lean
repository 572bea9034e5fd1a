/-! feed, exactly: e -/
theorem x_fdc {σ : pm_S} (a0 a1 a2 a3 a4 : Int) (h0 : (-2147483648) ≤ a0 ∧ a0 ≤ 2147483647) (h1 : (-2147483648) ≤ a1 ∧ a1 ≤ 2147483647) (h2 : (-2147483648) ≤ a2 ∧ a2 ≤ 2147483647) (h3 : (-2147483648) ≤ a3 ∧ a3 ≤ 2147483647) (h4 : (-2147483648) ≤ a4 ∧ a4 ≤ 2147483647) (x : Nat) (hx : x ≤ 400) (hB : an_GB pm_B σ) (e : sI σ 67 2 = (x : Int)) : Sp 135 8 [.ref 0, .int (Int32.ofInt a0), .int (Int32.ofInt a1), .int (Int32.ofInt a2), .int (Int32.ofInt a3), .int (Int32.ofInt a4)] σ (fdc x (Int32.ofInt a0) (Int32.ofInt a1) (Int32.ofInt a2) (Int32.ofInt a3) (Int32.ofInt a4) σ) := by
  refine Sp.at rfl rfl ?_
  refine pv_f0 a0 a1 a2 a3 a4 hB ⟨h0, h1, h2, h3, h4, trivial⟩ ?_
  intro τ1 y1 hB1 F1 _ _ _ _
  refine Ok.cv rfl rfl rfl rfl rfl rfl rfl ?_
  refine (x_anc a0 a1 a2 a3 a4 h0 h1 h2 h3 h4 x hx hB1 ((congrArg Int32.toInt (F1 67 2 rfl)).trans e)).use (by decide) (fun r τ2 q => ?_)
  obtain ⟨hB2, F2, q⟩ := q
  have R1 : τ1.1 68 = σ.1 68 := funext (fun j => F1 68 j rfl)
  rw [R1] at q
  have G2 : FQ [(67, 2), (68, 9999)] σ τ2 := FQ.tr (FQ.up (G := []) rfl F1) F2
  rcases q with ⟨q1, rfl, q3, q4⟩ | ⟨q1, rfl, q3, q4⟩
  · refine pv_f8 a0 a1 a2 a3 a4 ((x + 20 : Nat) : Int) hB2 ⟨h0, h1, h2, h3, h4, by omega, trivial⟩ ?_
    intro τ3 y3 hB3 F3 _ _ _ _
    exact ⟨hB3, FQ.tr G2 (FQ.up (G := []) rfl F3), Or.inl ⟨q1, rfl, (congrArg Int32.toInt (F3 67 2 rfl)).trans q3, (show τ3.1 68 = τ2.1 68 from funext (fun j => F3 68 j rfl)).trans q4⟩⟩
  · refine pv_f8 a0 a1 a2 a3 a4 (-1) hB2 ⟨h0, h1, h2, h3, h4, by decide, trivial⟩ ?_
    intro τ3 y3 hB3 F3 _ _ _ _
    exact ⟨hB3, FQ.tr G2 (FQ.up (G := []) rfl F3), Or.inr ⟨q1, rfl, (congrArg Int32.toInt (F3 67 2 rfl)).trans q3, (show τ3.1 68 = τ2.1 68 from funext (fun j => F3 68 j rfl)).trans q4⟩⟩
