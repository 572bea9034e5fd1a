/-! feed, exactly: c -/
/-- what feed comes to -/
abbrev fdc (x : Nat) (a b c d e : Int32) (σ : pm_S) : Option Value → pm_S → Prop := fun r τ => an_GB pm_B τ ∧ FQ [(67, 2), (68, 9999)] σ τ ∧ ((x ≤ 380 ∧ r = some (.int (Int32.ofInt ((x + 20 : Nat) : Int))) ∧ sI τ 67 2 = ((x + 20 : Nat) : Int) ∧ τ.1 68 = tw20 (σ.1 68) x a b c d e) ∨ (381 ≤ x ∧ r = some (.int (Int32.ofInt (-1))) ∧ sI τ 67 2 = (x : Int) ∧ τ.1 68 = σ.1 68))
set_option maxRecDepth 20000 in
theorem x_anc {σ : pm_S} (a0 a1 a2 a3 a4 : Int) (h0 : (-2147483648) ≤ a0 ∧ a0 ≤ 2147483647) (h1 : (-2147483648) ≤ a1 ∧ a1 ≤ 2147483647) (h2 : (-2147483648) ≤ a2 ∧ a2 ≤ 2147483647) (h3 : (-2147483648) ≤ a3 ∧ a3 ≤ 2147483647) (h4 : (-2147483648) ≤ a4 ∧ a4 ≤ 2147483647) (x : Nat) (hx : x ≤ 400) (hB : an_GB pm_B σ) (e : sI σ 67 2 = (x : Int)) : Sp 24 6 [.ref 67, .int (Int32.ofInt a0), .int (Int32.ofInt a1), .int (Int32.ofInt a2), .int (Int32.ofInt a3), .int (Int32.ofInt a4)] σ (fdc x (Int32.ofInt a0) (Int32.ofInt a1) (Int32.ofInt a2) (Int32.ofInt a3) (Int32.ofInt a4) σ) := by
  refine Sp.at rfl rfl ?_
  refine pv_n0 a0 a1 a2 a3 a4 x hB ⟨h0, h1, h2, h3, h4, by omega, trivial⟩ ⟨e, trivial⟩ ?_ ?_
  · intro τ0 y0 hB0 F0 f0 _ _ c0
    have f5 := f0.2.2.2.2.2.1
    have s0 : sI τ0 67 2 = (x : Int) := c0.1
    have G0 : FQ [(67, 2), (68, 9999)] σ τ0 := FQ.up (G := []) rfl F0
    have R0 : τ0.1 68 = σ.1 68 := funext (fun j => F0 68 j rfl)
    refine Ok.cv rfl rfl rfl rfl rfl rfl rfl ?_
    refine (x_adc a0 h0 x (by omega) hB0 s0).use (by decide) (fun r τ1 q => ?_)
    obtain ⟨rfl, hB1, F1, s1, R1⟩ := q
    rw [R0] at R1
    have G1 : FQ [(67, 2), (68, 9999)] σ τ1 := FQ.tr G0 (FQ.up (G := [(67, 2), (68, 9999)]) rfl F1)
    refine pv_n1 a0 a1 a2 a3 a4 hB1 ⟨h0, h1, h2, h3, h4, trivial⟩ ?_
    intro τ2 y2 hB2 F2 _ _ _ _
    have s2 : sI τ2 67 2 = ((x + 4 : Nat) : Int) := (congrArg Int32.toInt (F2 67 2 rfl)).trans s1
    have G2 : FQ [(67, 2), (68, 9999)] σ τ2 := FQ.tr G1 (FQ.up (G := []) rfl F2)
    have R2 := (show τ2.1 68 = τ1.1 68 from funext (fun j => F2 68 j rfl)).trans R1
    refine Ok.cv rfl rfl rfl rfl rfl rfl rfl ?_
    refine (x_adc a1 h1 (x + 4) (by omega) hB2 s2).use (by decide) (fun r τ3 q => ?_)
    obtain ⟨rfl, hB3, F3, s3, R3⟩ := q
    rw [R2] at R3
    have G3 : FQ [(67, 2), (68, 9999)] σ τ3 := FQ.tr G2 (FQ.up (G := [(67, 2), (68, 9999)]) rfl F3)
    refine pv_n2 a0 a1 a2 a3 a4 hB3 ⟨h0, h1, h2, h3, h4, trivial⟩ ?_
    intro τ4 y4 hB4 F4 _ _ _ _
    have s4 : sI τ4 67 2 = ((x + 8 : Nat) : Int) := (congrArg Int32.toInt (F4 67 2 rfl)).trans s3
    have G4 : FQ [(67, 2), (68, 9999)] σ τ4 := FQ.tr G3 (FQ.up (G := []) rfl F4)
    have R4 := (show τ4.1 68 = τ3.1 68 from funext (fun j => F4 68 j rfl)).trans R3
    refine Ok.cv rfl rfl rfl rfl rfl rfl rfl ?_
    refine (x_adc a2 h2 (x + 8) (by omega) hB4 s4).use (by decide) (fun r τ5 q => ?_)
    obtain ⟨rfl, hB5, F5, s5, R5⟩ := q
    rw [R4] at R5
    have G5 : FQ [(67, 2), (68, 9999)] σ τ5 := FQ.tr G4 (FQ.up (G := [(67, 2), (68, 9999)]) rfl F5)
    refine pv_n3 a0 a1 a2 a3 a4 hB5 ⟨h0, h1, h2, h3, h4, trivial⟩ ?_
    intro τ6 y6 hB6 F6 _ _ _ _
    have s6 : sI τ6 67 2 = ((x + 12 : Nat) : Int) := (congrArg Int32.toInt (F6 67 2 rfl)).trans s5
    have G6 : FQ [(67, 2), (68, 9999)] σ τ6 := FQ.tr G5 (FQ.up (G := []) rfl F6)
    have R6 := (show τ6.1 68 = τ5.1 68 from funext (fun j => F6 68 j rfl)).trans R5
    refine Ok.cv rfl rfl rfl rfl rfl rfl rfl ?_
    refine (x_adc a3 h3 (x + 12) (by omega) hB6 s6).use (by decide) (fun r τ7 q => ?_)
    obtain ⟨rfl, hB7, F7, s7, R7⟩ := q
    rw [R6] at R7
    have G7 : FQ [(67, 2), (68, 9999)] σ τ7 := FQ.tr G6 (FQ.up (G := [(67, 2), (68, 9999)]) rfl F7)
    refine pv_n4 a0 a1 a2 a3 a4 hB7 ⟨h0, h1, h2, h3, h4, trivial⟩ ?_
    intro τ8 y8 hB8 F8 _ _ _ _
    have s8 : sI τ8 67 2 = ((x + 16 : Nat) : Int) := (congrArg Int32.toInt (F8 67 2 rfl)).trans s7
    have G8 : FQ [(67, 2), (68, 9999)] σ τ8 := FQ.tr G7 (FQ.up (G := []) rfl F8)
    have R8 := (show τ8.1 68 = τ7.1 68 from funext (fun j => F8 68 j rfl)).trans R7
    refine Ok.cv rfl rfl rfl rfl rfl rfl rfl ?_
    refine (x_adc a4 h4 (x + 16) (by omega) hB8 s8).use (by decide) (fun r τ9 q => ?_)
    obtain ⟨rfl, hB9, F9, s9, R9⟩ := q
    rw [R8] at R9
    have G9 : FQ [(67, 2), (68, 9999)] σ τ9 := FQ.tr G8 (FQ.up (G := [(67, 2), (68, 9999)]) rfl F9)
    refine pv_n5 a0 a1 a2 a3 a4 ((x + 20 : Nat) : Int) hB9 ⟨h0, h1, h2, h3, h4, by omega, trivial⟩ ⟨s9, trivial⟩ ?_
    intro τ10 y10 hB10 F10 _ _ _ c10
    exact ⟨hB10, FQ.tr G9 (FQ.up (G := []) rfl F10), Or.inl ⟨by omega, rfl, c10.1, (show τ10.1 68 = τ9.1 68 from funext (fun j => F10 68 j rfl)).trans R9⟩⟩
  · intro τ0 y0 hB0 F0 f0 _ _ c0
    have f5 := f0.2.2.2.2.2.1
    exact ⟨hB0, FQ.up (G := []) rfl F0, Or.inr ⟨by omega, rfl, c0.1, funext (fun j => F0 68 j rfl)⟩⟩
