/-! line, where its count is in the relation (p26) -/
abbrev PLn (d a b s S P N : Int) : Prop := 0 ≤ d ∧ d ≤ 9999 ∧ 0 ≤ a ∧ a < P ∧ ((b = -1 ∧ 0 ≤ s ∧ s < S) ∨ (s = -1 ∧ 0 ≤ b ∧ b < P ∧ a ≠ b)) ∧ N ≤ 29
set_option maxRecDepth 20000 in
theorem tt_line (a1 a2 a3 a4 : Int32) : Two 1 true IT IT 149 239 [.int a1, .int a2, .int a3, .int a4] := by
  rw [← oI a1, ← oI a2, ← oI a3, ← oI a4]
  have o1 := ai_rng a1
  have o2 := ai_rng a2
  have o3 := ai_rng a3
  have o4 := ai_rng a4
  refine two_TEk (GC := [(21, 0), (22, 9999), (23, 9999), (24, 9999), (25, 9999)]) (GM := [(93, 0), (93, 23), (109, 9999), (110, 9999), (111, 9999), (112, 9999)]) (by decide +kernel) (by decide +kernel) rfl rfl (fun σ v τ => (¬ PLn a1.toInt a2.toInt a3.toInt a4.toInt (cI σ 2) (cI σ 5) (cI σ 23) ∧ v = -1 ∧ sI τ 21 0 = cI σ 23) ∨ (PLn a1.toInt a2.toInt a3.toInt a4.toInt (cI σ 2) (cI σ 5) (cI σ 23) ∧ v = cI σ 23 ∧ sI τ 21 0 = cI σ 23 + 1)) (fun σ hI => ?_) (fun σ τ v hI x F1 hB1 _ => ?_)
  · obtain ⟨D, N, S, ls, w⟩ := RT.o hI.2.2.1.2.1
    obtain ⟨c1, c2, c3, c4, c5, c6⟩ := w.1
    refine (xc_lineE a1.toInt a2.toInt a3.toInt a4.toInt (cI σ 2) (cI σ 5) (cI σ 23) hI.1 o1 o2 o3 o4 (hI.1 93 2 (by decide)) (hI.1 93 5 (by decide)) (hI.1 93 23 (by decide)) (c3.trans c6.symm) (c2.trans c5.symm) (congrArg Int32.toInt (RT.k hI.2.2.1.2.1))).use (by decide) (fun r τ q => ?_)
    obtain ⟨hB, ⟨q, rfl, d, F⟩ | ⟨q, rfl, d, F⟩⟩ := q
    · exact ⟨-1, rfl, hB, FQ.up rfl F.nil, Or.inl ⟨q, rfl, d⟩⟩
    · exact ⟨_, rfl, hB, puF.ft rfl rfl F, Or.inr ⟨q, rfl, d⟩⟩
  · obtain ⟨D, N, S, ls, w⟩ := RT.o hI.2.2.1.2.1
    refine (xm_lineE a1.toInt a2.toInt a3.toInt a4.toInt (cI σ 2) (cI σ 5) (cI σ 23) hB1 o1 o2 o3 o4 (hI.1 93 2 (by decide)) (hI.1 93 5 (by decide)) (hI.1 93 23 (by decide)) (F1.c 2 rfl) (F1.c 5 rfl) (F1.c 23 rfl)).use (by decide) (fun r τ2 p => ?_)
    obtain ⟨hB2, p⟩ := p
    have F2 : FQ [(93, 0), (93, 23), (109, 9999), (110, 9999), (111, 9999), (112, 9999)] τ τ2 := by
      rcases p with ⟨-, -, -, F⟩ | ⟨-, -, -, F⟩
      · exact FQ.up rfl F.nil
      · exact puF.ft rfl rfl F
    have F : FQ ([(21, 0), (22, 9999), (23, 9999), (24, 9999), (25, 9999)] ++ [(93, 0), (93, 23), (109, 9999), (110, 9999), (111, 9999), (112, 9999)]) σ τ2 := FQ.tr (FQ.up (G := [(21, 0), (22, 9999), (23, 9999), (24, 9999), (25, 9999)]) rfl F1) (FQ.up (G := [(93, 0), (93, 23), (109, 9999), (110, 9999), (111, 9999), (112, 9999)]) rfl F2)
    have w2 : TW D N S ls τ2 := w.fq rfl rfl rfl rfl rfl rfl rfl rfl rfl rfl F
    rcases p with ⟨p, rfl, d, _⟩ | ⟨p, rfl, d, _⟩
    · rcases x with ⟨x, rfl, x7⟩ | ⟨x, rfl, x7⟩
      · exact ⟨rfl, hB2, F2, D, N, S, ls, w2, Int32.toInt_inj.mp (((congrArg Int32.toInt (F2 21 0 rfl)).trans x7).trans d.symm)⟩
      · exact absurd x p
    · rcases x with ⟨x, rfl, x7⟩ | ⟨x, rfl, x7⟩
      · exact absurd p x
      · exact ⟨rfl, hB2, F2, D, N, S, ls, w2, Int32.toInt_inj.mp (((congrArg Int32.toInt (F2 21 0 rfl)).trans x7).trans d.symm)⟩
