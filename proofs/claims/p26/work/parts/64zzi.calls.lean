/-! what stays by footprints; state, set, goal -/
section TWF
variable {D N S : Nat} {ls : List (List Int)} {σ τ : pm_S}
theorem TWc.fq {G : List (Nat × Nat)} (h : TWc D N S σ) (hG : (an_inF G 13 0 || an_inF G 7 0 || an_inF G 3 0 || an_inF G 93 11 || an_inF G 93 5 || an_inF G 93 2) = false) (F : FQ G σ τ) : TWc D N S τ := by
  simp only [Bool.or_eq_false_iff] at hG
  obtain ⟨⟨⟨⟨⟨g1, g2⟩, g3⟩, g4⟩, g5⟩, g6⟩ := hG
  obtain ⟨a1, a2, a3, a4, a5, a6⟩ := h
  exact ⟨(congrArg Int32.toInt (F 13 0 g1)).trans a1, (congrArg Int32.toInt (F 7 0 g2)).trans a2, (congrArg Int32.toInt (F 3 0 g3)).trans a3, (congrArg Int32.toInt (F 93 11 g4)).trans a4, (congrArg Int32.toInt (F 93 5 g5)).trans a5, (congrArg Int32.toInt (F 93 2 g6)).trans a6⟩
theorem RXs.fq {G : List (Nat × Nat)} (h : RXs S σ.1 σ.1) (hG : (an_inP G 4 || an_inP G 94 || an_inP G 5 || an_inP G 95) = false) (F : FQ G σ τ) : RXs S τ.1 τ.1 := by
  simp only [Bool.or_eq_false_iff] at hG
  obtain ⟨⟨⟨g1, g2⟩, g3⟩, g4⟩ := hG
  unfold RXs at h ⊢
  rw [row_fq F g1, row_fq F g2, row_fq F g3, row_fq F g4]
  exact h
theorem RXp.fq {G : List (Nat × Nat)} (h : RXp N σ.1 σ.1) (hG : (an_inP G 8 || an_inP G 9 || an_inP G 10 || an_inP G 11 || an_inP G 12 || an_inP G 96 || an_inP G 97 || an_inP G 98 || an_inP G 99 || an_inP G 100) = false) (F : FQ G σ τ) : RXp N τ.1 τ.1 := by
  simp only [Bool.or_eq_false_iff] at hG
  obtain ⟨⟨⟨⟨⟨⟨⟨⟨⟨g1, g2⟩, g3⟩, g4⟩, g5⟩, g6⟩, g7⟩, g8⟩, g9⟩, g10⟩ := hG
  unfold RXp at h ⊢
  rw [row_fq F g1, row_fq F g2, row_fq F g3, row_fq F g4, row_fq F g5, row_fq F g6, row_fq F g7, row_fq F g8, row_fq F g9, row_fq F g10]
  exact h
theorem RXd.fq {G : List (Nat × Nat)} (h : RXd D σ.1 σ.1) (hG : (an_inP G 14 || an_inP G 15 || an_inP G 16 || an_inP G 17 || an_inP G 18 || an_inP G 19 || an_inP G 20 || an_inP G 101 || an_inP G 102 || an_inP G 103 || an_inP G 104 || an_inP G 105 || an_inP G 106 || an_inP G 107) = false) (F : FQ G σ τ) : RXd D τ.1 τ.1 := by
  simp only [Bool.or_eq_false_iff] at hG
  obtain ⟨⟨⟨⟨⟨⟨⟨⟨⟨⟨⟨⟨⟨g1, g2⟩, g3⟩, g4⟩, g5⟩, g6⟩, g7⟩, g8⟩, g9⟩, g10⟩, g11⟩, g12⟩, g13⟩, g14⟩ := hG
  unfold RXd at h ⊢
  rw [row_fq F g1, row_fq F g2, row_fq F g3, row_fq F g4, row_fq F g5, row_fq F g6, row_fq F g7, row_fq F g8, row_fq F g9, row_fq F g10, row_fq F g11, row_fq F g12, row_fq F g13, row_fq F g14]
  exact h
theorem RXl.fq {G : List (Nat × Nat)} (h : RXl D N S σ.1) (hG : (an_inP G 8 || an_inP G 11 || an_inP G 14 || an_inP G 15 || an_inP G 17) = false) (F : FQ G σ τ) : RXl D N S τ.1 := by
  simp only [Bool.or_eq_false_iff] at hG
  obtain ⟨⟨⟨⟨g1, g2⟩, g3⟩, g4⟩, g5⟩ := hG
  unfold RXl at h ⊢
  rw [row_fq F g1, row_fq F g2, row_fq F g3, row_fq F g4, row_fq F g5]
  exact h
theorem TWw.fq {G : List (Nat × Nat)} (h : TWw σ) (hG : (an_inP G 5 || an_inP G 95) = false) (F : FQ G σ τ) : TWw τ := by
  simp only [Bool.or_eq_false_iff] at hG
  obtain ⟨g1, g2⟩ := hG
  unfold TWw at h ⊢
  rw [row_fq F g1, row_fq F g2]
  exact h
theorem TWz.fq {G : List (Nat × Nat)} (h : TWz N σ) (hG : (an_inP G 100) = false) (F : FQ G σ τ) : TWz N τ := by
  have g1 := hG
  unfold TWz at h ⊢
  rw [row_fq F g1]
  exact h
theorem TWl.fq {G : List (Nat × Nat)} (h : TWl ls σ) (hG : (an_inF G 31 0 || an_inF G 31 1 || an_inF G 93 36 || an_inP G 32 || an_inP G 116 || an_inP G 117 || an_inP G 118 || an_inP G 119 || an_inP G 120) = false) (F : FQ G σ τ) : TWl ls τ := by
  simp only [Bool.or_eq_false_iff] at hG
  obtain ⟨⟨⟨⟨⟨⟨⟨⟨g1, g2⟩, g3⟩, g4⟩, g5⟩, g6⟩, g7⟩, g8⟩, g9⟩ := hG
  refine h.cg (fun P n hp j hj => ?_) (F 93 36 g3) (fun P n hp j hj => ?_)
  · simp only [List.mem_cons, List.not_mem_nil, or_false, Prod.mk.injEq] at hp
    rcases hp with ⟨rfl, rfl⟩ | ⟨rfl, rfl⟩
    · match j, hj with
      | 0, _ => exact F 31 0 g1
      | 1, _ => exact F 31 1 g2
      | j + 2, hj => exact absurd hj (by omega)
    · rw [row_fq F g4]
  · simp only [List.mem_cons, List.not_mem_nil, or_false, Prod.mk.injEq] at hp
    rcases hp with ⟨rfl, rfl⟩ | ⟨rfl, rfl⟩ | ⟨rfl, rfl⟩ | ⟨rfl, rfl⟩ | ⟨rfl, rfl⟩
    · rw [row_fq F g5]
    · rw [row_fq F g6]
    · rw [row_fq F g7]
    · rw [row_fq F g8]
    · rw [row_fq F g9]
theorem RXh.fq {G : List (Nat × Nat)} (h : RXh σ.1 σ.1) (hG : (an_inF G 1 0 || an_inF G 93 1 || an_inF G 1 1 || an_inF G 93 19 || an_inF G 1 2 || an_inF G 93 20 || an_inF G 1 3 || an_inF G 93 21 || an_inP G 2 || an_inP G 108) = false) (F : FQ G σ τ) : RXh τ.1 τ.1 := by
  simp only [Bool.or_eq_false_iff] at hG
  obtain ⟨⟨⟨⟨⟨⟨⟨⟨⟨g1, g2⟩, g3⟩, g4⟩, g5⟩, g6⟩, g7⟩, g8⟩, g9⟩, g10⟩ := hG
  obtain ⟨h1, h2, h3, h4, h5⟩ := h
  refine ⟨?_, ?_, ?_, ?_, ?_⟩
  · rw [F 1 0 g1, F 93 1 g2]
    exact h1
  · rw [F 1 1 g3, F 93 19 g4]
    exact h2
  · rw [F 1 2 g5, F 93 20 g6]
    exact h3
  · rw [F 1 3 g7, F 93 21 g8]
    exact h4
  · rw [row_fq F g9, row_fq F g10]
    exact h5
theorem TWs.fq {G : List (Nat × Nat)} (h : 0 ≤ sI σ 1 1 ∧ sI σ 1 1 ≤ 9999) (hG : (an_inF G 1 1) = false) (F : FQ G σ τ) : 0 ≤ sI τ 1 1 ∧ sI τ 1 1 ≤ 9999 := by
  have g1 := hG
  rw [show sI τ 1 1 = sI σ 1 1 from congrArg Int32.toInt (F 1 1 g1)]
  exact h
end TWF
/-- all of it stays -/
theorem TW.fq {D N S : Nat} {ls : List (List Int)} {σ τ : pm_S} {G : List (Nat × Nat)} (w : TW D N S ls σ) (hG : (an_inF G 13 0 || an_inF G 7 0 || an_inF G 3 0 || an_inF G 93 11 || an_inF G 93 5 || an_inF G 93 2) = false) (h1 : (an_inF G 1 0 || an_inF G 93 1 || an_inF G 1 1 || an_inF G 93 19 || an_inF G 1 2 || an_inF G 93 20 || an_inF G 1 3 || an_inF G 93 21 || an_inP G 2 || an_inP G 108) = false) (h2 : (an_inP G 4 || an_inP G 94 || an_inP G 5 || an_inP G 95) = false) (h3 : (an_inP G 8 || an_inP G 9 || an_inP G 10 || an_inP G 11 || an_inP G 12 || an_inP G 96 || an_inP G 97 || an_inP G 98 || an_inP G 99 || an_inP G 100) = false) (h4 : (an_inP G 14 || an_inP G 15 || an_inP G 16 || an_inP G 17 || an_inP G 18 || an_inP G 19 || an_inP G 20 || an_inP G 101 || an_inP G 102 || an_inP G 103 || an_inP G 104 || an_inP G 105 || an_inP G 106 || an_inP G 107) = false) (h5 : (an_inP G 8 || an_inP G 11 || an_inP G 14 || an_inP G 15 || an_inP G 17) = false) (h6 : an_inF G 1 1 = false) (h7 : (an_inP G 5 || an_inP G 95) = false) (h8 : an_inP G 100 = false) (h9 : (an_inF G 31 0 || an_inF G 31 1 || an_inF G 93 36 || an_inP G 32 || an_inP G 116 || an_inP G 117 || an_inP G 118 || an_inP G 119 || an_inP G 120) = false) (F : FQ G σ τ) : TW D N S ls τ := by
  obtain ⟨c, ⟨hb, hh, hS, hp, hd, hl⟩, s, wy, z, l⟩ := w
  exact ⟨c.fq hG F, ⟨hb, hh.fq h1 F, hS.fq h2 F, hp.fq h3 F, hd.fq h4 F, hl.fq h5 F⟩, TWs.fq s h6 F, wy.fq h7 F, z.fq h8 F, l.fq h9 F⟩
set_option maxRecDepth 20000 in
theorem tt_state (a1 : Int32) : Two 1 true IT IT 128 161 [.int a1] := by
  rw [← oI a1]
  have o1 := ai_rng a1
  refine two_TE (GC := [(1, 0)]) (GM := [(93, 0), (93, 1)]) (by decide +kernel) (by decide +kernel) rfl rfl (fun σ v τ => v = sI σ 1 0 ∧ sI τ 1 0 = a1.toInt) (fun σ hI => ?_) (fun σ τ v hI x F1 hB1 _ => ?_)
  · refine Sp.up (D := 21) ?_ (by decide)
    refine Sp.at rfl rfl ?_
    refine zx_cst a1.toInt (sI σ 1 0) _ rfl hI.1 ⟨o1, ai_rng _, trivial⟩ ⟨rfl, trivial⟩ ?_
    intro τ y hB F _ _ _ c
    exact ⟨_, rfl, hB, F, rfl, c.1⟩
  · obtain ⟨D, N, S, ls, cn, ⟨hb, ⟨h1, h2, h3, h4, h5⟩, hS, hp, hd, hl⟩, s, wy, z, l⟩ := RT.o hI.2.2.1.2.1
    obtain ⟨x1, x2⟩ := x
    refine Sp.up (D := 21) ?_ (by decide)
    refine Sp.at rfl rfl ?_
    refine zx_mst a1.toInt (cI σ 1) _ rfl hB1 ⟨o1, ai_rng _, trivial⟩ ⟨F1.c 1 rfl, trivial⟩ ?_
    intro τ2 y hB2 F2 _ _ _ c
    have e1 : sI σ 1 0 = cI σ 1 := congrArg Int32.toInt h1
    have F : FQ [(1, 0), (93, 0), (93, 1)] σ τ2 := FQ.tr (FQ.up (G := [(1, 0)]) rfl F1) (FQ.up (G := [(93, 0), (93, 1)]) rfl F2)
    refine ⟨by rw [x1, e1], hB2, F2, D, N, S, ls, cn.fq rfl F, ⟨hb, ⟨Int32.toInt_inj.mp ?_, ?_, ?_, ?_, ?_⟩, hS.fq rfl F, hp.fq rfl F, hd.fq rfl F, hl.fq rfl F⟩, TWs.fq s rfl F, wy.fq rfl F, z.fq rfl F, l.fq rfl F⟩
    · rw [F2 1 0 rfl]
      exact x2.trans c.1.symm
    · rw [F 1 1 rfl, F 93 19 rfl]
      exact h2
    · rw [F 1 2 rfl, F 93 20 rfl]
      exact h3
    · rw [F 1 3 rfl, F 93 21 rfl]
      exact h4
    · rw [row_fq F (P := 2) rfl, row_fq F (P := 108) rfl]
      exact h5
set_option maxRecDepth 20000 in
theorem tt_set (a1 a2 : Int32) : Two 1 true IT IT 133 172 [.int a1, .int a2] := by
  rw [← oI a1, ← oI a2]
  have o1 := ai_rng a1
  have o2 := ai_rng a2
  refine two_TE (GC := [(2, 9999)]) (GM := [(93, 0), (108, 9999)]) (by decide +kernel) (by decide +kernel) rfl rfl (fun σ v τ => (¬ PSet a1.toInt a2.toInt ∧ v = 0 ∧ ∀ j, j < 4 → τ.1 2 j = σ.1 2 j) ∨ (PSet a1.toInt a2.toInt ∧ v = 1 ∧ ∀ j, j < 4 → τ.1 2 j = if (j : Int) = a1.toInt then Int32.ofInt a2.toInt else σ.1 2 j)) (fun σ hI => ?_) (fun σ τ v hI x F1 hB1 _ => ?_)
  · refine (zxc_set a1.toInt a2.toInt o1 o2 hI.1).use (by decide) (fun r τ q => ?_)
    obtain ⟨hB, F, ⟨q1, rfl, q2⟩ | ⟨q1, rfl, q2⟩⟩ := q
    · exact ⟨0, rfl, hB, F, Or.inl ⟨q1, rfl, q2⟩⟩
    · exact ⟨1, rfl, hB, F, Or.inr ⟨q1, rfl, q2⟩⟩
  · obtain ⟨D, N, S, ls, cn, ⟨hb, ⟨h1, h2, h3, h4, h5⟩, hS, hp, hd, hl⟩, s, wy, z, l⟩ := RT.o hI.2.2.1.2.1
    refine (zxm_set a1.toInt a2.toInt o1 o2 hB1).use (by decide) (fun r τ2 q => ?_)
    obtain ⟨hB2, F2, q⟩ := q
    have F : FQ [(2, 9999), (93, 0), (108, 9999)] σ τ2 := FQ.tr (FQ.up (G := [(2, 9999)]) rfl F1) (FQ.up (G := [(93, 0), (108, 9999)]) rfl F2)
    have fin : (∀ j, j < 4 → τ.1 2 j = τ2.1 108 j) → ∃ (D N S : Nat) (ls : List (List Int)), TW D N S ls τ2 := fun e => by
      refine ⟨D, N, S, ls, cn.fq rfl F, ⟨hb, ⟨?_, ?_, ?_, ?_, fun j hj => ?_⟩, hS.fq rfl F, hp.fq rfl F, hd.fq rfl F, hl.fq rfl F⟩, TWs.fq s rfl F, wy.fq rfl F, z.fq rfl F, l.fq rfl F⟩
      · rw [F 1 0 rfl, F 93 1 rfl]
        exact h1
      · rw [F 1 1 rfl, F 93 19 rfl]
        exact h2
      · rw [F 1 2 rfl, F 93 20 rfl]
        exact h3
      · rw [F 1 3 rfl, F 93 21 rfl]
        exact h4
      · rw [row_fq F2 (P := 2) rfl]
        exact e j hj
    have e8 : τ.1 108 = σ.1 108 := row_fq F1 (P := 108) rfl
    rcases q with ⟨q1, rfl, q2⟩ | ⟨q1, rfl, q2⟩
    · rcases x with ⟨x1, rfl, x2⟩ | ⟨x1, rfl, x2⟩
      · exact ⟨rfl, hB2, F2, fin (fun j hj => by rw [x2 j hj, q2 j hj, e8]; exact h5 j hj)⟩
      · exact absurd x1 q1
    · rcases x with ⟨x1, rfl, x2⟩ | ⟨x1, rfl, x2⟩
      · exact absurd q1 x1
      · exact ⟨rfl, hB2, F2, fin (fun j hj => by rw [x2 j hj, q2 j hj, e8, h5 j hj])⟩
set_option maxRecDepth 20000 in
theorem tt_goal (a1 a2 : Int32) : Two 1 true IT IT 134 173 [.int a1, .int a2] := by
  rw [← oI a1, ← oI a2]
  have o1 := ai_rng a1
  have o2 := ai_rng a2
  refine two_TE (GC := [(11, 9999)]) (GM := [(93, 0), (99, 9999)]) (by decide +kernel) (by decide +kernel) rfl rfl (fun σ v τ => (¬ (0 ≤ a1.toInt ∧ a1.toInt < cI σ 5 ∧ 0 ≤ a2.toInt ∧ a2.toInt < cI σ 2) ∧ v = 0 ∧ ∀ j, τ.1 11 j = σ.1 11 j) ∨ ((0 ≤ a1.toInt ∧ a1.toInt < cI σ 5 ∧ 0 ≤ a2.toInt ∧ a2.toInt < cI σ 2) ∧ v = 1 ∧ ∀ j, τ.1 11 j = if j = a1.toInt.toNat then Int32.ofInt a2.toInt else σ.1 11 j)) (fun σ hI => ?_) (fun σ τ v hI x F1 hB1 _ => ?_)
  · obtain ⟨D, N, S, ls, w⟩ := RT.o hI.2.2.1.2.1
    obtain ⟨c1, c2, c3, c4, c5, c6⟩ := w.1
    refine (zxc_goal a1.toInt a2.toInt (cI σ 2) (cI σ 5) hI.1 o1 o2 (hI.1 93 2 (by decide)) (hI.1 93 5 (by decide)) (c3.trans c6.symm) (c2.trans c5.symm)).use (by decide) (fun r τ q => ?_)
    obtain ⟨hB, ⟨q1, rfl, q2⟩ | ⟨q1, rfl, q2⟩⟩ := q
    · exact ⟨0, rfl, hB, FQ.up rfl q2.nil, Or.inl ⟨q1, rfl, fun j => q2 11 j rfl⟩⟩
    · exact ⟨1, rfl, hB, puF.ft rfl rfl q2, Or.inr ⟨q1, rfl, fun j => q2 11 j rfl⟩⟩
  · obtain ⟨D, N, S, ls, cn, ⟨hb, hh, hS, hp, hd, hl⟩, s, wy, z, l⟩ := RT.o hI.2.2.1.2.1
    obtain ⟨c1, c2, c3, c4, c5, c6⟩ := cn
    refine (zxm_goal a1.toInt a2.toInt (cI σ 2) (cI σ 5) hB1 o1 o2 (hI.1 93 2 (by decide)) (hI.1 93 5 (by decide)) (F1.c 2 rfl) (F1.c 5 rfl)).use (by decide) (fun r τ2 q => ?_)
    obtain ⟨hB2, q⟩ := q
    have F2 : FQ [(93, 0), (99, 9999)] τ τ2 := by
      rcases q with ⟨-, -, q⟩ | ⟨-, -, q⟩
      · exact FQ.up rfl q.nil
      · exact puF.ft rfl rfl q
    have F : FQ [(11, 9999), (93, 0), (99, 9999)] σ τ2 := FQ.tr (FQ.up (G := [(11, 9999)]) rfl F1) (FQ.up (G := [(93, 0), (99, 9999)]) rfl F2)
    have fin : (∀ p, p < N → τ.1 11 p = τ2.1 99 p ∧ 0 ≤ (τ.1 11 p).toInt ∧ (τ.1 11 p).toInt < (S : Int)) → ∃ (D N S : Nat) (ls : List (List Int)), TW D N S ls τ2 := fun e => by
      refine ⟨D, N, S, ls, TWc.fq ⟨c1, c2, c3, c4, c5, c6⟩ rfl F, ⟨hb, hh.fq rfl F, hS.fq rfl F, fun p hp' => ?_, hd.fq rfl F, fun p hp' => ?_, fun d hd' => ?_⟩, TWs.fq s rfl F, wy.fq rfl F, z.fq rfl F, l.fq rfl F⟩
      · obtain ⟨a, b, c, d, f⟩ := hp p hp'
        rw [row_fq F (P := 8) rfl, row_fq F (P := 9) rfl, row_fq F (P := 10) rfl, row_fq F2 (P := 11) rfl, row_fq F (P := 12) rfl, row_fq F (P := 96) rfl, row_fq F (P := 97) rfl, row_fq F (P := 98) rfl, row_fq F (P := 100) rfl]
        exact ⟨a, b, c, (e p hp').1, f⟩
      · rw [row_fq F (P := 8) rfl, row_fq F2 (P := 11) rfl]
        exact ⟨(hl.1 p hp').1, (hl.1 p hp').2.1, (e p hp').2⟩
      · rw [row_fq F (P := 14) rfl, row_fq F (P := 15) rfl, row_fq F (P := 17) rfl]
        exact hl.2 d hd'
    have e9 : τ.1 99 = σ.1 99 := row_fq F1 (P := 99) rfl
    rcases q with ⟨q1, rfl, q2⟩ | ⟨q1, rfl, q2⟩
    · rcases x with ⟨x1, rfl, x2⟩ | ⟨x1, rfl, x2⟩
      · refine ⟨rfl, hB2, F2, fin (fun p hp' => ?_)⟩
        rw [x2 p, show τ2.1 99 p = τ.1 99 p from q2 99 p rfl, e9]
        exact ⟨(hp p hp').2.2.2.1, (hl.1 p hp').2.2⟩
      · exact absurd x1 q1
    · rcases x with ⟨x1, rfl, x2⟩ | ⟨x1, rfl, x2⟩
      · exact absurd q1 x1
      · refine ⟨rfl, hB2, F2, fin (fun p hp' => ?_)⟩
        have c99 : ∀ i, τ2.1 99 i = if i = a1.toInt.toNat then Int32.ofInt a2.toInt else τ.1 99 i := fun i => q2 99 i rfl
        rw [x2 p, c99 p, e9]
        by_cases e : p = a1.toInt.toNat
        · rw [if_pos e, if_pos e, ti_of o2.1 o2.2]
          exact ⟨rfl, x1.2.2.1, by omega⟩
        · rw [if_neg e, if_neg e]
          exact ⟨(hp p hp').2.2.2.1, (hl.1 p hp').2.2⟩
