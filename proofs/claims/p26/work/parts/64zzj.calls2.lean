/-! spot, way, person, debt -/
abbrev PSp (p S : Int) : Prop := 0 ≤ p ∧ p ≤ 99 ∧ S ≤ 9
set_option maxRecDepth 20000 in
theorem tt_spot (a1 : Int32) : Two 1 true IT IT 129 166 [.int a1] := by
  rw [← oI a1]
  have o1 := ai_rng a1
  refine two_TE (GC := [(3, 0), (4, 9999)]) (GM := [(93, 0), (93, 2), (94, 9999)]) (by decide +kernel) (by decide +kernel) rfl rfl (fun σ v τ => (¬ PSp a1.toInt (cI σ 2) ∧ v = -1 ∧ sI τ 3 0 = cI σ 2 ∧ ∀ j, τ.1 4 j = σ.1 4 j) ∨ (PSp a1.toInt (cI σ 2) ∧ v = cI σ 2 ∧ sI τ 3 0 = cI σ 2 + 1 ∧ ∀ j, τ.1 4 j = if j = (cI σ 2).toNat then Int32.ofInt a1.toInt else σ.1 4 j)) (fun σ hI => ?_) (fun σ τ v hI x F1 hB1 _ => ?_)
  · obtain ⟨D, N, S, ls, w⟩ := RT.o hI.2.2.1.2.1
    obtain ⟨c1, c2, c3, c4, c5, c6⟩ := w.1
    refine (zxc_spot a1.toInt (cI σ 2) hI.1 o1 (hI.1 93 2 (by decide)) (c3.trans c6.symm)).use (by decide) (fun r τ q => ?_)
    obtain ⟨hB, ⟨q1, rfl, q3, q2⟩ | ⟨q1, rfl, q3, q2⟩⟩ := q
    · exact ⟨-1, rfl, hB, FQ.up rfl q2.nil, Or.inl ⟨q1, rfl, q3, fun j => q2 4 j rfl⟩⟩
    · exact ⟨_, rfl, hB, puF.ft rfl rfl q2, Or.inr ⟨q1, rfl, q3, fun j => q2 4 j rfl⟩⟩
  · obtain ⟨D, N, S, ls, cn, ⟨hb, hh, hS, hp, hd, hl⟩, s, wy, z, l⟩ := RT.o hI.2.2.1.2.1
    obtain ⟨c1, c2, c3, c4, c5, c6⟩ := cn
    refine (zxm_spot a1.toInt (cI σ 2) hB1 o1 (hI.1 93 2 (by decide)) (F1.c 2 rfl)).use (by decide) (fun r τ2 q => ?_)
    obtain ⟨hB2, q⟩ := q
    have F2 : FQ [(93, 0), (93, 2), (94, 9999)] τ τ2 := by
      rcases q with ⟨-, -, -, q⟩ | ⟨-, -, -, q⟩
      · exact FQ.up rfl q.nil
      · exact puF.ft rfl rfl q
    have F : FQ [(3, 0), (4, 9999), (93, 0), (93, 2), (94, 9999)] σ τ2 := FQ.tr (FQ.up (G := [(3, 0), (4, 9999)]) rfl F1) (FQ.up (G := [(93, 0), (93, 2), (94, 9999)]) rfl F2)
    have fin : ∀ S' : Nat, S ≤ S' → S' ≤ 10 → sI τ 3 0 = (S' : Int) → cI τ2 2 = (S' : Int) → (∀ a, a < S' → τ.1 4 a = τ2.1 94 a) → ∃ (D N S : Nat) (ls : List (List Int)), TW D N S ls τ2 := fun S' hs1 hs2 e3 e2 e => by
      have wy2 : TWw τ2 := wy.fq rfl F
      refine ⟨D, N, S', ls, ⟨(congrArg Int32.toInt (F 13 0 rfl)).trans c1, (congrArg Int32.toInt (F 7 0 rfl)).trans c2, (congrArg Int32.toInt (F2 3 0 rfl)).trans e3, (F.c 11 rfl).trans c4, (F.c 5 rfl).trans c5, e2⟩, ⟨⟨hb.1, hb.2.1, hs2⟩, hh.fq rfl F, ⟨fun a ha => ?_, fun a b ha hb' hab => wy2 a b (by omega) (by omega) hab⟩, hp.fq rfl F, hd.fq rfl F, fun p hp' => ?_, fun d hd' => ?_⟩, TWs.fq s rfl F, wy2, z.fq rfl F, l.fq rfl F⟩
      · rw [row_fq F2 (P := 4) rfl]
        exact e a ha
      · have q := hl.1 p hp'
        rw [row_fq F (P := 8) rfl, row_fq F (P := 11) rfl]
        exact ⟨q.1, by omega, q.2.2.1, by omega⟩
      · have q := hl.2 d hd'
        rw [row_fq F (P := 14) rfl, row_fq F (P := 15) rfl, row_fq F (P := 17) rfl]
        exact ⟨q.1, q.2.1, q.2.2.1, q.2.2.2.1, by omega⟩
    have e9 : τ.1 94 = σ.1 94 := row_fq F1 (P := 94) rfl
    rcases q with ⟨q1, rfl, q3, q2⟩ | ⟨q1, rfl, q3, q2⟩
    · rcases x with ⟨x1, rfl, x3, x2⟩ | ⟨x1, rfl, x3, x2⟩
      · refine ⟨rfl, hB2, F2, fin S (Nat.le_refl _) hb.2.2 (x3.trans c6) ((show cI τ2 2 = cI σ 2 from q3).trans c6) (fun a ha => ?_)⟩
        rw [x2 a, show τ2.1 94 a = τ.1 94 a from q2 94 a rfl, e9]
        exact hS.1 a ha
      · exact absurd x1 q1
    · rcases x with ⟨x1, rfl, x3, x2⟩ | ⟨x1, rfl, x3, x2⟩
      · exact absurd q1 x1
      · have q3 : cI τ2 2 = cI σ 2 + 1 := q3
        have x4 := x1.2.2
        refine ⟨rfl, hB2, F2, fin (S + 1) (Nat.le_succ _) (by omega) (by omega) (by omega) (fun a ha => ?_)⟩
        have c94 : ∀ i, τ2.1 94 i = if i = (cI σ 2).toNat then Int32.ofInt a1.toInt else τ.1 94 i := fun i => q2 94 i rfl
        rw [x2 a, c94 a, e9]
        by_cases e : a = (cI σ 2).toNat
        · rw [if_pos e, if_pos e]
        · rw [if_neg e, if_neg e]
          exact hS.1 a (by omega)
set_option maxRecDepth 20000 in
theorem tt_way (a1 a2 a3 : Int32) : Two 1 true IT IT 130 167 [.int a1, .int a2, .int a3] := by
  rw [← oI a1, ← oI a2, ← oI a3]
  have o1 := ai_rng a1
  have o2 := ai_rng a2
  have o3 := ai_rng a3
  refine two_TE (GC := [(5, 9999)]) (GM := [(95, 9999), (93, 0)]) (by decide +kernel) (by decide +kernel) rfl rfl (fun σ v τ => (¬ PWy a1.toInt a2.toInt a3.toInt (cI σ 2) ∧ v = 0 ∧ ∀ j, τ.1 5 j = σ.1 5 j) ∨ (PWy a1.toInt a2.toInt a3.toInt (cI σ 2) ∧ v = 1 ∧ ∀ j, τ.1 5 j = if j = (a1.toInt * 10 + a2.toInt).toNat ∨ j = (a2.toInt * 10 + a1.toInt).toNat then Int32.ofInt a3.toInt else σ.1 5 j)) (fun σ hI => ?_) (fun σ τ v hI x F1 hB1 _ => ?_)
  · obtain ⟨D, N, S, ls, w⟩ := RT.o hI.2.2.1.2.1
    obtain ⟨c1, c2, c3, c4, c5, c6⟩ := w.1
    refine (xc_wayE a1.toInt a2.toInt a3.toInt (cI σ 2) hI.1 o1 o2 o3 (hI.1 93 2 (by decide)) (c3.trans c6.symm)).use (by decide) (fun r τ q => ?_)
    obtain ⟨hB, ⟨q1, rfl, q2⟩ | ⟨q1, rfl, q3, q2⟩⟩ := q
    · exact ⟨0, rfl, hB, FQ.up (G := []) rfl q2, Or.inl ⟨q1, rfl, fun j => q2 5 j rfl⟩⟩
    · exact ⟨1, rfl, hB, q3, Or.inr ⟨q1, rfl, q2⟩⟩
  · obtain ⟨D, N, S, ls, cn, ⟨hb, hh, hS, hp, hd, hl⟩, s, wy, z, l⟩ := RT.o hI.2.2.1.2.1
    obtain ⟨c1, c2, c3, c4, c5, c6⟩ := cn
    refine (xm_wayE a1.toInt a2.toInt a3.toInt (cI σ 2) hB1 o1 o2 o3 (hI.1 93 2 (by decide)) (F1.c 2 rfl)).use (by decide) (fun r τ2 q => ?_)
    obtain ⟨hB2, q⟩ := q
    have F2 : FQ [(95, 9999), (93, 0)] τ τ2 := by
      rcases q with ⟨-, -, q⟩ | ⟨-, -, q, -⟩
      · exact FQ.up (G := [(93, 0)]) rfl q
      · exact q
    have F : FQ [(5, 9999), (95, 9999), (93, 0)] σ τ2 := FQ.tr (FQ.up (G := [(5, 9999)]) rfl F1) (FQ.up (G := [(95, 9999), (93, 0)]) rfl F2)
    have fin : TWw τ2 → ∃ (D N S : Nat) (ls : List (List Int)), TW D N S ls τ2 := fun wy2 => by
      refine ⟨D, N, S, ls, TWc.fq ⟨c1, c2, c3, c4, c5, c6⟩ rfl F, ⟨hb, hh.fq rfl F, ⟨fun a ha => ?_, fun a b ha hb' hab => wy2 a b (by have := hb.2.2; omega) (by have := hb.2.2; omega) hab⟩, hp.fq rfl F, hd.fq rfl F, hl.fq rfl F⟩, TWs.fq s rfl F, wy2, z.fq rfl F, l.fq rfl F⟩
      rw [row_fq F (P := 4) rfl, row_fq F (P := 94) rfl]
      exact hS.1 a ha
    have e9 : τ.1 95 = σ.1 95 := row_fq F1 (P := 95) rfl
    have e5 : τ2.1 5 = τ.1 5 := row_fq F2 (P := 5) rfl
    rcases q with ⟨q1, rfl, q2⟩ | ⟨q1, rfl, -, q2⟩
    · rcases x with ⟨x1, rfl, x2⟩ | ⟨x1, rfl, x2⟩
      · refine ⟨rfl, hB2, F2, fin (fun a b ha hb' hab => ?_)⟩
        rw [e5, x2, show τ2.1 95 (a * 10 + b) = τ.1 95 (a * 10 + b) from q2 95 _ rfl, e9]
        exact wy a b ha hb' hab
      · exact absurd x1 q1
    · rcases x with ⟨x1, rfl, x2⟩ | ⟨x1, rfl, x2⟩
      · exact absurd q1 x1
      · refine ⟨rfl, hB2, F2, fin (fun a b ha hb' hab => ?_)⟩
        have x4 := x1.2.2.2
        rw [e5, x2, q2, e9]
        by_cases e : a * 10 + b = (a1.toInt * 10 + a2.toInt).toNat ∨ a * 10 + b = (a2.toInt * 10 + a1.toInt).toNat
        · rw [if_pos e, if_pos e, ti_of (by omega) (by omega), ti_of (by omega) (by omega)]
          omega
        · rw [if_neg e, if_neg e]
          exact wy a b ha hb' hab
abbrev PPe (h c a S P : Int) : Prop := 0 ≤ h ∧ h < S ∧ 0 ≤ c ∧ c ≤ 99999 ∧ 0 ≤ a ∧ a ≤ 99 ∧ P ≤ 9
set_option maxRecDepth 20000 in
theorem tt_person (a1 a2 a3 : Int32) : Two 1 true IT IT 131 168 [.int a1, .int a2, .int a3] := by
  rw [← oI a1, ← oI a2, ← oI a3]
  have o1 := ai_rng a1
  have o2 := ai_rng a2
  have o3 := ai_rng a3
  refine two_TE (GC := [(7, 0), (8, 9999), (9, 9999), (10, 9999), (11, 9999), (12, 9999)]) (GM := [(93, 0), (93, 5), (96, 9999), (97, 9999), (98, 9999), (99, 9999)]) (by decide +kernel) (by decide +kernel) rfl rfl (fun σ v τ => (¬ PPe a1.toInt a2.toInt a3.toInt (cI σ 2) (cI σ 5) ∧ v = -1 ∧ sI τ 7 0 = cI σ 5 ∧ FQ [(7, 0)] σ τ) ∨ (PPe a1.toInt a2.toInt a3.toInt (cI σ 2) (cI σ 5) ∧ v = cI σ 5 ∧ sI τ 7 0 = cI σ 5 + 1 ∧ ∀ j, τ.1 8 j = (if j = (cI σ 5).toNat then Int32.ofInt a1.toInt else σ.1 8 j) ∧ τ.1 9 j = (if j = (cI σ 5).toNat then Int32.ofInt a2.toInt else σ.1 9 j) ∧ τ.1 10 j = (if j = (cI σ 5).toNat then Int32.ofInt a3.toInt else σ.1 10 j) ∧ τ.1 11 j = (if j = (cI σ 5).toNat then Int32.ofInt a1.toInt else σ.1 11 j) ∧ τ.1 12 j = (if j = (cI σ 5).toNat then Int32.ofInt (-1) else σ.1 12 j))) (fun σ hI => ?_) (fun σ τ v hI x F1 hB1 _ => ?_)
  · obtain ⟨D, N, S, ls, w⟩ := RT.o hI.2.2.1.2.1
    obtain ⟨c1, c2, c3, c4, c5, c6⟩ := w.1
    refine (xc_personE a1.toInt a2.toInt a3.toInt (cI σ 2) (cI σ 5) hI.1 o1 o2 o3 (hI.1 93 2 (by decide)) (hI.1 93 5 (by decide)) (c3.trans c6.symm) (c2.trans c5.symm)).use (by decide) (fun r τ q => ?_)
    obtain ⟨hB, ⟨q1, rfl, q3, q2⟩ | ⟨q1, rfl, q3, q2⟩⟩ := q
    · exact ⟨-1, rfl, hB, FQ.up rfl q2.nil, Or.inl ⟨q1, rfl, q3, q2.nil⟩⟩
    · exact ⟨_, rfl, hB, puF.ft rfl rfl q2, Or.inr ⟨q1, rfl, q3, fun j => ⟨q2 8 j rfl, q2 9 j rfl, q2 10 j rfl, q2 11 j rfl, q2 12 j rfl⟩⟩⟩
  · obtain ⟨D, N, S, ls, cn, ⟨hb, hh, hS, hp, hd, hl⟩, s, wy, z, l⟩ := RT.o hI.2.2.1.2.1
    obtain ⟨c1, c2, c3, c4, c5, c6⟩ := cn
    refine (xm_personE a1.toInt a2.toInt a3.toInt (cI σ 2) (cI σ 5) hB1 o1 o2 o3 (hI.1 93 2 (by decide)) (hI.1 93 5 (by decide)) (F1.c 2 rfl) (F1.c 5 rfl)).use (by decide) (fun r τ2 q => ?_)
    obtain ⟨hB2, q⟩ := q
    have F2 : FQ [(93, 0), (93, 5), (96, 9999), (97, 9999), (98, 9999), (99, 9999)] τ τ2 := by
      rcases q with ⟨-, -, -, q⟩ | ⟨-, -, -, q⟩
      · exact FQ.up rfl q.nil
      · exact puF.ft rfl rfl q
    have F : FQ [(7, 0), (8, 9999), (9, 9999), (10, 9999), (11, 9999), (12, 9999), (93, 0), (93, 5), (96, 9999), (97, 9999), (98, 9999), (99, 9999)] σ τ2 := FQ.tr (FQ.up (G := [(7, 0), (8, 9999), (9, 9999), (10, 9999), (11, 9999), (12, 9999)]) rfl F1) (FQ.up (G := [(93, 0), (93, 5), (96, 9999), (97, 9999), (98, 9999), (99, 9999)]) rfl F2)
    rcases q with ⟨q1, rfl, q3, q2⟩ | ⟨q1, rfl, q3, q2⟩
    · rcases x with ⟨x1, rfl, x3, x2⟩ | ⟨x1, rfl, x3, x2⟩
      · have G : FQ [(7, 0), (93, 0), (93, 5)] σ τ2 := FQ.tr (FQ.up (G := [(7, 0)]) rfl x2) (FQ.up (G := [(93, 0), (93, 5)]) rfl q2.nil)
        exact ⟨rfl, hB2, F2, D, N, S, ls, ⟨(congrArg Int32.toInt (G 13 0 rfl)).trans c1, ((congrArg Int32.toInt (F2 7 0 rfl)).trans x3).trans c5, (congrArg Int32.toInt (G 3 0 rfl)).trans c3, (G.c 11 rfl).trans c4, (show cI τ2 5 = cI σ 5 from q3).trans c5, (G.c 2 rfl).trans c6⟩, ⟨hb, hh.fq rfl G, hS.fq rfl G, hp.fq rfl G, hd.fq rfl G, hl.fq rfl G⟩, TWs.fq s rfl G, wy.fq rfl G, z.fq rfl G, l.fq rfl G⟩
      · exact absurd x1 q1
    · rcases x with ⟨x1, rfl, x3, x2⟩ | ⟨x1, rfl, x3, x2⟩
      · exact absurd q1 x1
      · have q3 : cI τ2 5 = cI σ 5 + 1 := q3
        obtain ⟨y1, y2, y3, y4, y5, y6, y7⟩ := x1
        have nN : (cI σ 5).toNat = N := by omega
        rw [nN] at x2 q2
        have m96 : ∀ j, τ2.1 96 j = if j = N then Int32.ofInt a1.toInt else σ.1 96 j := fun j => (q2 96 j rfl).trans (by
          show (if j = N then Int32.ofInt a1.toInt else τ.1 96 j) = _
          rw [F1 96 j rfl])
        have m97 : ∀ j, τ2.1 97 j = if j = N then Int32.ofInt a2.toInt else σ.1 97 j := fun j => (q2 97 j rfl).trans (by
          show (if j = N then Int32.ofInt a2.toInt else τ.1 97 j) = _
          rw [F1 97 j rfl])
        have m98 : ∀ j, τ2.1 98 j = if j = N then Int32.ofInt a3.toInt else σ.1 98 j := fun j => (q2 98 j rfl).trans (by
          show (if j = N then Int32.ofInt a3.toInt else τ.1 98 j) = _
          rw [F1 98 j rfl])
        have m99 : ∀ j, τ2.1 99 j = if j = N then Int32.ofInt a1.toInt else σ.1 99 j := fun j => (q2 99 j rfl).trans (by
          show (if j = N then Int32.ofInt a1.toInt else τ.1 99 j) = _
          rw [F1 99 j rfl])
        refine ⟨rfl, hB2, F2, D, N + 1, S, ls, ⟨(congrArg Int32.toInt (F 13 0 rfl)).trans c1, ((congrArg Int32.toInt (F2 7 0 rfl)).trans x3).trans (by omega), (congrArg Int32.toInt (F 3 0 rfl)).trans c3, (F.c 11 rfl).trans c4, q3.trans (by omega), (F.c 2 rfl).trans c6⟩, ⟨⟨hb.1, by omega, hb.2.2⟩, hh.fq rfl F, hS.fq rfl F, fun p hp' => ?_, hd.fq rfl F, fun p hp' => ?_, fun d hd' => ?_⟩, TWs.fq s rfl F, wy.fq rfl F, fun p h1 h2 => ?_, l.fq rfl F⟩
        · obtain ⟨x8, x9, x10, x11, x12⟩ := x2 p
          rw [F2 8 p rfl, F2 9 p rfl, F2 10 p rfl, F2 11 p rfl, F2 12 p rfl, x8, x9, x10, x11, x12, m96, m97, m98, m99, F 100 p rfl]
          by_cases e : p = N
          · rw [if_pos e, if_pos e, if_pos e, if_pos e, if_pos e, if_pos e, if_pos e, if_pos e, if_pos e, z p (by omega) (by omega)]
            exact ⟨rfl, rfl, rfl, rfl, rfl⟩
          · rw [if_neg e, if_neg e, if_neg e, if_neg e, if_neg e, if_neg e, if_neg e, if_neg e, if_neg e]
            exact hp p (by omega)
        · obtain ⟨x8, x9, x10, x11, x12⟩ := x2 p
          rw [F2 8 p rfl, F2 11 p rfl, x8, x11]
          by_cases e : p = N
          · rw [if_pos e, if_pos e, ti_of o1.1 o1.2]
            omega
          · rw [if_neg e, if_neg e]
            exact hl.1 p (by omega)
        · have q := hl.2 d hd'
          rw [row_fq F (P := 14) rfl, row_fq F (P := 15) rfl, row_fq F (P := 17) rfl]
          exact ⟨by omega, by omega, q.2.2⟩
        · rw [F 100 p rfl]
          exact z p (by omega) h2
abbrev PDe (a b v s S P D : Int) : Prop := 0 ≤ a ∧ a < P ∧ 0 ≤ b ∧ b < P ∧ a ≠ b ∧ 1 ≤ v ∧ v ≤ 9999 ∧ 0 ≤ s ∧ s < S ∧ D ≤ 29
set_option maxRecDepth 20000 in
theorem tt_debt (a1 a2 a3 a4 : Int32) : Two 1 true IT IT 132 169 [.int a1, .int a2, .int a3, .int a4] := by
  rw [← oI a1, ← oI a2, ← oI a3, ← oI a4]
  have o1 := ai_rng a1
  have o2 := ai_rng a2
  have o3 := ai_rng a3
  have o4 := ai_rng a4
  refine two_TE (GC := [(13, 0), (14, 9999), (15, 9999), (16, 9999), (17, 9999), (18, 9999), (19, 9999), (20, 9999)]) (GM := [(93, 0), (93, 11), (101, 9999), (102, 9999), (103, 9999), (104, 9999), (105, 9999), (106, 9999), (107, 9999)]) (by decide +kernel) (by decide +kernel) rfl rfl (fun σ v τ => (¬ PDe a1.toInt a2.toInt a3.toInt a4.toInt (cI σ 2) (cI σ 5) (cI σ 11) ∧ v = -1 ∧ sI τ 13 0 = cI σ 11 ∧ FQ [(13, 0)] σ τ) ∨ (PDe a1.toInt a2.toInt a3.toInt a4.toInt (cI σ 2) (cI σ 5) (cI σ 11) ∧ v = cI σ 11 ∧ sI τ 13 0 = cI σ 11 + 1 ∧ ∀ j, τ.1 14 j = (if j = (cI σ 11).toNat then Int32.ofInt a1.toInt else σ.1 14 j) ∧ τ.1 15 j = (if j = (cI σ 11).toNat then Int32.ofInt a2.toInt else σ.1 15 j) ∧ τ.1 16 j = (if j = (cI σ 11).toNat then Int32.ofInt a3.toInt else σ.1 16 j) ∧ τ.1 17 j = (if j = (cI σ 11).toNat then Int32.ofInt a4.toInt else σ.1 17 j) ∧ τ.1 18 j = (if j = (cI σ 11).toNat then Int32.ofInt (sI σ 1 1) else σ.1 18 j) ∧ τ.1 19 j = (if j = (cI σ 11).toNat then Int32.ofInt (-1) else σ.1 19 j) ∧ τ.1 20 j = (if j = (cI σ 11).toNat then Int32.ofInt 0 else σ.1 20 j))) (fun σ hI => ?_) (fun σ τ v hI x F1 hB1 _ => ?_)
  · obtain ⟨D, N, S, ls, w⟩ := RT.o hI.2.2.1.2.1
    obtain ⟨c1, c2, c3, c4, c5, c6⟩ := w.1
    refine (zxc_debt a1.toInt a2.toInt a3.toInt a4.toInt (cI σ 2) (cI σ 5) (cI σ 11) (sI σ 1 1) hI.1 o1 o2 o3 o4 (hI.1 93 2 (by decide)) (hI.1 93 5 (by decide)) (hI.1 93 11 (by decide)) (ai_rng _) (c3.trans c6.symm) (c2.trans c5.symm) (c1.trans c4.symm) rfl).use (by decide) (fun r τ q => ?_)
    obtain ⟨hB, ⟨q1, rfl, q3, q2⟩ | ⟨q1, rfl, q3, q2⟩⟩ := q
    · exact ⟨-1, rfl, hB, FQ.up rfl q2.nil, Or.inl ⟨q1, rfl, q3, q2.nil⟩⟩
    · exact ⟨_, rfl, hB, puF.ft rfl rfl q2, Or.inr ⟨q1, rfl, q3, fun j => ⟨q2 14 j rfl, q2 15 j rfl, q2 16 j rfl, q2 17 j rfl, q2 18 j rfl, q2 19 j rfl, q2 20 j rfl⟩⟩⟩
  · obtain ⟨D, N, S, ls, cn, ⟨hb, hh, hS, hp, hd, hl⟩, s, wy, z, l⟩ := RT.o hI.2.2.1.2.1
    obtain ⟨c1, c2, c3, c4, c5, c6⟩ := cn
    have su : cI σ 19 = sI σ 1 1 := (congrArg Int32.toInt hh.2.1).symm
    refine (zxm_debt a1.toInt a2.toInt a3.toInt a4.toInt (cI σ 2) (cI σ 5) (cI σ 11) (sI σ 1 1) hB1 o1 o2 o3 o4 (hI.1 93 2 (by decide)) (hI.1 93 5 (by decide)) (hI.1 93 11 (by decide)) (ai_rng _) (F1.c 2 rfl) (F1.c 5 rfl) (F1.c 11 rfl) ((F1.c 19 rfl).trans su)).use (by decide) (fun r τ2 q => ?_)
    obtain ⟨hB2, q⟩ := q
    have F2 : FQ [(93, 0), (93, 11), (101, 9999), (102, 9999), (103, 9999), (104, 9999), (105, 9999), (106, 9999), (107, 9999)] τ τ2 := by
      rcases q with ⟨-, -, -, q⟩ | ⟨-, -, -, q⟩
      · exact FQ.up rfl q.nil
      · exact puF.ft rfl rfl q
    have F : FQ [(13, 0), (14, 9999), (15, 9999), (16, 9999), (17, 9999), (18, 9999), (19, 9999), (20, 9999), (93, 0), (93, 11), (101, 9999), (102, 9999), (103, 9999), (104, 9999), (105, 9999), (106, 9999), (107, 9999)] σ τ2 := FQ.tr (FQ.up (G := [(13, 0), (14, 9999), (15, 9999), (16, 9999), (17, 9999), (18, 9999), (19, 9999), (20, 9999)]) rfl F1) (FQ.up (G := [(93, 0), (93, 11), (101, 9999), (102, 9999), (103, 9999), (104, 9999), (105, 9999), (106, 9999), (107, 9999)]) rfl F2)
    rcases q with ⟨q1, rfl, q3, q2⟩ | ⟨q1, rfl, q3, q2⟩
    · rcases x with ⟨x1, rfl, x3, x2⟩ | ⟨x1, rfl, x3, x2⟩
      · have G : FQ [(13, 0), (93, 0), (93, 11)] σ τ2 := FQ.tr (FQ.up (G := [(13, 0)]) rfl x2) (FQ.up (G := [(93, 0), (93, 11)]) rfl q2.nil)
        exact ⟨rfl, hB2, F2, D, N, S, ls, ⟨((congrArg Int32.toInt (F2 13 0 rfl)).trans x3).trans c4, (congrArg Int32.toInt (G 7 0 rfl)).trans c2, (congrArg Int32.toInt (G 3 0 rfl)).trans c3, (show cI τ2 11 = cI σ 11 from q3).trans c4, (G.c 5 rfl).trans c5, (G.c 2 rfl).trans c6⟩, ⟨hb, hh.fq rfl G, hS.fq rfl G, hp.fq rfl G, hd.fq rfl G, hl.fq rfl G⟩, TWs.fq s rfl G, wy.fq rfl G, z.fq rfl G, l.fq rfl G⟩
      · exact absurd x1 q1
    · rcases x with ⟨x1, rfl, x3, x2⟩ | ⟨x1, rfl, x3, x2⟩
      · exact absurd q1 x1
      · have q3 : cI τ2 11 = cI σ 11 + 1 := q3
        obtain ⟨y1, y2, y3, y4, y5, y6, y7, y8, y9, y10⟩ := x1
        have nD : (cI σ 11).toNat = D := by omega
        rw [nD] at x2 q2
        have m101 : ∀ j, τ2.1 101 j = if j = D then Int32.ofInt a1.toInt else σ.1 101 j := fun j => (q2 101 j rfl).trans (by
          show (if j = D then Int32.ofInt a1.toInt else τ.1 101 j) = _
          rw [F1 101 j rfl])
        have m102 : ∀ j, τ2.1 102 j = if j = D then Int32.ofInt a2.toInt else σ.1 102 j := fun j => (q2 102 j rfl).trans (by
          show (if j = D then Int32.ofInt a2.toInt else τ.1 102 j) = _
          rw [F1 102 j rfl])
        have m103 : ∀ j, τ2.1 103 j = if j = D then Int32.ofInt a3.toInt else σ.1 103 j := fun j => (q2 103 j rfl).trans (by
          show (if j = D then Int32.ofInt a3.toInt else τ.1 103 j) = _
          rw [F1 103 j rfl])
        have m104 : ∀ j, τ2.1 104 j = if j = D then Int32.ofInt a4.toInt else σ.1 104 j := fun j => (q2 104 j rfl).trans (by
          show (if j = D then Int32.ofInt a4.toInt else τ.1 104 j) = _
          rw [F1 104 j rfl])
        have m105 : ∀ j, τ2.1 105 j = if j = D then Int32.ofInt (sI σ 1 1) else σ.1 105 j := fun j => (q2 105 j rfl).trans (by
          show (if j = D then Int32.ofInt (sI σ 1 1) else τ.1 105 j) = _
          rw [F1 105 j rfl])
        have m106 : ∀ j, τ2.1 106 j = if j = D then Int32.ofInt (-1) else σ.1 106 j := fun j => (q2 106 j rfl).trans (by
          show (if j = D then Int32.ofInt (-1) else τ.1 106 j) = _
          rw [F1 106 j rfl])
        have m107 : ∀ j, τ2.1 107 j = if j = D then Int32.ofInt 0 else σ.1 107 j := fun j => (q2 107 j rfl).trans (by
          show (if j = D then Int32.ofInt 0 else τ.1 107 j) = _
          rw [F1 107 j rfl])
        refine ⟨rfl, hB2, F2, D + 1, N, S, ls, ⟨((congrArg Int32.toInt (F2 13 0 rfl)).trans x3).trans (by omega), (congrArg Int32.toInt (F 7 0 rfl)).trans c2, (congrArg Int32.toInt (F 3 0 rfl)).trans c3, q3.trans (by omega), (F.c 5 rfl).trans c5, (F.c 2 rfl).trans c6⟩, ⟨⟨by omega, hb.2⟩, hh.fq rfl F, hS.fq rfl F, hp.fq rfl F, fun d hd' => ?_, fun p hp' => ?_, fun d hd' => ?_⟩, TWs.fq s rfl F, wy.fq rfl F, z.fq rfl F, l.fq rfl F⟩
        · obtain ⟨x14, x15, x16, x17, x18, x19, x20⟩ := x2 d
          rw [F2 14 d rfl, F2 15 d rfl, F2 16 d rfl, F2 17 d rfl, F2 18 d rfl, F2 19 d rfl, F2 20 d rfl, x14, x15, x16, x17, x18, x19, x20, m101, m102, m103, m104, m105, m106, m107]
          by_cases e : d = D
          · rw [if_pos e, if_pos e, if_pos e, if_pos e, if_pos e, if_pos e, if_pos e, if_pos e, if_pos e, if_pos e, if_pos e, if_pos e, if_pos e, if_pos e]
            exact ⟨rfl, rfl, rfl, rfl, rfl, rfl, rfl⟩
          · rw [if_neg e, if_neg e, if_neg e, if_neg e, if_neg e, if_neg e, if_neg e, if_neg e, if_neg e, if_neg e, if_neg e, if_neg e, if_neg e, if_neg e]
            exact hd d (by omega)
        · rw [row_fq F (P := 8) rfl, row_fq F (P := 11) rfl]
          exact hl.1 p hp'
        · obtain ⟨x14, x15, x16, x17, x18, x19, x20⟩ := x2 d
          have g14 : nt (τ2.1 14) d = (if d = D then Int32.ofInt a1.toInt else σ.1 14 d).toInt.toNat := by
            show (τ2.1 14 d).toInt.toNat = _
            rw [F2 14 d rfl, x14]
          have g15 : nt (τ2.1 15) d = (if d = D then Int32.ofInt a2.toInt else σ.1 15 d).toInt.toNat := by
            show (τ2.1 15 d).toInt.toNat = _
            rw [F2 15 d rfl, x15]
          rw [g14, g15, F2 17 d rfl, x17]
          by_cases e : d = D
          · rw [if_pos e, if_pos e, if_pos e, ti_of o1.1 o1.2, ti_of o2.1 o2.2, ti_of o4.1 o4.2]
            omega
          · rw [if_neg e, if_neg e, if_neg e]
            exact hl.2 d (by omega)
