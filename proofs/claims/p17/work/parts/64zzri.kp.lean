/-! cleared in the class: clashes, sets -/
def jX (σ : pm_S) (m : Nat) (l : List Nat) (X : Nat → Nat → Bool) : Prop := m ≤ 10 ∧ sI σ 79 2 = (m : Int) ∧ (∀ i, i < m → sI σ 80 i = ((l.getD i 0 : Nat) : Int) ∧ l.getD i 0 ≤ 29) ∧ ∀ i j, i < m → j < m → X i j = xcl (sI σ 14) (sI σ 15) (sI σ 17) l i j
abbrev FJr : List (Nat × Nat) := [(81, 9999), (82, 9999), (83, 9999)]
theorem x_shr {σ : pm_S} (hB : an_GB pm_B σ) {d e : Nat} (hd : d ≤ 29) (he : e ≤ 29) : Sp 8 5 [.ref 13, .int (Int32.ofInt (d : Int)), .int (Int32.ofInt (e : Int))] σ (fun r τ => r = some (.int (Int32.ofInt (tvI (shB (sI σ 14 d) (sI σ 15 d) (sI σ 14 e) (sI σ 15 e))))) ∧ an_GB pm_B τ ∧ FQ [] σ τ) := by
  have b1 : 0 ≤ sI σ 14 d ∧ sI σ 14 d ≤ 9 := hB 14 d (show d < 30 by omega)
  have b2 : 0 ≤ sI σ 15 d ∧ sI σ 15 d ≤ 9 := hB 15 d (show d < 30 by omega)
  have b3 : 0 ≤ sI σ 14 e ∧ sI σ 14 e ≤ 9 := hB 14 e (show e < 30 by omega)
  have b4 : 0 ≤ sI σ 15 e ∧ sI σ 15 e ≤ 9 := hB 15 e (show e < 30 by omega)
  have yes : ∀ τ : pm_S, an_GB pm_B τ → FQ [] σ τ → shB (sI σ 14 d) (sI σ 15 d) (sI σ 14 e) (sI σ 15 e) = true → Ok 8 5 36 [.ref 13, .int (Int32.ofInt (d : Int)), .int (Int32.ofInt (e : Int))] [] τ (fun r τ => r = some (.int (Int32.ofInt (tvI (shB (sI σ 14 d) (sI σ 15 d) (sI σ 14 e) (sI σ 15 e))))) ∧ an_GB pm_B τ ∧ FQ [] σ τ) := by
    intro τ hB F h
    refine ks_36 d e hB ⟨by omega, by omega, trivial⟩ ?_
    intro τ1 y1 hB1 F1 _ _ _ _
    exact ⟨by rw [tvI_y h], hB1, F.tr F1⟩
  refine Sp.at rfl rfl ?_
  refine ks_0 d e (sI σ 14 d) (sI σ 15 d) (sI σ 14 e) (sI σ 15 e) hB ⟨by omega, by omega, b1, b2, b3, b4, trivial⟩ ⟨rfl, rfl, rfl, rfl, trivial⟩ ?_
  intro τ1 y1 hB1 F1 _ _ _ c1
  refine Ok.ic rfl rfl (by omega) (by omega) (by omega) (by omega) (fun h => ?_) (fun h => ?_)
  · have h : sI σ 14 d = sI σ 14 e := h
    exact yes τ1 hB1 F1 (by unfold shB; rw [decide_eq_true h]; rfl)
  have h1 : sI σ 14 d ≠ sI σ 14 e := h
  refine ks_9 d e (sI σ 14 d) (sI σ 15 d) (sI σ 14 e) (sI σ 15 e) hB1 ⟨by omega, by omega, b1, b2, b3, b4, trivial⟩ ⟨c1.1, c1.2.2.1, c1.2.1, c1.2.2.2.1, trivial⟩ ?_
  intro τ2 y2 hB2 F2 _ _ _ c2
  refine Ok.ic rfl rfl (by omega) (by omega) (by omega) (by omega) (fun h => ?_) (fun h => ?_)
  · have h : sI σ 14 d = sI σ 15 e := h
    exact yes τ2 hB2 (F1.tr F2) (by unfold shB; rw [decide_eq_true h, Bool.or_true]; rfl)
  have h2 : sI σ 14 d ≠ sI σ 15 e := h
  refine ks_18 d e (sI σ 14 d) (sI σ 15 d) (sI σ 14 e) (sI σ 15 e) hB2 ⟨by omega, by omega, b1, b2, b3, b4, trivial⟩ ⟨c2.1, c2.2.2.1, c2.2.1, c2.2.2.2.1, trivial⟩ ?_
  intro τ3 y3 hB3 F3 _ _ _ c3
  refine Ok.ic rfl rfl (by omega) (by omega) (by omega) (by omega) (fun h => ?_) (fun h => ?_)
  · have h : sI σ 15 d = sI σ 14 e := h
    exact yes τ3 hB3 ((F1.tr F2).tr F3) (by unfold shB; rw [decide_eq_true h, Bool.or_true]; rfl)
  have h3 : sI σ 15 d ≠ sI σ 14 e := h
  refine ks_27 d e (sI σ 14 d) (sI σ 15 d) (sI σ 14 e) (sI σ 15 e) hB3 ⟨by omega, by omega, b1, b2, b3, b4, trivial⟩ ⟨c3.1, c3.2.2.1, c3.2.1, c3.2.2.2.1, trivial⟩ ?_
  intro τ4 y4 hB4 F4 _ _ _ c4
  refine Ok.ic rfl rfl (by omega) (by omega) (by omega) (by omega) (fun h => ?_) (fun h => ?_)
  · have h4 : sI σ 15 d ≠ sI σ 15 e := h
    refine ks_38 d e hB4 ⟨by omega, by omega, trivial⟩ ?_
    intro τ5 y5 hB5 F5 _ _ _ _
    refine ⟨?_, hB5, (((F1.tr F2).tr F3).tr F4).tr F5⟩
    rw [tvI_n (by unfold shB; rw [decide_eq_false h1, decide_eq_false h2, decide_eq_false h3, decide_eq_false h4]; rfl)]
  · have h : sI σ 15 d = sI σ 15 e := h
    exact yes τ4 hB4 (((F1.tr F2).tr F3).tr F4) (by unfold shB; rw [decide_eq_true h, Bool.or_true])
section KPX
variable {m : Nat} {l : List Nat} {X : Nat → Nat → Bool}
theorem jX.fq {σ τ : pm_S} (F : FQ FJr σ τ) (h : jX σ m l X) : jX τ m l X := by
  obtain ⟨h1, h2, h3, h4⟩ := h
  refine ⟨h1, (congrArg Int32.toInt (F 79 2 rfl)).trans h2, fun i hi => ⟨(congrArg Int32.toInt (F 80 i rfl)).trans (h3 i hi).1, (h3 i hi).2⟩, fun i j hi hj => ?_⟩
  rw [h4 i j hi hj]
  have e : ∀ P, an_inP FJr P = false → sI τ P = sI σ P := fun P h => funext fun j => congrArg Int32.toInt (F P j (an_inP_ok h j))
  rw [e 14 rfl, e 15 rfl, e 17 rfl]
theorem x_noc {σ : pm_S} (hX : jX σ m l X) (hB : an_GB pm_B σ) : Sp 70 9 [.ref 79] σ (fun r τ => r = none ∧ an_GB pm_B τ ∧ FQ FJr σ τ ∧ ∀ i, i < m → sI τ 81 i = ((clB X i m : Nat) : Int)) := by
  have m10 := hX.1
  have cl : ∀ (i j : Nat), j ≤ m → clB X i j < 1024 := fun i j hj => Nat.lt_of_lt_of_le (clB_lt j) (p1024 (m := j) (by omega))
  -- inner
  have inn : ∀ (i : Nat), i < m → ∀ (Q : Option Value → pm_S → Prop), (∀ (τ : pm_S) (v w : Value), v.category = 1 → w.category = 1 → an_GB pm_B τ → FQ FJr σ τ → (∀ k, k < i + 1 → sI τ 81 k = ((clB X k m : Nat) : Int)) → Ok 70 9 69 [.ref 79, .int (Int32.ofInt (i : Int)), v, w] [] τ Q) → ∀ (N j : Nat) (τ : pm_S) (v : Value), v.category = 1 → j + N = m → an_GB pm_B τ → FQ FJr σ τ → (∀ k, k < i → sI τ 81 k = ((clB X k m : Nat) : Int)) → sI τ 81 i = ((clB X i j : Nat) : Int) → Ok 70 9 13 [.ref 79, .int (Int32.ofInt (i : Int)), .int (Int32.ofInt (j : Int)), v] [] τ Q := by
    intro i hi Q hend N
    induction N with
    | zero =>
      intro j τ v cv hN hB F hJ hc
      have XX := hX.fq F
      refine ka_13 i j m v cv hB ⟨by omega, by omega, by omega, trivial⟩ ⟨XX.2.1, trivial⟩ ?_
      intro τ1 y1 w cw hB1 F1 _ _ _ _
      refine Ok.ic rfl rfl (by omega) (by omega) (by omega) (by omega) (fun h => ?_) (fun h => ?_)
      · refine hend τ1 _ w rfl cw hB1 (F.tr (FQ.up (G := []) rfl F1)) (fun k hk => ?_)
        rw [show sI τ1 81 k = sI τ 81 k from congrArg Int32.toInt (F1 81 k rfl)]
        by_cases e : k = i
        · rw [e, hc, show j = m by omega]
        · exact hJ k (by omega)
      · exfalso
        have h : (j : Int) < (m : Int) := h
        omega
    | succ N ih =>
      intro j τ v cv hN hB F hJ hc
      have XX := hX.fq F
      have hj : j < m := by omega
      have di := hX.2.2.1 i hi
      have dj := hX.2.2.1 j hj
      have xe := hX.2.2.2 i j hi hj
      generalize ea : l.getD i 0 = a at di
      generalize eb : l.getD j 0 = b at dj
      unfold xcl at xe
      rw [ea, eb] at xe
      have cj := cl i j (by omega)
      -- the store
      have st : ∀ (τ2 : pm_S) (v : Value) (z : Int), v.category = 1 → an_GB pm_B τ2 → FQ [] τ τ2 → ((z = 0 ∧ X i j = false) ∨ (z = ((2 ^ j : Nat) : Int) ∧ X i j = true)) → Ok 70 9 65 [.ref 79, .int (Int32.ofInt (i : Int)), .int (Int32.ofInt (j : Int)), v] [.int (Int32.ofInt z), .int (Int32.ofInt ((clB X i j : Nat) : Int)), .int (Int32.ofInt (i : Int)), .ref 81] τ2 Q := by
        intro τ2 v z cv hB2 F2 hz
        have p2 : (2 : Nat) ^ j ≤ 512 := show 2 ^ j ≤ 2 ^ 9 from Nat.pow_le_pow_right (by decide) (by omega)
        have pz := Nat.two_pow_pos j
        refine ka_65 i j ((clB X i j : Nat) : Int) z v cv hB2 ⟨by omega, by omega, by omega, by omega, trivial⟩ ?_
        intro τ3 y3 w cw hB3 F3 f3 _ d3 _
        have e4 : y3 4 = ((clB X i (j + 1) : Nat) : Int) := by
          rcases hz with ⟨z0, hx⟩ | ⟨z0, hx⟩
          · rw [show clB X i (j + 1) = clB X i j from if_neg (by rw [hx]; decide)]
            have h := orX (a := clB X i j) (b := 0) cj (by decide) (fun _ _ => Nat.zero_testBit _) (y := y3 4) (by rw [z0] at d3; exact d3.1)
            rw [Nat.xor_zero] at h
            exact h
          · rw [show clB X i (j + 1) = clB X i j ^^^ 2 ^ j from if_pos hx]
            refine orX cj (by omega) (fun t ht => ?_) (by rw [z0] at d3; exact d3.1)
            rw [Nat.testBit_two_pow]
            refine decide_eq_false (fun e => ?_)
            rw [← e, clB_hi (Nat.le_refl j)] at ht
            cases ht
        rw [e4]
        have cj1 := cl i (j + 1) (by omega)
        refine Ok.ast (n := 10) rfl rfl rfl (by decide) (by omega) (by omega) ?_
        rw [show ((i : Int)).toNat = i by omega]
        have hB4 : an_GB pm_B (put τ3 81 i (Int32.ofInt ((clB X i (j + 1) : Nat) : Int))) := put_GB hB3 (ai_rng _)
        have G4 : FQ FJr σ (put τ3 81 i (Int32.ofInt ((clB X i (j + 1) : Nat) : Int))) := (F.tr (FQ.up (G := []) rfl (F2.tr F3))).tr (FQ.put rfl)
        have J4 : ∀ k, k < i → sI (put τ3 81 i (Int32.ofInt ((clB X i (j + 1) : Nat) : Int))) 81 k = ((clB X k m : Nat) : Int) := fun k hk => by
          show ((put τ3 81 i (Int32.ofInt ((clB X i (j + 1) : Nat) : Int))).1 81 k).toInt = _
          rw [put_nj (by omega), (F2.tr F3) 81 k rfl]
          exact hJ k hk
        have K4 : sI (put τ3 81 i (Int32.ofInt ((clB X i (j + 1) : Nat) : Int))) 81 i = ((clB X i (j + 1) : Nat) : Int) := by
          show ((put τ3 81 i (Int32.ofInt ((clB X i (j + 1) : Nat) : Int))).1 81 i).toInt = _
          rw [put_eq, ti_of (by omega) (by omega)]
        generalize put τ3 81 i (Int32.ofInt ((clB X i (j + 1) : Nat) : Int)) = τ4 at hB4 G4 J4 K4 ⊢
        refine ka_67 i j w cw hB4 ⟨by omega, by omega, trivial⟩ ?_
        intro τ5 y5 u cu hB5 F5 _ _ _ _
        exact ih (j + 1) τ5 u cu (by omega) hB5 (G4.tr (FQ.up (G := []) rfl F5)) (fun k hk => (congrArg Int32.toInt (F5 81 k rfl)).trans (J4 k hk)) ((congrArg Int32.toInt (F5 81 i rfl)).trans K4)
      refine ka_13 i j m v cv hB ⟨by omega, by omega, by omega, trivial⟩ ⟨XX.2.1, trivial⟩ ?_
      intro τ1 y1 w cw hB1 F1 _ _ _ _
      refine Ok.ic rfl rfl (by omega) (by omega) (by omega) (by omega) (fun h => ?_) (fun h => ?_)
      · exfalso
        have h : (m : Int) ≤ (j : Int) := h
        omega
      · have G1 : FQ FJr σ τ1 := F.tr (FQ.up (G := []) rfl F1)
        have R : ∀ (τ : pm_S) (P : Nat), an_inP FJr P = false → FQ FJr σ τ → ∀ d, sI τ P d = sI σ P d := fun τ P h F d => congrArg Int32.toInt (F P d (an_inP_ok h d))
        have g17 : ∀ d, d ≤ 29 → 0 ≤ sI σ 17 d ∧ sI σ 17 d ≤ 9 := fun d hd => by
          rw [← R τ1 17 rfl G1 d]
          exact hB1 17 d (show d < 30 by omega)
        have ga := g17 a (by omega)
        have gb := g17 b (by omega)
        refine ka_17 i j a b (sI σ 17 a) (sI σ 17 b) w cw hB1 ⟨by omega, by omega, by omega, by omega, ga, gb, trivial⟩ ⟨(congrArg Int32.toInt (G1 80 i rfl)).trans di.1, (congrArg Int32.toInt (G1 80 j rfl)).trans dj.1, R τ1 17 rfl G1 a, R τ1 17 rfl G1 b, trivial⟩ ?_
        intro τ2 y2 u cu hB2 F2 _ _ _ _
        have H2 : FQ [] τ τ2 := F1.tr F2
        have G2 : FQ FJr σ τ2 := F.tr (FQ.up (G := []) rfl H2)
        have e81 : (τ2.1 81 ((i : Int)).toNat).toInt = ((clB X i j : Nat) : Int) := (congrArg Int32.toInt (H2 81 i rfl)).trans hc
        refine Ok.ic rfl rfl (by omega) (by omega) (by omega) (by omega) (fun h => ?_) (fun h => ?_)
        · have h : sI σ 17 a = sI σ 17 b := h
          refine ka_38 i j ((clB X i j : Nat) : Int) u cu hB2 ⟨by omega, by omega, by omega, trivial⟩ ⟨e81, trivial⟩ ?_
          intro τ3 y3 hB3 F3 _ _ _ _
          exact st τ3 _ 0 rfl hB3 (H2.tr F3) (Or.inl ⟨rfl, by rw [xe, decide_eq_true h]; rfl⟩)
        · have h : sI σ 17 a ≠ sI σ 17 b := h
          refine ka_36 i j a b ((clB X i j : Nat) : Int) u cu hB2 ⟨by omega, by omega, by omega, by omega, by omega, trivial⟩ ⟨(congrArg Int32.toInt (G2 80 i rfl)).trans di.1, (congrArg Int32.toInt (G2 80 j rfl)).trans dj.1, e81, trivial⟩ ?_
          intro τ3 y3 hB3 F3 _ _ _ _
          have G3 : FQ FJr σ τ3 := G2.tr (FQ.up (G := []) rfl F3)
          refine Ok.cv rfl rfl rfl rfl rfl rfl rfl ?_
          refine (x_shr hB3 (d := a) (e := b) (by omega) (by omega)).use (by decide) (fun r τ4 q4 => ?_)
          obtain ⟨rfl, hB4, F4⟩ := q4
          rw [R τ3 14 rfl G3, R τ3 15 rfl G3, R τ3 14 rfl G3, R τ3 15 rfl G3]
          have x2 : X i j = shB (sI σ 14 a) (sI σ 15 a) (sI σ 14 b) (sI σ 15 b) := by rw [xe, decide_eq_false h]; exact Bool.true_and _
          cases q : shB (sI σ 14 a) (sI σ 15 a) (sI σ 14 b) (sI σ 15 b) with
          | false =>
            refine ka_59n i j ((clB X i j : Nat) : Int) _ rfl hB4 ⟨by omega, by omega, by omega, trivial⟩ ?_
            intro τ5 y5 t ct hB5 F5 _ _ _ _
            exact st τ5 t 0 ct hB5 (H2.tr (F3.tr (F4.tr F5))) (Or.inl ⟨rfl, x2.trans q⟩)
          | true =>
            refine ka_59 i j ((clB X i j : Nat) : Int) _ rfl hB4 ⟨by omega, by omega, by omega, trivial⟩ ?_
            intro τ5 y5 t ct hB5 F5 f5 _ d5 _
            exact st τ5 t (y5 3) ct hB5 (H2.tr (F3.tr (F4.tr F5))) (Or.inr ⟨shlI (i := (j : Int)) ⟨by omega, by omega⟩ d5.1, x2.trans q⟩)
  -- outer
  have out : ∀ (N i : Nat) (τ : pm_S) (v w : Value), v.category = 1 → w.category = 1 → i + N = m → an_GB pm_B τ → FQ FJr σ τ → (∀ k, k < i → sI τ 81 k = ((clB X k m : Nat) : Int)) → Ok 70 9 2 [.ref 79, .int (Int32.ofInt (i : Int)), v, w] [] τ (fun r τ => r = none ∧ an_GB pm_B τ ∧ FQ FJr σ τ ∧ ∀ i, i < m → sI τ 81 i = ((clB X i m : Nat) : Int)) := by
    intro N
    induction N with
    | zero =>
      intro i τ v w cv cw hN hB F hJ
      have XX := hX.fq F
      refine ka_2 i m v w cv cw hB ⟨by omega, by omega, trivial⟩ ⟨XX.2.1, trivial⟩ ?_
      intro τ1 y1 v1 w1 cv1 cw1 hB1 F1 _ _ _ _
      refine Ok.ic rfl rfl (by omega) (by omega) (by omega) (by omega) (fun h => ?_) (fun h => ?_)
      · refine ka_71 i v1 w1 cv1 cw1 hB1 ⟨by omega, trivial⟩ ?_
        intro τ2 y2 hB2 F2 _ _ _ _
        exact ⟨rfl, hB2, F.tr (FQ.up (G := []) rfl (F1.tr F2)), fun k hk => (congrArg Int32.toInt ((F1.tr F2) 81 k rfl)).trans (hJ k (by omega))⟩
      · exfalso
        have h : (i : Int) < (m : Int) := h
        omega
    | succ N ih =>
      intro i τ v w cv cw hN hB F hJ
      have XX := hX.fq F
      have hi : i < m := by omega
      refine ka_2 i m v w cv cw hB ⟨by omega, by omega, trivial⟩ ⟨XX.2.1, trivial⟩ ?_
      intro τ1 y1 v1 w1 cv1 cw1 hB1 F1 _ _ _ _
      refine Ok.ic rfl rfl (by omega) (by omega) (by omega) (by omega) (fun h => ?_) (fun h => ?_)
      · exfalso
        have h : (m : Int) ≤ (i : Int) := h
        omega
      · refine ka_6 i v1 w1 cv1 cw1 hB1 ⟨by omega, trivial⟩ ?_
        intro τ2 y2 v2 w2 cv2 cw2 hB2 F2 _ _ _ _
        refine Ok.ast (n := 10) rfl rfl rfl (by decide) (by omega) (by omega) ?_
        rw [show ((i : Int)).toNat = i by omega]
        have hB3 : an_GB pm_B (put τ2 81 i (Int32.ofInt 0)) := put_GB hB2 (ai_rng _)
        have G3 : FQ FJr σ (put τ2 81 i (Int32.ofInt 0)) := (F.tr (FQ.up (G := []) rfl (F1.tr F2))).tr (FQ.put rfl)
        have J3 : ∀ k, k < i → sI (put τ2 81 i (Int32.ofInt 0)) 81 k = ((clB X k m : Nat) : Int) := fun k hk => by
          show ((put τ2 81 i (Int32.ofInt 0)).1 81 k).toInt = _
          rw [put_nj (by omega), (F1.tr F2) 81 k rfl]
          exact hJ k hk
        have K3 : sI (put τ2 81 i (Int32.ofInt 0)) 81 i = ((clB X i 0 : Nat) : Int) := by
          show ((put τ2 81 i (Int32.ofInt 0)).1 81 i).toInt = _
          rw [put_eq]
          rfl
        generalize put τ2 81 i (Int32.ofInt 0) = τ3 at hB3 G3 J3 K3 ⊢
        refine ka_11 i v2 w2 cv2 cw2 hB3 ⟨by omega, trivial⟩ ?_
        intro τ4 y4 t ct hB4 F4 _ _ _ _
        refine inn i hi _ ?_ m 0 τ4 t ct (by omega) hB4 (G3.tr (FQ.up (G := []) rfl F4)) (fun k hk => (congrArg Int32.toInt (F4 81 k rfl)).trans (J3 k hk)) ((congrArg Int32.toInt (F4 81 i rfl)).trans K3)
        intro τ5 v5 w5 cv5 cw5 hB5 F5 J5
        refine ka_69 i v5 w5 cv5 cw5 hB5 ⟨by omega, trivial⟩ ?_
        intro τ6 y6 v6 w6 cv6 cw6 hB6 F6 _ _ _ _
        exact ih (i + 1) τ6 v6 w6 cv6 cw6 (by omega) hB6 (F5.tr (FQ.up (G := []) rfl F6)) (fun k hk => (congrArg Int32.toInt (F6 81 k rfl)).trans (J5 k hk))
  refine Sp.at rfl rfl ?_
  refine ka_0 _ _ _ rfl rfl rfl hB ?_
  intro τ y v w cv cw hB1 F1 _ _ _ _
  exact out m 0 τ v w cv cw (by omega) hB1 (FQ.up (G := []) rfl F1) (fun k hk => absurd hk (Nat.not_lt_zero _))
end KPX
