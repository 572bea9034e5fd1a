/-! cleared in the model -/
def kX (σ : pm_S) (m : Nat) (l : List Nat) (X : Nat → Nat → Bool) : Prop := m ≤ 10 ∧ cI σ 55 = (m : Int) ∧ (∀ i, i < m → (σ.1 125 i).toInt = ((l.getD i 0 : Nat) : Int) ∧ l.getD i 0 ≤ 29) ∧ ∀ i j, i < m → j < m → X i j = xcl (sI σ 101) (sI σ 102) (sI σ 104) l i j
abbrev FKr : List (Nat × Nat) := [(126, 9999), (127, 9999)]
section KMX
variable {m : Nat} {l : List Nat} {X : Nat → Nat → Bool}
theorem kX.fq {σ τ : pm_S} (F : FQ FKr σ τ) (h : kX σ m l X) : kX τ m l X := by
  obtain ⟨h1, h2, h3, h4⟩ := h
  refine ⟨h1, (F.c 55 rfl).trans h2, fun i hi => ⟨(congrArg Int32.toInt (F 125 i rfl)).trans (h3 i hi).1, (h3 i hi).2⟩, fun i j hi hj => ?_⟩
  rw [h4 i j hi hj]
  have e : ∀ P, an_inP FKr P = false → sI τ P = sI σ P := fun P h => funext fun j => congrArg Int32.toInt (F P j (an_inP_ok h j))
  rw [e 101 rfl, e 102 rfl, e 104 rfl]
theorem m_are {σ : pm_S} (hX : kX σ m l X) (hs : ∀ i j, X i j = X j i) (hr : ∀ i, X i i = false) (hB : an_GB pm_B σ) {S : Nat} (hS : S < 2 ^ m) : Sp 216 6 [.ref 93, .int (Int32.ofInt (S : Int))] σ (fun r τ => r = some (.int (Int32.ofInt (tvI (cB m X S)))) ∧ an_GB pm_B τ ∧ FQ [] σ τ) := by
  have m10 := hX.1
  have h1024 := p1024 m10
  -- inner
  have inn : ∀ (i : Nat), i < m → ∀ (Q : Option Value → pm_S → Prop), (∀ τ, cB m X S = false → an_GB pm_B τ → FQ [] σ τ → Q (some (.int (Int32.ofInt 0))) τ) → (∀ (τ : pm_S) (v3 v4 v5 v6 : Value), v3.category = 1 → v4.category = 1 → v5.category = 1 → v6.category = 1 → an_GB pm_B τ → FQ [] σ τ → (∀ b, b < i → Nat.testBit S i = true → Nat.testBit S b = true → X i b = false) → Ok 216 6 89 [.ref 93, .int (Int32.ofInt (S : Int)), .int (Int32.ofInt (i : Int)), v3, v4, v5, v6] [] τ Q) → ∀ (N j : Nat) (τ : pm_S) (v4 v5 v6 : Value), v4.category = 1 → v5.category = 1 → v6.category = 1 → j + N = i → an_GB pm_B τ → FQ [] σ τ → (∀ b, b < j → Nat.testBit S i = true → Nat.testBit S b = true → X i b = false) → Ok 216 6 8 [.ref 93, .int (Int32.ofInt (S : Int)), .int (Int32.ofInt (i : Int)), .int (Int32.ofInt (j : Int)), v4, v5, v6] [] τ Q := by
    intro i hi Q hno hend N
    induction N with
    | zero =>
      intro j τ v4 v5 v6 c4 c5 c6 hN hB F hJ
      refine la_8 S i j v4 v5 v6 c4 c5 c6 hB ⟨by omega, by omega, by omega, trivial⟩ ?_
      intro τ1 y1 w4 w5 w6 d4 d5 d6 hB1 F1 _ _ _ _
      refine Ok.ic rfl rfl (by omega) (by omega) (by omega) (by omega) (fun h => ?_) (fun h => ?_)
      · exact hend τ1 _ w4 w5 w6 rfl d4 d5 d6 hB1 (F.tr F1) (fun b hb => hJ b (by omega))
      · exfalso
        have h : (j : Int) < (i : Int) := h
        omega
    | succ N ih =>
      intro j τ v4 v5 v6 c4 c5 c6 hN hB F hJ
      have hj : j < m := by omega
      have next : ∀ (τ2 : pm_S) (w4 w5 w6 : Value), w4.category = 1 → w5.category = 1 → w6.category = 1 → an_GB pm_B τ2 → FQ [] σ τ2 → (Nat.testBit S i = true → Nat.testBit S j = true → X i j = false) → Ok 216 6 87 [.ref 93, .int (Int32.ofInt (S : Int)), .int (Int32.ofInt (i : Int)), .int (Int32.ofInt (j : Int)), w4, w5, w6] [] τ2 Q := by
        intro τ2 w4 w5 w6 d4 d5 d6 hB2 F2 hx
        refine la_87 S i j w4 w5 w6 d4 d5 d6 hB2 ⟨by omega, by omega, by omega, trivial⟩ ?_
        intro τ3 y3 z4 z5 z6 e4 e5 e6 hB3 F3 _ _ _ _
        refine ih (j + 1) τ3 z4 z5 z6 e4 e5 e6 (by omega) hB3 (F2.tr F3) (fun b hb h1 h2 => ?_)
        by_cases e : b = j
        · rw [e] at h2 ⊢
          exact hx h1 h2
        · exact hJ b (by omega) h1 h2
      refine la_8 S i j v4 v5 v6 c4 c5 c6 hB ⟨by omega, by omega, by omega, trivial⟩ ?_
      intro τ1 y1 w4 w5 w6 d4 d5 d6 hB1 F1 _ _ _ _
      refine Ok.ic rfl rfl (by omega) (by omega) (by omega) (by omega) (fun h => ?_) (fun h => ?_)
      · exfalso
        have h : (i : Int) ≤ (j : Int) := h
        omega
      · refine la_11 S i j w4 w5 w6 d4 d5 d6 hB1 ⟨by omega, by omega, by omega, trivial⟩ ?_ ?_ ?_
        · intro τ2 y2 z4 z5 z6 e4 e5 e6 hB2 F2 f2 _ d2 _
          have hb : Nat.testBit S i = false := bitF (x := (S : Int)) (i := (i : Int)) ⟨by omega, by omega⟩ ⟨by omega, by omega⟩ d2.1 d2.2.1 (by omega)
          exact next τ2 z4 z5 z6 e4 e5 e6 hB2 (F.tr (F1.tr F2)) (fun z => by rw [hb] at z; cases z)
        · intro τ2 y2 z4 z5 z6 e4 e5 e6 hB2 F2 f2 _ d2 _
          have hbi : Nat.testBit S i = true := bitT (x := (S : Int)) (i := (i : Int)) ⟨by omega, by omega⟩ ⟨by omega, by omega⟩ d2.1 d2.2.1 (by omega)
          have hbj : Nat.testBit S j = true := bitT (x := (S : Int)) (i := (j : Int)) ⟨by omega, by omega⟩ ⟨by omega, by omega⟩ d2.2.2.1 d2.2.2.2.1 (by omega)
          have G2 : FQ [] σ τ2 := F.tr (F1.tr F2)
          have di := hX.2.2.1 i hi
          have dj := hX.2.2.1 j hj
          have xe := hX.2.2.2 i j hi hj
          generalize ea : l.getD i 0 = a at di
          generalize eb : l.getD j 0 = b at dj
          unfold xcl shB at xe
          rw [ea, eb] at xe
          have R : ∀ (τ : pm_S) (P : Nat), FQ [] σ τ → ∀ d, sI τ P d = sI σ P d := fun τ P F d => congrArg Int32.toInt (F P d rfl)
          have g1 : ∀ d, d ≤ 29 → (0 ≤ sI σ 101 d ∧ sI σ 101 d ≤ 9) ∧ (0 ≤ sI σ 102 d ∧ sI σ 102 d ≤ 9) ∧ (0 ≤ sI σ 104 d ∧ sI σ 104 d ≤ 9) := fun d hd => by
            have B0 := F.e1.symm
            refine ⟨?_, ?_, ?_⟩
            · rw [← R τ2 101 G2 d]; exact hB2 101 d (show d < 30 by omega)
            · rw [← R τ2 102 G2 d]; exact hB2 102 d (show d < 30 by omega)
            · rw [← R τ2 104 G2 d]; exact hB2 104 d (show d < 30 by omega)
          have ga := g1 a (by omega)
          have gb := g1 b (by omega)
          -- those who meet, and those who don't
          have m70 : ∀ (τ : pm_S) (v6 : Value), v6.category = 1 → an_GB pm_B τ → FQ [] σ τ → (X i j = !decide (sI σ 104 a = sI σ 104 b)) → Ok 216 6 70 [.ref 93, .int (Int32.ofInt (S : Int)), .int (Int32.ofInt (i : Int)), .int (Int32.ofInt (j : Int)), .int (Int32.ofInt ((a : Nat) : Int)), .int (Int32.ofInt ((b : Nat) : Int)), v6] [] τ Q := by
            intro τ v6 c6 hB F hx
            refine la_70 S i j a b (sI σ 104 a) (sI σ 104 b) v6 c6 hB ⟨by omega, by omega, by omega, by omega, by omega, by omega, by omega, trivial⟩ ⟨R τ 104 F a, R τ 104 F b, trivial⟩ ?_
            intro τ3 y3 hB3 F3 _ _ _ _
            refine Ok.ic rfl rfl (by omega) (by omega) (by omega) (by omega) (fun h => ?_) (fun h => ?_)
            · have h : sI σ 104 a = sI σ 104 b := h
              exact next τ3 _ _ _ rfl rfl rfl hB3 (F.tr F3) (fun _ _ => by rw [hx, decide_eq_true h]; rfl)
            · have h : sI σ 104 a ≠ sI σ 104 b := h
              refine la_85 S i j _ _ _ rfl rfl rfl hB3 ⟨by omega, by omega, by omega, trivial⟩ ?_
              intro τ4 y4 hB4 F4 _ _ _ _
              exact hno τ4 (are_no hS hbi hbj (by rw [hx, decide_eq_false h]; rfl)) hB4 ((F.tr F3).tr F4)
          have sh : ∀ q : Bool, ((decide (sI σ 101 a = sI σ 101 b) || decide (sI σ 101 a = sI σ 102 b) || decide (sI σ 102 a = sI σ 101 b) || decide (sI σ 102 a = sI σ 102 b)) = true) → (X i j = !decide (sI σ 104 a = sI σ 104 b)) := fun _ z => by rw [xe, z, Bool.and_true]
          refine la_24 S i j a b (sI σ 101 a) (sI σ 101 b) z4 z5 z6 e4 e5 e6 hB2 ⟨by omega, by omega, by omega, by omega, by omega, by omega, by omega, trivial⟩ ⟨(congrArg Int32.toInt (G2 125 i rfl)).trans di.1, (congrArg Int32.toInt (G2 125 j rfl)).trans dj.1, R τ2 101 G2 a, R τ2 101 G2 b, trivial⟩ ?_
          intro τ3 y3 u6 k6 hB3 F3 _ _ _ _
          have G3 : FQ [] σ τ3 := G2.tr F3
          refine Ok.ic rfl rfl (by omega) (by omega) (by omega) (by omega) (fun h => ?_) (fun h => ?_)
          · have h : sI σ 101 a = sI σ 101 b := h
            exact m70 τ3 u6 k6 hB3 G3 (sh true (by rw [decide_eq_true h]; rfl))
          · have h1 : sI σ 101 a ≠ sI σ 101 b := h
            refine la_43 S i j a b (sI σ 101 a) (sI σ 102 b) u6 k6 hB3 ⟨by omega, by omega, by omega, by omega, by omega, by omega, by omega, trivial⟩ ⟨R τ3 101 G3 a, R τ3 102 G3 b, trivial⟩ ?_
            intro τ4 y4 u7 k7 hB4 F4 _ _ _ _
            have G4 : FQ [] σ τ4 := G3.tr F4
            refine Ok.ic rfl rfl (by omega) (by omega) (by omega) (by omega) (fun h => ?_) (fun h => ?_)
            · have h : sI σ 101 a = sI σ 102 b := h
              exact m70 τ4 u7 k7 hB4 G4 (sh true (by rw [decide_eq_true h, Bool.or_true]; rfl))
            · have h2 : sI σ 101 a ≠ sI σ 102 b := h
              refine la_52 S i j a b (sI σ 102 a) (sI σ 101 b) u7 k7 hB4 ⟨by omega, by omega, by omega, by omega, by omega, by omega, by omega, trivial⟩ ⟨R τ4 102 G4 a, R τ4 101 G4 b, trivial⟩ ?_
              intro τ5 y5 u8 k8 hB5 F5 _ _ _ _
              have G5 : FQ [] σ τ5 := G4.tr F5
              refine Ok.ic rfl rfl (by omega) (by omega) (by omega) (by omega) (fun h => ?_) (fun h => ?_)
              · have h : sI σ 102 a = sI σ 101 b := h
                exact m70 τ5 u8 k8 hB5 G5 (sh true (by rw [decide_eq_true h, Bool.or_true]; rfl))
              · have h3 : sI σ 102 a ≠ sI σ 101 b := h
                refine la_61 S i j a b (sI σ 102 a) (sI σ 102 b) u8 k8 hB5 ⟨by omega, by omega, by omega, by omega, by omega, by omega, by omega, trivial⟩ ⟨R τ5 102 G5 a, R τ5 102 G5 b, trivial⟩ ?_
                intro τ6 y6 u9 k9 hB6 F6 _ _ _ _
                have G6 : FQ [] σ τ6 := G5.tr F6
                refine Ok.ic rfl rfl (by omega) (by omega) (by omega) (by omega) (fun h => ?_) (fun h => ?_)
                · have h4 : sI σ 102 a ≠ sI σ 102 b := h
                  refine la_72 S i j a b u9 k9 hB6 ⟨by omega, by omega, by omega, by omega, by omega, trivial⟩ ?_
                  intro τ7 y7 hB7 F7 _ _ _ _
                  refine next τ7 _ _ _ rfl rfl rfl hB7 (G6.tr F7) (fun _ _ => ?_)
                  rw [xe, decide_eq_false h1, decide_eq_false h2, decide_eq_false h3, decide_eq_false h4]
                  exact Bool.and_false _
                · have h : sI σ 102 a = sI σ 102 b := h
                  exact m70 τ6 u9 k9 hB6 G6 (sh true (by rw [decide_eq_true h, Bool.or_true]))
        · intro τ2 y2 z4 z5 z6 e4 e5 e6 hB2 F2 f2 _ d2 _
          have hb : Nat.testBit S j = false := bitF (x := (S : Int)) (i := (j : Int)) ⟨by omega, by omega⟩ ⟨by omega, by omega⟩ d2.2.2.1 d2.2.2.2.1 (by omega)
          exact next τ2 z4 z5 z6 e4 e5 e6 hB2 (F.tr (F1.tr F2)) (fun _ z => by rw [hb] at z; cases z)
  -- outer
  have out : ∀ (N i : Nat) (τ : pm_S) (v3 v4 v5 v6 : Value), v3.category = 1 → v4.category = 1 → v5.category = 1 → v6.category = 1 → i + N = m → an_GB pm_B τ → FQ [] σ τ → (∀ a b, b < a → a < i → Nat.testBit S a = true → Nat.testBit S b = true → X a b = false) → Ok 216 6 2 [.ref 93, .int (Int32.ofInt (S : Int)), .int (Int32.ofInt (i : Int)), v3, v4, v5, v6] [] τ (fun r τ => r = some (.int (Int32.ofInt (tvI (cB m X S)))) ∧ an_GB pm_B τ ∧ FQ [] σ τ) := by
    intro N
    induction N with
    | zero =>
      intro i τ v3 v4 v5 v6 c3 c4 c5 c6 hN hB F hJ
      have e55 : cI τ 55 = m := (F.c 55 rfl).trans hX.2.1
      refine la_2 S i m v3 v4 v5 v6 c3 c4 c5 c6 hB ⟨by omega, by omega, by omega, trivial⟩ ⟨e55, trivial⟩ ?_
      intro τ1 y1 w3 w4 w5 w6 d3 d4 d5 d6 hB1 F1 _ _ _ _
      refine Ok.ic rfl rfl (by omega) (by omega) (by omega) (by omega) (fun h => ?_) (fun h => ?_)
      · refine la_91 S i w3 w4 w5 w6 d3 d4 d5 d6 hB1 ⟨by omega, by omega, trivial⟩ ?_
        intro τ2 y2 hB2 F2 _ _ _ _
        refine ⟨?_, hB2, F.tr (F1.tr F2)⟩
        rw [tvI_y (are_end hs hr hS (fun a b hb ha => hJ a b hb (by omega)))]
      · exfalso
        have h : (i : Int) < (m : Int) := h
        omega
    | succ N ih =>
      intro i τ v3 v4 v5 v6 c3 c4 c5 c6 hN hB F hJ
      have e55 : cI τ 55 = m := (F.c 55 rfl).trans hX.2.1
      have hi : i < m := by omega
      refine la_2 S i m v3 v4 v5 v6 c3 c4 c5 c6 hB ⟨by omega, by omega, by omega, trivial⟩ ⟨e55, trivial⟩ ?_
      intro τ1 y1 w3 w4 w5 w6 d3 d4 d5 d6 hB1 F1 _ _ _ _
      refine Ok.ic rfl rfl (by omega) (by omega) (by omega) (by omega) (fun h => ?_) (fun h => ?_)
      · exfalso
        have h : (m : Int) ≤ (i : Int) := h
        omega
      · refine la_6 S i w3 w4 w5 w6 d3 d4 d5 d6 hB1 ⟨by omega, by omega, trivial⟩ ?_
        intro τ2 y2 z4 z5 z6 e4 e5 e6 hB2 F2 _ _ _ _
        refine inn i hi _ (fun τ q hB F => ⟨by rw [tvI_n q], hB, F⟩) ?_ i 0 τ2 z4 z5 z6 e4 e5 e6 (by omega) hB2 (F.tr (F1.tr F2)) (fun b hb => absurd hb (Nat.not_lt_zero _))
        intro τ3 u3 u4 u5 u6 k3 k4 k5 k6 hB3 F3 hin
        refine la_89 S i u3 u4 u5 u6 k3 k4 k5 k6 hB3 ⟨by omega, by omega, trivial⟩ ?_
        intro τ4 y4 t3 t4 t5 t6 s3 s4 s5 s6 hB4 F4 _ _ _ _
        refine ih (i + 1) τ4 t3 t4 t5 t6 s3 s4 s5 s6 (by omega) hB4 (F3.tr F4) (fun a b hb ha h1 h2 => ?_)
        by_cases e : a = i
        · rw [e] at h1 hb ⊢
          exact hin b hb h1 h2
        · exact hJ a b hb (by omega) h1 h2
  refine Sp.at rfl rfl ?_
  refine la_0 S _ _ _ _ _ rfl rfl rfl rfl rfl hB ⟨by omega, trivial⟩ ?_
  intro τ y v3 v4 v5 v6 c3 c4 c5 c6 hB1 F1 _ _ _ _
  exact out m 0 τ v3 v4 v5 v6 c3 c4 c5 c6 (by omega) hB1 F1 (fun a b _ ha => absurd ha (Nat.not_lt_zero _))
end KMX
