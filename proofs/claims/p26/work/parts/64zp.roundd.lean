/-! rounds, the class: which debts count on a spot, the first of the shortest rounds -/
/-- may a debt be in a round of a spot -/
abbrev ebC (σ : pm_S) (s d : Nat) : Bool := decide (sI σ 17 d = (s : Int)) && (decide (σ.1 20 d = 0) && bsC σ d)
abbrev cEs (σ : pm_S) (D s : Nat) : Nat → Prop := eR (bsC σ) (σ.1 17) (σ.1 20) D s
theorem cE_i {σ : pm_S} {D s d : Nat} : cEs σ D s d ↔ d < D ∧ ebC σ s d = true := by
  constructor
  · rintro ⟨a, b, c, e⟩
    exact ⟨a, Bool.and_eq_true_iff.mpr ⟨decide_eq_true e, Bool.and_eq_true_iff.mpr ⟨decide_eq_true b, c⟩⟩⟩
  · rintro ⟨a, q⟩
    obtain ⟨e, q⟩ := Bool.and_eq_true_iff.mp q
    obtain ⟨b, c⟩ := Bool.and_eq_true_iff.mp q
    exact ⟨a, of_decide_eq_true b, c, of_decide_eq_true e⟩
/-- the debts that count, as kept -/
abbrev ctR (E : Nat → Prop) (D : Nat) (ct : Nat → Int) : Prop := ∀ d, d < D → (ct d = 0 ∧ ¬ E d) ∨ (ct d = 1 ∧ E d)
abbrev FNo : List (Nat × Nat) := [(76, 9999), (77, 9999)]
theorem bsC_fq {σ τ : pm_S} {G : List (Nat × Nat)} (F : FQ G σ τ) (h12 : an_inP G 12 = false) (h14 : an_inP G 14 = false) (h15 : an_inP G 15 = false) (h17 : an_inP G 17 = false) : bsC τ = bsC σ := funext fun d => by
  show (decide (sI τ 12 (sI τ 14 d).toNat = sI τ 17 d) && decide (sI τ 12 (sI τ 15 d).toNat = sI τ 17 d)) = (decide (sI σ 12 (sI σ 14 d).toNat = sI σ 17 d) && decide (sI σ 12 (sI σ 15 d).toNat = sI σ 17 d))
  unfold sI
  rw [row_fq F h12, row_fq F h14, row_fq F h15, row_fq F h17]
/-- who owes whom, of the first i debts -/
def owI (σ : pm_S) (s i : Nat) (ow : Nat → Int) : Prop := ∀ p, p < 10 → 0 ≤ ow p ∧ ow p ≤ 1023 ∧ ∀ q, q < 10 → (Nat.testBit (ow p).toNat q = true ↔ ∃ d, d < i ∧ ebC σ s d = true ∧ nt (σ.1 14) d = p ∧ nt (σ.1 15) d = q)
theorem owI_n {σ : pm_S} {s i : Nat} {ow : Nat → Int} (h : owI σ s i ow) (e : ebC σ s i = false) : owI σ s (i + 1) ow := fun p hp => ⟨(h p hp).1, (h p hp).2.1, fun q hq => by
  rw [(h p hp).2.2 q hq]
  constructor
  · rintro ⟨d, a, b⟩
    exact ⟨d, by omega, b⟩
  · rintro ⟨d, a, b, c⟩
    by_cases z : d = i
    · rw [z, e] at b
      cases b
    · exact ⟨d, by omega, b, c⟩⟩
theorem owI_y {σ : pm_S} {s i : Nat} {ow ow' : Nat → Int} (h : owI σ s i ow) (e : ebC σ s i = true) (hc : nt (σ.1 15) i < 10) (h1 : ∀ p, p ≠ nt (σ.1 14) i → ow' p = ow p) (h2 : ow' (nt (σ.1 14) i) = (((ow (nt (σ.1 14) i)).toNat ||| 2 ^ nt (σ.1 15) i : Nat) : Int)) : owI σ s (i + 1) ow' := fun p hp => by
  have a := h p hp
  by_cases z : p = nt (σ.1 14) i
  · rw [← z] at h2
    have l : (ow p).toNat ||| 2 ^ nt (σ.1 15) i < 1024 := Nat.or_lt_two_pow (n := 10) (by omega) (zbp hc)
    rw [h2]
    refine ⟨by omega, by omega, fun q hq => ?_⟩
    rw [Int.toNat_natCast, zbor, zb2, a.2.2 q hq]
    constructor
    · rintro (⟨d, b, c⟩ | b)
      · exact ⟨d, by omega, c⟩
      · exact ⟨i, by omega, e, z.symm, b⟩
    · rintro ⟨d, b, c, g1, g2⟩
      by_cases w : d = i
      · rw [w] at g2
        exact Or.inr g2
      · exact Or.inl ⟨d, by omega, c, g1, g2⟩
  · rw [h1 p z]
    refine ⟨a.1, a.2.1, fun q hq => ?_⟩
    rw [a.2.2 q hq]
    constructor
    · rintro ⟨d, b, c⟩
      exact ⟨d, by omega, c⟩
    · rintro ⟨d, b, c, g1, g2⟩
      by_cases w : d = i
      · rw [w] at g1
        exact absurd g1.symm z
      · exact ⟨d, by omega, c, g1, g2⟩
theorem ltR {E : Nat → Prop} {D : Nat} {ct ct' : Nat → Int} (h : ctR E D ct) (e : ∀ d, ct' d = ct d) : ctR E D ct' := fun d hd => by
  rw [e d]
  exact h d hd
section NOW
variable {σ : pm_S} {s D : Nat}
set_option maxRecDepth 20000 in
theorem x_now (hs : s < 10) (hD : D ≤ 30) (eD : sI σ 13 0 = (D : Int)) (hB0 : an_GB pm_B σ) : Sp 99 7 [.ref 74, .int (Int32.ofInt (s : Int))] σ (fun r τ => r = none ∧ an_GB pm_B τ ∧ FQ FNo σ τ ∧ ctR (cEs σ D s) D (sI τ 76) ∧ owR (cEs σ D s) (nt (σ.1 14)) (nt (σ.1 15)) (sI τ 77)) := by
  have lp : ∀ (k d : Nat) (τ : pm_S), d + k = D → an_GB pm_B τ → FQ FNo σ τ → (∀ i, i < d → sI τ 76 i = if ebC σ s i = true then 1 else 0) → owI σ s d (sI τ 77) → Ok 99 7 6 [.ref 74, .int (Int32.ofInt (s : Int)), .int (Int32.ofInt (d : Int))] [] τ (fun r τ => r = none ∧ an_GB pm_B τ ∧ FQ FNo σ τ ∧ ctR (cEs σ D s) D (sI τ 76) ∧ owR (cEs σ D s) (nt (σ.1 14)) (nt (σ.1 15)) (sI τ 77)) := by
    intro k
    induction k with
    | zero =>
      intro d τ hd hB F hc ho
      refine rf_n6 s d D hB ⟨by omega, by omega, by omega, trivial⟩ ⟨(congrArg Int32.toInt (F 13 0 rfl)).trans eD, trivial⟩ ?_
      intro τ1 y1 hB1 F1 _ _ _ _
      refine Ok.ic rfl rfl (by omega) (by omega) (by omega) (by omega) (fun g => ?_) (fun g => ?_)
      · refine rf_n58 s _ rfl hB1 ⟨by omega, trivial⟩ ?_
        intro τ2 y2 hB2 F2 _ _ _ _
        have G : FQ [] τ τ2 := FQ.tr F1 F2
        have e : d = D := by omega
        subst e
        have e76 : sI τ2 76 = sI τ 76 := funext fun j => congrArg Int32.toInt (G 76 j rfl)
        have e77 : sI τ2 77 = sI τ 77 := funext fun j => congrArg Int32.toInt (G 77 j rfl)
        refine ⟨rfl, hB2, FQ.tr F (FQ.up (G := []) rfl G), ?_, ?_⟩
        · rw [e76]
          intro i hi
          have c := hc i hi
          by_cases z : ebC σ s i = true
          · rw [if_pos z] at c
            exact Or.inr ⟨c, cE_i.mpr ⟨hi, z⟩⟩
          · rw [if_neg z] at c
            exact Or.inl ⟨c, fun w => z (cE_i.mp w).2⟩
        · rw [e77]
          intro p hp
          refine ⟨(ho p hp).1, (ho p hp).2.1, fun q hq => ?_⟩
          rw [(ho p hp).2.2 q hq]
          constructor
          · rintro ⟨i, a, b, c⟩
            exact ⟨i, cE_i.mpr ⟨a, b⟩, c⟩
          · rintro ⟨i, a, c⟩
            exact ⟨i, (cE_i.mp a).1, (cE_i.mp a).2, c⟩
      · have g : (d : Int) < (D : Int) := g
        exfalso
        omega
    | succ k ih =>
      intro d τ hd hB F hc ho
      have hdD : d < D := by omega
      have ed : ((d : Int)).toNat = d := by omega
      have b17 : 0 ≤ sI σ 17 d ∧ sI σ 17 d ≤ 9 := hB0 17 d (show d < 30 by omega)
      have b14 : 0 ≤ sI σ 14 d ∧ sI σ 14 d ≤ 9 := hB0 14 d (show d < 30 by omega)
      have b15 : 0 ≤ sI σ 15 d ∧ sI σ 15 d ≤ 9 := hB0 15 d (show d < 30 by omega)
      refine rf_n6 s d D hB ⟨by omega, by omega, by omega, trivial⟩ ⟨(congrArg Int32.toInt (F 13 0 rfl)).trans eD, trivial⟩ ?_
      intro τ1 y1 hB1 F1 _ _ _ _
      refine Ok.ic rfl rfl (by omega) (by omega) (by omega) (by omega) (fun g => ?_) (fun g => ?_)
      · have g : (D : Int) ≤ (d : Int) := g
        exfalso
        omega
      have G1 : FQ FNo σ τ1 := FQ.tr F (FQ.up (G := []) rfl F1)
      refine rf_n12 s d (sI σ 17 d) hB1 ⟨by omega, by omega, b17, trivial⟩ ⟨by rw [ed]; exact congrArg Int32.toInt (G1 17 d rfl), trivial⟩ ?_
      intro τ2 y2 hB2 F2 _ _ _ _
      have g2 : FQ [] τ τ2 := FQ.tr F1 F2
      -- doesn't count
      have no : ebC σ s d = false → ∀ τ' : pm_S, an_GB pm_B τ' → FQ [] τ τ' → Ok 99 7 30 [.ref 74, .int (Int32.ofInt (s : Int)), .int (Int32.ofInt (d : Int))] [.int (Int32.ofInt 0), .int (Int32.ofInt (d : Int)), .ref 76] τ' (fun r τ => r = none ∧ an_GB pm_B τ ∧ FQ FNo σ τ ∧ ctR (cEs σ D s) D (sI τ 76) ∧ owR (cEs σ D s) (nt (σ.1 14)) (nt (σ.1 15)) (sI τ 77)) := by
        intro ez τ' hB' F'
        refine Ok.bst (n := 30) rfl rfl rfl (by decide) (by omega) (by omega) (Or.inl rfl) ?_
        rw [ed]
        have hB4 : an_GB pm_B (put τ' 76 d (Int32.ofInt 0)) := put_GB hB' (by
          show (0 : Int) ≤ (Int32.ofInt 0).toInt ∧ (Int32.ofInt 0).toInt ≤ 1
          decide)
        have P4 : FQ [(76, 9999)] τ' (put τ' 76 d (Int32.ofInt 0)) := FQ.put rfl
        have v4 : ∀ i, sI (put τ' 76 d (Int32.ofInt 0)) 76 i = if i = d then 0 else sI τ' 76 i := fun i => by
          show ((put τ' 76 d (Int32.ofInt 0)).1 76 i).toInt = _
          rw [put_get]
          by_cases e : i = d
          · rw [if_pos ⟨rfl, e⟩, if_pos e]
            rfl
          · rw [if_neg (fun z => e z.2), if_neg e]
        generalize put τ' 76 d (Int32.ofInt 0) = τ4 at hB4 P4 v4 ⊢
        refine rf_n31f s d hB4 ⟨by omega, by omega, trivial⟩ ⟨by rw [ed]; exact (v4 d).trans (if_pos rfl), trivial⟩ ?_
        intro τ5 y5 hB5 F5 _ _ _ _
        rw [show (d : Int) + 1 = ((d + 1 : Nat) : Int) by omega]
        have e76 : ∀ i, sI τ5 76 i = if i = d then 0 else sI τ 76 i := fun i => by
          rw [show sI τ5 76 i = sI τ4 76 i from congrArg Int32.toInt (F5 76 i rfl), v4 i, show sI τ' 76 i = sI τ 76 i from congrArg Int32.toInt (F' 76 i rfl)]
        have e77 : sI τ5 77 = sI τ 77 := funext fun j => by
          rw [show sI τ5 77 j = sI τ4 77 j from congrArg Int32.toInt (F5 77 j rfl), show sI τ4 77 j = sI τ' 77 j from congrArg Int32.toInt (P4 77 j rfl), show sI τ' 77 j = sI τ 77 j from congrArg Int32.toInt (F' 77 j rfl)]
        refine ih (d + 1) τ5 (by omega) hB5 (FQ.tr F (FQ.tr (FQ.up (G := []) rfl F') (FQ.tr (FQ.up (G := [(76, 9999)]) rfl P4) (FQ.up (G := []) rfl F5)))) (fun i hi => ?_) ?_
        · rw [e76 i]
          by_cases z : i = d
          · rw [if_pos z, z, if_neg (by rw [ez]; decide)]
          · rw [if_neg z]
            exact hc i (by omega)
        · rw [e77]
          exact owI_n ho ez
      have yes : ebC σ s d = true → ∀ τ' : pm_S, an_GB pm_B τ' → FQ [] τ τ' → Ok 99 7 30 [.ref 74, .int (Int32.ofInt (s : Int)), .int (Int32.ofInt (d : Int))] [.int (Int32.ofInt 1), .int (Int32.ofInt (d : Int)), .ref 76] τ' (fun r τ => r = none ∧ an_GB pm_B τ ∧ FQ FNo σ τ ∧ ctR (cEs σ D s) D (sI τ 76) ∧ owR (cEs σ D s) (nt (σ.1 14)) (nt (σ.1 15)) (sI τ 77)) := by
        intro ez τ' hB' F'
        refine Ok.bst (n := 30) rfl rfl rfl (by decide) (by omega) (by omega) (Or.inr rfl) ?_
        rw [ed]
        have hB4 : an_GB pm_B (put τ' 76 d (Int32.ofInt 1)) := put_GB hB' (by
          show (0 : Int) ≤ (Int32.ofInt 1).toInt ∧ (Int32.ofInt 1).toInt ≤ 1
          decide)
        have P4 : FQ [(76, 9999)] τ' (put τ' 76 d (Int32.ofInt 1)) := FQ.put rfl
        have v4 : ∀ i, sI (put τ' 76 d (Int32.ofInt 1)) 76 i = if i = d then 1 else sI τ' 76 i := fun i => by
          show ((put τ' 76 d (Int32.ofInt 1)).1 76 i).toInt = _
          rw [put_get]
          by_cases e : i = d
          · rw [if_pos ⟨rfl, e⟩, if_pos e]
            rfl
          · rw [if_neg (fun z => e z.2), if_neg e]
        generalize put τ' 76 d (Int32.ofInt 1) = τ4 at hB4 P4 v4 ⊢
        have G4 : FQ FNo σ τ4 := FQ.tr F (FQ.tr (FQ.up (G := []) rfl F') (FQ.up (G := [(76, 9999)]) rfl P4))
        have o := ho (nt (σ.1 14) d) (show (sI σ 14 d).toNat < 10 by omega)
        have o77 : sI τ4 77 (sI σ 14 d).toNat = sI τ 77 (sI σ 14 d).toNat := by
          rw [show sI τ4 77 (sI σ 14 d).toNat = sI τ' 77 (sI σ 14 d).toNat from congrArg Int32.toInt (P4 77 _ rfl)]
          exact congrArg Int32.toInt (F' 77 _ rfl)
        refine rf_n31 s d (sI σ 14 d) (sI σ 15 d) (sI τ 77 (sI σ 14 d).toNat) hB4 ⟨by omega, by omega, b14, b15, ⟨o.1, o.2.1⟩, trivial⟩ ⟨by rw [ed]; exact (v4 d).trans (if_pos rfl), by rw [ed]; exact congrArg Int32.toInt (G4 14 d rfl), by rw [ed]; exact congrArg Int32.toInt (G4 15 d rfl), o77, trivial⟩ ?_
        intro τ5 y5 hB5 F5 _ _ d5 _
        have ec : sI σ 15 d = ((nt (σ.1 15) d : Nat) : Int) := by
          show sI σ 15 d = (((sI σ 15 d).toNat : Nat) : Int)
          omega
        have hc10 : nt (σ.1 15) d < 10 := by
          show (sI σ 15 d).toNat < 10
          omega
        have d1 := d5.1
        rw [ec] at d1
        have e5 := zbS hc10 d1
        have d2 := d5.2.1
        rw [e5, show sI τ 77 (sI σ 14 d).toNat = (((sI τ 77 (sI σ 14 d).toNat).toNat : Nat) : Int) by have := o.1; show sI τ 77 (sI σ 14 d).toNat = _; omega] at d2
        have e6 := zbO (by have := o.2.1; have := o.1; show (sI τ 77 (sI σ 14 d).toNat).toNat < 1024; omega) (zbp hc10) d2
        refine Ok.ast (n := 10) rfl rfl rfl (by decide) (by omega) (by omega) ?_
        have hB6 : an_GB pm_B (put τ5 77 (sI σ 14 d).toNat (Int32.ofInt (y5 6))) := put_GB hB5 (ai_rng _)
        have P6 : FQ [(77, 9999)] τ5 (put τ5 77 (sI σ 14 d).toNat (Int32.ofInt (y5 6))) := FQ.put rfl
        have v6 : ∀ p, sI (put τ5 77 (sI σ 14 d).toNat (Int32.ofInt (y5 6))) 77 p = if p = (sI σ 14 d).toNat then y5 6 else sI τ5 77 p := fun p => by
          show ((put τ5 77 (sI σ 14 d).toNat (Int32.ofInt (y5 6))).1 77 p).toInt = _
          rw [put_get]
          by_cases e : p = (sI σ 14 d).toNat
          · rw [if_pos ⟨rfl, e⟩, if_pos e, ti_of (by omega) (by omega)]
          · rw [if_neg (fun z => e z.2), if_neg e]
        generalize put τ5 77 (sI σ 14 d).toNat (Int32.ofInt (y5 6)) = τ6 at hB6 P6 v6 ⊢
        refine rf_n56 s d hB6 ⟨by omega, by omega, trivial⟩ ?_
        intro τ7 y7 hB7 F7 _ _ _ _
        rw [show (d : Int) + 1 = ((d + 1 : Nat) : Int) by omega]
        have e76 : ∀ i, sI τ7 76 i = if i = d then 1 else sI τ 76 i := fun i => by
          rw [show sI τ7 76 i = sI τ6 76 i from congrArg Int32.toInt (F7 76 i rfl), show sI τ6 76 i = sI τ5 76 i from congrArg Int32.toInt (P6 76 i rfl), show sI τ5 76 i = sI τ4 76 i from congrArg Int32.toInt (F5 76 i rfl), v4 i, show sI τ' 76 i = sI τ 76 i from congrArg Int32.toInt (F' 76 i rfl)]
        have e77 : ∀ p, sI τ7 77 p = if p = (sI σ 14 d).toNat then y5 6 else sI τ 77 p := fun p => by
          rw [show sI τ7 77 p = sI τ6 77 p from congrArg Int32.toInt (F7 77 p rfl), v6 p, show sI τ5 77 p = sI τ4 77 p from congrArg Int32.toInt (F5 77 p rfl), show sI τ4 77 p = sI τ' 77 p from congrArg Int32.toInt (P4 77 p rfl), show sI τ' 77 p = sI τ 77 p from congrArg Int32.toInt (F' 77 p rfl)]
        refine ih (d + 1) τ7 (by omega) hB7 (FQ.tr G4 (FQ.tr (FQ.up (G := []) rfl F5) (FQ.tr (FQ.up (G := [(77, 9999)]) rfl P6) (FQ.up (G := []) rfl F7)))) (fun i hi => ?_) ?_
        · rw [e76 i]
          by_cases z : i = d
          · rw [if_pos z, z, if_pos ez]
          · rw [if_neg z]
            exact hc i (by omega)
        · refine owI_y ho ez hc10 (fun p hp => ?_) ?_
          · rw [e77 p]
            exact if_neg hp
          · rw [e77 (nt (σ.1 14) d)]
            exact (if_pos rfl).trans e6.1
      refine Ok.ic rfl rfl (by omega) (by omega) (by omega) (by omega) (fun g => ?_) (fun g => ?_)
      · have g : sI σ 17 d ≠ (s : Int) := g
        refine rf_n29 s d hB2 ⟨by omega, by omega, trivial⟩ ?_
        intro τ3 y3 hB3 F3 _ _ _ _
        refine no ?_ τ3 hB3 (FQ.tr g2 F3)
        unfold ebC
        rw [decide_eq_false g, Bool.false_and]
      · have g : sI σ 17 d = (s : Int) := g
        refine rf_n23 s d hB2 ⟨by omega, by omega, trivial⟩ ?_
        intro τ3 y3 hB3 F3 _ _ _ _
        have G3 : FQ FNo σ τ3 := FQ.tr F (FQ.up (G := []) rfl (FQ.tr g2 F3))
        refine Ok.cv rfl rfl rfl rfl rfl rfl rfl ?_
        refine (x_bst d D hD hdD ((congrArg Int32.toInt (G3 13 0 rfl)).trans eD) hB3).use (by decide) (fun r τ4 q => ?_)
        obtain ⟨rfl, hB4, F4⟩ := q
        have g4 : FQ [] τ τ4 := FQ.tr g2 (FQ.tr F3 F4)
        have eE : ebC σ s d = (decide (τ3.1 20 d = 0) && bsC τ3 d) := by
          unfold ebC
          rw [decide_eq_true g, Bool.true_and, bsC_fq G3 rfl rfl rfl rfl, show τ3.1 20 d = σ.1 20 d from G3 20 d rfl]
        have w01 : 0 ≤ (if (decide (τ3.1 20 d = 0) && bsC τ3 d) = true then (1 : Int) else 0) ∧ (if (decide (τ3.1 20 d = 0) && bsC τ3 d) = true then (1 : Int) else 0) ≤ 1 := by split <;> decide
        refine rf_n26 s d (if (decide (τ3.1 20 d = 0) && bsC τ3 d) = true then 1 else 0) hB4 ⟨by omega, by omega, w01, trivial⟩ ?_ ?_
        · intro τ5 y5 hB5 F5 f _ _ _
          have f3 := f.2.2.1
          refine no ?_ τ5 hB5 (FQ.tr g4 F5)
          rw [eE]
          cases h : (decide (τ3.1 20 d = 0) && bsC τ3 d) with
          | false => rfl
          | true =>
            rw [h, if_pos rfl] at f3
            exfalso
            omega
        · intro τ5 y5 hB5 F5 f _ _ _
          have f3 := f.2.2.1
          refine yes ?_ τ5 hB5 (FQ.tr g4 F5)
          rw [eE]
          cases h : (decide (τ3.1 20 d = 0) && bsC τ3 d) with
          | true => rfl
          | false =>
            rw [h, if_neg (by decide)] at f3
            exfalso
            omega
  refine Sp.at rfl rfl ?_
  refine rf_n0 s _ rfl hB0 ⟨by omega, trivial⟩ ?_
  intro τ1 y1 v2 c2 hB1 F1 _ _ _ _
  refine Ok.cs rfl rfl rfl rfl rfl rfl ?_
  refine (x_fil hB1).use (by decide) (fun r τ2 q => ?_)
  obtain ⟨rfl, hB2, F2, z2⟩ := q
  refine rf_n4 s v2 c2 hB2 ⟨by omega, trivial⟩ ?_
  intro τ3 y3 hB3 F3 _ _ _ _
  refine lp D 0 τ3 (Nat.zero_add _) hB3 (FQ.tr (FQ.up (G := []) rfl F1) (FQ.tr (FQ.up (G := [(77, 9999)]) rfl F2) (FQ.up (G := []) rfl F3))) (fun i hi => absurd hi (Nat.not_lt_zero _)) (fun p hp => ?_)
  have e : sI τ3 77 p = 0 := by
    rw [show sI τ3 77 p = sI τ2 77 p from congrArg Int32.toInt (F3 77 p rfl)]
    exact z2 p hp
  rw [e]
  refine ⟨by decide, by decide, fun q hq => ?_⟩
  constructor
  · intro z
    rw [show ((0 : Int)).toNat = 0 from rfl, Nat.zero_testBit] at z
    cases z
  · rintro ⟨d, a, _⟩
    exact absurd a (Nat.not_lt_zero _)
end NOW
