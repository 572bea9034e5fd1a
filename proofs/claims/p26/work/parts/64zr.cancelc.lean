/-! rounds, the class: all of them are cancelled -/
theorem lsF_b {co : Nat → Int32} {R : Nat → Nat} : ∀ n, (∀ i, i < n → 0 ≤ (co (R i)).toInt) → 0 ≤ lsF 1073741824 co R n ∧ lsF 1073741824 co R n ≤ 1073741824
  | 0, _ => by
    show (0 : Int) ≤ 1073741824 ∧ (1073741824 : Int) ≤ 1073741824
    decide
  | n + 1, h => by
    have ih := lsF_b (co := co) (R := R) n (fun i hi => h i (by omega))
    have a := h n (by omega)
    show 0 ≤ min (lsF 1073741824 co R n) (co (R n)).toInt ∧ min (lsF 1073741824 co R n) (co (R n)).toInt ≤ 1073741824
    omega
/-- the coins of a round that has no debt twice -/
theorem cnF_v {su lt : Int32} {R : Nat → Nat} {t : P3} {n i : Nat} (hi : i < n) (hj : ∀ a b, a < n → b < n → R a = R b → a = b) : (cnF su lt R t n).1 (R i) = t.1 (R i) - lt := by
  have step : ∀ m, m ≤ n → (cnF su lt R t m).1 (R i) = if i < m then t.1 (R i) - lt else t.1 (R i) := by
    intro m
    induction m with
    | zero => intro _; exact (if_neg (Nat.not_lt_zero _)).symm
    | succ m ih =>
      intro hm
      have a := ih (by omega)
      have e : (cnF su lt R t (m + 1)).1 (R i) = rup (cnF su lt R t m).1 (R m) ((cnF su lt R t m).1 (R m) - lt) (R i) := by
        show (cn1 su lt (cnF su lt R t m) (R m)).1 (R i) = _
        unfold cn1
        split <;> rfl
      rw [e]
      by_cases c : i = m
      · subst c
        rw [rup_s, a, if_neg (Nat.lt_irrefl _), if_pos (Nat.lt_succ_self _)]
      · rw [rup_n (fun z => c (hj i m hi (by omega) z)), a]
        by_cases w : i < m
        · rw [if_pos w, if_pos (by omega)]
        · rw [if_neg w, if_neg (by omega)]
  rw [step n (Nat.le_refl _), if_pos hi]
theorem cnF_bd {su : Int32} {lt : Int} {R : Nat → Nat} {t : P3} {n : Nat} (hj : ∀ a b, a < n → b < n → R a = R b → a = b) (h0 : 0 ≤ lt) (hl : ∀ i, i < n → lt ≤ (t.1 (R i)).toInt) {d : Nat} (hd : 0 ≤ (t.1 d).toInt ∧ (t.1 d).toInt ≤ 99999) : 0 ≤ ((cnF su (Int32.ofInt lt) R t n).1 d).toInt ∧ ((cnF su (Int32.ofInt lt) R t n).1 d).toInt ≤ 99999 := by
  by_cases c : ∃ i, i < n ∧ R i = d
  · obtain ⟨i, hi, rfl⟩ := c
    have l := hl i hi
    rw [cnF_v hi hj, Int32.toInt_sub, ti_of (by omega) (by omega), Int.bmod_eq_of_le (by omega) (by omega)]
    omega
  · rw [(cnF_o n (fun i hi e => c ⟨i, hi, e⟩)).1]
    exact hd
/-- what is counted, is counted from anywhere -/
theorem cnF_sh (su lt : Int32) (R : Nat → Nat) (a b c : Nat → Int32) (m : Nat) : ∀ i, cnF su lt R (a, b, c, m) i = ((cnF su lt R (a, b, c, 0) i).1, (cnF su lt R (a, b, c, 0) i).2.1, (cnF su lt R (a, b, c, 0) i).2.2.1, m + (cnF su lt R (a, b, c, 0) i).2.2.2)
  | 0 => rfl
  | i + 1 => by
    have ih := cnF_sh su lt R a b c m i
    show cn1 su lt (cnF su lt R (a, b, c, m) i) (R i) = ((cn1 su lt (cnF su lt R (a, b, c, 0) i) (R i)).1, (cn1 su lt (cnF su lt R (a, b, c, 0) i) (R i)).2.1, (cn1 su lt (cnF su lt R (a, b, c, 0) i) (R i)).2.2.1, m + (cn1 su lt (cnF su lt R (a, b, c, 0) i) (R i)).2.2.2)
    rw [ih]
    unfold cn1
    dsimp only
    split
    · rfl
    · rfl
abbrev FCr : List (Nat × Nat) := [(16, 9999), (19, 9999), (20, 9999)]
section CAR
variable {σ : pm_S} {D n : Nat} {R : Nat → Nat}
abbrev lsK (σ : pm_S) (R : Nat → Nat) (n : Nat) : Int := lsF 1073741824 (σ.1 16) R n
abbrev cnK (σ : pm_S) (R : Nat → Nat) (n : Nat) : Nat → P3 := cnF (σ.1 1 1) (Int32.ofInt (lsK σ R n)) R (σ.1 16, σ.1 19, σ.1 20, 0)
set_option maxRecDepth 20000 in
theorem x_car (hD : D ≤ 30) (eD : sI σ 13 0 = (D : Int)) (hn : 1 ≤ n ∧ n ≤ 10) (e5 : sI σ 74 5 = (n : Int)) (hr : rwR R n (sI σ 78)) (hl : ∀ j, j < n → R j < D) (hc : ∀ d, d < D → 0 ≤ sI σ 16 d ∧ sI σ 16 d ≤ 99999) (hB0 : an_GB pm_B σ) : Sp 103 8 [.ref 74] σ (fun r τ => r = some (.int (Int32.ofInt (((cnK σ R n n).2.2.2 : Nat) : Int))) ∧ an_GB pm_B τ ∧ FQ FCr σ τ ∧ τ.1 16 = (cnK σ R n n).1 ∧ τ.1 19 = (cnK σ R n n).2.1 ∧ τ.1 20 = (cnK σ R n n).2.2.1) := by
  have hcR : ∀ i, i < n → 0 ≤ (σ.1 16 (R i)).toInt ∧ (σ.1 16 (R i)).toInt ≤ 99999 := fun i hi => hc (R i) (hl i hi)
  have lb : 0 ≤ lsK σ R n ∧ lsK σ R n ≤ 99999 := by
    have a := lsF_b (co := σ.1 16) (R := R) n (fun i hi => (hcR i hi).1)
    have b := lsF_le 1073741824 (σ.1 16) R n 0 (by omega)
    have c := hcR 0 (by omega)
    exact ⟨a.1, by show lsF 1073741824 (σ.1 16) R n ≤ 99999; omega⟩
  -- paying
  have l2 : ∀ (k i : Nat) (τ : pm_S) (v4 : Value), i + k = n → v4.category = 1 → an_GB pm_B τ → FQ FCr σ τ → τ.1 16 = (cnK σ R n i).1 → τ.1 19 = (cnK σ R n i).2.1 → τ.1 20 = (cnK σ R n i).2.2.1 → Ok 103 8 26 [.ref 74, .int (Int32.ofInt (lsK σ R n)), .int (Int32.ofInt (((cnK σ R n i).2.2.2 : Nat) : Int)), .int (Int32.ofInt (i : Int)), v4] [] τ (fun r τ => r = some (.int (Int32.ofInt (((cnK σ R n n).2.2.2 : Nat) : Int))) ∧ an_GB pm_B τ ∧ FQ FCr σ τ ∧ τ.1 16 = (cnK σ R n n).1 ∧ τ.1 19 = (cnK σ R n n).2.1 ∧ τ.1 20 = (cnK σ R n n).2.2.1) := by
    intro k
    induction k with
    | zero =>
      intro i τ v4 hi c4 hB F r16 r19 r20
      have pn : (cnK σ R n i).2.2.2 ≤ 0 + i := cnF_n _ _ _ _ i
      refine rf_c26 (lsK σ R n) ((cnK σ R n i).2.2.2 : Nat) i n v4 c4 hB ⟨lb, by omega, by omega, by omega, trivial⟩ ⟨(congrArg Int32.toInt (F 74 5 rfl)).trans e5, trivial⟩ ?_
      intro τ1 y1 w4 k4 hB1 F1 _ _ _ _
      refine Ok.ic rfl rfl (by omega) (by omega) (by omega) (by omega) (fun g => ?_) (fun g => ?_)
      · refine rf_c64 (lsK σ R n) ((cnK σ R n i).2.2.2 : Nat) _ w4 rfl k4 hB1 ⟨lb, by omega, trivial⟩ ?_
        intro τ2 y2 hB2 F2 _ _ _ _
        have G : FQ [] τ τ2 := FQ.tr F1 F2
        have e : i = n := by omega
        have q16 := (row_fq G (P := 16) rfl).trans r16
        have q19 := (row_fq G (P := 19) rfl).trans r19
        have q20 := (row_fq G (P := 20) rfl).trans r20
        rw [e] at q16 q19 q20 ⊢
        exact ⟨rfl, hB2, FQ.tr F (FQ.up (G := []) rfl G), q16, q19, q20⟩
      · have g : (i : Int) < (n : Int) := g
        exfalso
        omega
    | succ k ih =>
      intro i τ v4 hi c4 hB F r16 r19 r20
      have pn : (cnK σ R n i).2.2.2 ≤ 0 + i := cnF_n _ _ _ _ i
      have hin : i < n := by omega
      have hR := hl i hin
      have ei : ((i : Int)).toNat = i := by omega
      have eR : ((R i : Nat) : Int).toNat = R i := by omega
      refine rf_c26 (lsK σ R n) ((cnK σ R n i).2.2.2 : Nat) i n v4 c4 hB ⟨lb, by omega, by omega, by omega, trivial⟩ ⟨(congrArg Int32.toInt (F 74 5 rfl)).trans e5, trivial⟩ ?_
      intro τ1 y1 w4 k4 hB1 F1 _ _ _ _
      refine Ok.ic rfl rfl (by omega) (by omega) (by omega) (by omega) (fun g => ?_) (fun g => ?_)
      · have g : (n : Int) ≤ (i : Int) := g
        exfalso
        omega
      have G1 : FQ FCr σ τ1 := FQ.tr F (FQ.up (G := []) rfl F1)
      have q16 : τ1.1 16 = (cnK σ R n i).1 := (row_fq F1 rfl).trans r16
      refine rf_c30 (lsK σ R n) ((cnK σ R n i).2.2.2 : Nat) i ((R i : Nat) : Int) ((cnK σ R n i).1 (R i)).toInt w4 k4 hB1 ⟨lb, by omega, by omega, by omega, ai_rng _, trivial⟩ ⟨by rw [ei]; exact (congrArg Int32.toInt (G1 78 i rfl)).trans (hr i hin), by rw [eR, q16], trivial⟩ ?_
      intro τ2 y2 hB2 F2 _ _ d2 _
      have e2 : Int32.ofInt (y2 5) = (cnK σ R n i).1 (R i) - Int32.ofInt (lsK σ R n) := by
        rw [← d2.1, oI, oI]
        rfl
      rw [e2]
      refine Ok.ast (n := 30) rfl rfl rfl (by decide) (by omega) (by omega) ?_
      rw [eR]
      have hB3 : an_GB pm_B (put τ2 16 (R i) ((cnK σ R n i).1 (R i) - Int32.ofInt (lsK σ R n))) := put_GB hB2 (ai_rng _)
      have P3' : FQ [(16, 9999)] τ2 (put τ2 16 (R i) ((cnK σ R n i).1 (R i) - Int32.ofInt (lsK σ R n))) := FQ.put rfl
      have R3 : (put τ2 16 (R i) ((cnK σ R n i).1 (R i) - Int32.ofInt (lsK σ R n))).1 16 = rup (cnK σ R n i).1 (R i) ((cnK σ R n i).1 (R i) - Int32.ofInt (lsK σ R n)) := by rw [row_put, row_fq F2 rfl, q16]
      generalize put τ2 16 (R i) ((cnK σ R n i).1 (R i) - Int32.ofInt (lsK σ R n)) = τ3 at hB3 P3' R3 ⊢
      have g3 : FQ [(16, 9999)] τ τ3 := FQ.tr (FQ.up (G := []) rfl (FQ.tr F1 F2)) P3'
      have G3 : FQ FCr σ τ3 := FQ.tr F (FQ.up (G := [(16, 9999)]) rfl g3)
      have q19 : τ3.1 19 = (cnK σ R n i).2.1 := (row_fq g3 rfl).trans r19
      have q20 : τ3.1 20 = (cnK σ R n i).2.2.1 := (row_fq g3 rfl).trans r20
      refine rf_c45 (lsK σ R n) ((cnK σ R n i).2.2.2 : Nat) i ((R i : Nat) : Int) ((cnK σ R n i).1 (R i) - Int32.ofInt (lsK σ R n)).toInt (sI σ 1 1) hB3 ⟨lb, by omega, by omega, by omega, ai_rng _, ai_rng _, trivial⟩ ⟨by rw [eR, R3, rup_s], congrArg Int32.toInt (G3 1 1 rfl), trivial⟩ ?_ ?_
      · intro τ4 y4 hB4 F4 _ r4 _ _
        have ne : ¬ (cnK σ R n i).1 (R i) - Int32.ofInt (lsK σ R n) = 0 := fun z => r4.1 (by rw [z]; rfl)
        have e : cnK σ R n (i + 1) = (rup (cnK σ R n i).1 (R i) ((cnK σ R n i).1 (R i) - Int32.ofInt (lsK σ R n)), (cnK σ R n i).2.1, (cnK σ R n i).2.2.1, (cnK σ R n i).2.2.2) := if_neg ne
        rw [show (i : Int) + 1 = ((i + 1 : Nat) : Int) by omega, show (((cnK σ R n i).2.2.2 : Nat) : Int) = (((cnK σ R n (i + 1)).2.2.2 : Nat) : Int) by rw [e]]
        refine ih (i + 1) τ4 _ (by omega) rfl hB4 (FQ.tr G3 (FQ.up (G := []) rfl F4)) ?_ ?_ ?_
        · rw [e]
          exact (row_fq F4 rfl).trans R3
        · rw [e]
          exact (row_fq F4 rfl).trans q19
        · rw [e]
          exact (row_fq F4 rfl).trans q20
      · intro τ4 y4 hB4 F4 f4 _ _ _
        have f := f4.2.2.2.2.1
        have ze : (cnK σ R n i).1 (R i) - Int32.ofInt (lsK σ R n) = 0 := Int32.toInt_inj.mp (by show _ = (0 : Int); omega)
        have e : cnK σ R n (i + 1) = (rup (cnK σ R n i).1 (R i) ((cnK σ R n i).1 (R i) - Int32.ofInt (lsK σ R n)), rup (cnK σ R n i).2.1 (R i) (σ.1 1 1), rup (cnK σ R n i).2.2.1 (R i) 2, (cnK σ R n i).2.2.2 + 1) := if_pos ze
        have G4 : FQ FCr σ τ4 := FQ.tr G3 (FQ.up (G := []) rfl F4)
        refine Ok.cv rfl rfl rfl rfl rfl rfl rfl ?_
        refine (x_clD (R i) D (sI σ 1 1) 2 hD hR (ai_rng _) (by decide) ((congrArg Int32.toInt (G4 13 0 rfl)).trans eD) hB4).use (by decide) (fun r τ5 q => ?_)
        obtain ⟨rfl, hB5, F5, s19, s20⟩ := q
        refine rf_c61 (lsK σ R n) ((cnK σ R n i).2.2.2 : Nat) i ((R i : Nat) : Int) hB5 ⟨lb, by omega, by omega, by omega, trivial⟩ ?_
        intro τ6 y6 hB6 F6 _ _ _ _
        rw [show (i : Int) + 1 = ((i + 1 : Nat) : Int) by omega, show (((cnK σ R n i).2.2.2 : Nat) : Int) + 1 = (((cnK σ R n (i + 1)).2.2.2 : Nat) : Int) by rw [e]; show _ = (((cnK σ R n i).2.2.2 + 1 : Nat) : Int); omega]
        refine ih (i + 1) τ6 _ (by omega) rfl hB6 (FQ.tr G4 (FQ.tr (FQ.up (G := [(19, 9999), (20, 9999)]) rfl F5) (FQ.up (G := []) rfl F6))) ?_ ?_ ?_
        · rw [e, row_fq F6 rfl, row_fq F5 rfl, row_fq F4 rfl, R3]
        · rw [e, row_fq F6 rfl, s19, row_fq F4 rfl, q19, oI]
        · rw [e, row_fq F6 rfl, s20, row_fq F4 rfl, q20]
          rfl
  -- the least
  have l1 : ∀ (k i : Nat) (τ : pm_S) (v3 v4 : Value), i + k = n → v3.category = 1 → v4.category = 1 → an_GB pm_B τ → FQ [] σ τ → Ok 103 8 4 [.ref 74, .int (Int32.ofInt (lsK σ R i)), .int (Int32.ofInt (i : Int)), v3, v4] [] τ (fun r τ => r = some (.int (Int32.ofInt (((cnK σ R n n).2.2.2 : Nat) : Int))) ∧ an_GB pm_B τ ∧ FQ FCr σ τ ∧ τ.1 16 = (cnK σ R n n).1 ∧ τ.1 19 = (cnK σ R n n).2.1 ∧ τ.1 20 = (cnK σ R n n).2.2.1) := by
    intro k
    induction k with
    | zero =>
      intro i τ v3 v4 hi c3 c4 hB F
      have e : i = n := by omega
      subst e
      refine rf_c4 (lsK σ R i) i i v3 v4 c3 c4 hB ⟨by omega, by omega, by omega, trivial⟩ ⟨(congrArg Int32.toInt (F 74 5 rfl)).trans e5, trivial⟩ ?_
      intro τ1 y1 w3 w4 k3 k4 hB1 F1 _ _ _ _
      refine Ok.ic rfl rfl (by omega) (by omega) (by omega) (by omega) (fun g => ?_) (fun g => ?_)
      · refine rf_c22 (lsK σ R i) _ w3 w4 rfl k3 k4 hB1 ⟨lb, trivial⟩ ?_
        intro τ2 y2 w5 k5 hB2 F2 _ _ _ _
        have G : FQ [] σ τ2 := FQ.tr F (FQ.tr F1 F2)
        exact l2 i 0 τ2 w5 (Nat.zero_add _) k5 hB2 (FQ.up (G := []) rfl G) (row_fq G rfl) (row_fq G rfl) (row_fq G rfl)
      · have g : (i : Int) < (i : Int) := g
        exfalso
        omega
    | succ k ih =>
      intro i τ v3 v4 hi c3 c4 hB F
      have hin : i < n := by omega
      have hR := hl i hin
      have cR := hcR i hin
      have ei : ((i : Int)).toNat = i := by omega
      have eR : ((R i : Nat) : Int).toNat = R i := by omega
      have b : 0 ≤ lsK σ R i ∧ lsK σ R i ≤ 1073741824 := lsF_b i (fun j hj => (hcR j (by omega)).1)
      refine rf_c4 (lsK σ R i) i n v3 v4 c3 c4 hB ⟨b, by omega, by omega, trivial⟩ ⟨(congrArg Int32.toInt (F 74 5 rfl)).trans e5, trivial⟩ ?_
      intro τ1 y1 w3 w4 k3 k4 hB1 F1 _ _ _ _
      refine Ok.ic rfl rfl (by omega) (by omega) (by omega) (by omega) (fun g => ?_) (fun g => ?_)
      · have g : (n : Int) ≤ (i : Int) := g
        exfalso
        omega
      have G1 : FQ [] σ τ1 := FQ.tr F F1
      refine rf_c8 (lsK σ R i) i ((R i : Nat) : Int) (σ.1 16 (R i)).toInt w3 w4 k3 k4 hB1 ⟨b, by omega, by omega, cR, trivial⟩ ⟨by rw [ei]; exact (congrArg Int32.toInt (G1 78 i rfl)).trans (hr i hin), by rw [eR]; exact congrArg Int32.toInt (G1 16 _ rfl), trivial⟩ ?_
      intro τ2 y2 w5 w6 k5 k6 hB2 F2 _ _ d _
      have e4 : y2 4 = lsK σ R (i + 1) := zbM (a := lsK σ R i) (b := (σ.1 16 (R i)).toInt) ⟨by omega, by omega⟩ ⟨by omega, by omega⟩ d.1
      rw [e4, show (i : Int) + 1 = ((i + 1 : Nat) : Int) by omega]
      exact ih (i + 1) τ2 w5 w6 (by omega) k5 k6 hB2 (FQ.tr G1 F2)
  refine Sp.at rfl rfl ?_
  refine rf_c0 _ _ _ _ rfl rfl rfl rfl hB0 ?_
  intro τ1 y1 w3 w4 k3 k4 hB1 F1 _ _ _ _
  exact l1 n 0 τ1 w3 w4 (Nat.zero_add _) k3 k4 hB1 F1
end CAR
section W2D
variable {σ : pm_S} {D : Nat}
set_option maxRecDepth 20000 in
/-- the spots with two debts at least -/
theorem x_w2d (hD : D ≤ 30) (eD : sI σ 13 0 = (D : Int)) (hB0 : an_GB pm_B σ) : Sp 97 7 [.ref 74] σ (fun r τ => (∃ m : Nat, r = some (.int (Int32.ofInt (m : Int))) ∧ m < 1024 ∧ ∀ s, s < 10 → ¬ Nat.testBit m s = true → ∀ d d', cEs σ D s d → cEs σ D s d' → d = d') ∧ an_GB pm_B τ ∧ FQ [] σ τ) := by
  have lp : ∀ (k d o w : Nat) (τ : pm_S) (v4 : Value), d + k = D → v4.category = 1 → an_GB pm_B τ → FQ [] σ τ → o < 1024 → w < 1024 → (∀ s, s < 10 → ∀ i, i < d → ebC σ s i = true → Nat.testBit o s = true) → (∀ s, s < 10 → ∀ i j, i < j → j < d → ebC σ s i = true → ebC σ s j = true → Nat.testBit w s = true) → Ok 97 7 6 [.ref 74, .int (Int32.ofInt (o : Int)), .int (Int32.ofInt (w : Int)), .int (Int32.ofInt (d : Int)), v4] [] τ (fun r τ => (∃ m : Nat, r = some (.int (Int32.ofInt (m : Int))) ∧ m < 1024 ∧ ∀ s, s < 10 → ¬ Nat.testBit m s = true → ∀ d d', cEs σ D s d → cEs σ D s d' → d = d') ∧ an_GB pm_B τ ∧ FQ [] σ τ) := by
    intro k
    induction k with
    | zero =>
      intro d o w τ v4 hd c4 hB F ho hw h1 h2
      refine rf_w6 o w d D v4 c4 hB ⟨by omega, by omega, by omega, by omega, trivial⟩ ⟨(congrArg Int32.toInt (F 13 0 rfl)).trans eD, trivial⟩ ?_
      intro τ1 y1 w4 k4 hB1 F1 _ _ _ _
      refine Ok.ic rfl rfl (by omega) (by omega) (by omega) (by omega) (fun g => ?_) (fun g => ?_)
      · refine rf_w37 o w _ w4 rfl k4 hB1 ⟨by omega, by omega, trivial⟩ ?_
        intro τ2 y2 hB2 F2 _ _ _ _
        refine ⟨⟨w, rfl, hw, fun s hs nb i j hi hj => ?_⟩, hB2, FQ.tr F (FQ.tr F1 F2)⟩
        have a := cE_i.mp hi
        have b := cE_i.mp hj
        rcases Nat.lt_trichotomy i j with x | x | x
        · exact absurd (h2 s hs i j x (by omega) a.2 b.2) nb
        · exact x
        · exact absurd (h2 s hs j i x (by omega) b.2 a.2) nb
      · have g : (d : Int) < (D : Int) := g
        exfalso
        omega
    | succ k ih =>
      intro d o w τ v4 hd c4 hB F ho hw h1 h2
      have hdD : d < D := by omega
      have ed : ((d : Int)).toNat = d := by omega
      have b17 : 0 ≤ sI σ 17 d ∧ sI σ 17 d ≤ 9 := hB0 17 d (show d < 30 by omega)
      have i17 : sI σ 17 d = ((nt (σ.1 17) d : Nat) : Int) := nt_i b17.1
      refine rf_w6 o w d D v4 c4 hB ⟨by omega, by omega, by omega, by omega, trivial⟩ ⟨(congrArg Int32.toInt (F 13 0 rfl)).trans eD, trivial⟩ ?_
      intro τ1 y1 w4 k4 hB1 F1 _ _ _ _
      refine Ok.ic rfl rfl (by omega) (by omega) (by omega) (by omega) (fun g => ?_) (fun g => ?_)
      · have g : (D : Int) ≤ (d : Int) := g
        exfalso
        omega
      refine rf_w12 o w d w4 k4 hB1 ⟨by omega, by omega, by omega, trivial⟩ ?_
      intro τ2 y2 w5 k5 hB2 F2 _ _ _ _
      have G2 : FQ [] σ τ2 := FQ.tr F (FQ.tr F1 F2)
      refine Ok.cv rfl rfl rfl rfl rfl rfl rfl ?_
      refine (x_bst d D hD hdD ((congrArg Int32.toInt (G2 13 0 rfl)).trans eD) hB2).use (by decide) (fun r τ3 q => ?_)
      obtain ⟨rfl, hB3, F3⟩ := q
      have G3 : FQ [] σ τ3 := FQ.tr G2 F3
      rw [bsC_fq G2 rfl rfl rfl rfl, show τ2.1 20 d = σ.1 20 d from G2 20 d rfl]
      have w01 : 0 ≤ (if (decide (σ.1 20 d = 0) && bsC σ d) = true then (1 : Int) else 0) ∧ (if (decide (σ.1 20 d = 0) && bsC σ d) = true then (1 : Int) else 0) ≤ 1 := by split <;> decide
      refine rf_w15 o w d (if (decide (σ.1 20 d = 0) && bsC σ d) = true then 1 else 0) ((nt (σ.1 17) d : Nat) : Int) w5 k5 hB3 ⟨by omega, by omega, by omega, w01, by omega, trivial⟩ ⟨by rw [ed]; exact (congrArg Int32.toInt (G3 17 d rfl)).trans i17, trivial⟩ ?_ ?_
      · intro τ4 y4 w6 k6 hB4 F4 f _ _ _
        have f3 := f.2.2.2.1
        have e : (decide (σ.1 20 d = 0) && bsC σ d) = false := by
          cases h : (decide (σ.1 20 d = 0) && bsC σ d) with
          | false => rfl
          | true =>
            rw [h, if_pos rfl] at f3
            exfalso
            omega
        have ez : ∀ s, ¬ ebC σ s d = true := fun s z => by
          unfold ebC at z
          rw [e, Bool.and_false] at z
          cases z
        rw [show (d : Int) + 1 = ((d + 1 : Nat) : Int) by omega]
        refine ih (d + 1) o w τ4 w6 (by omega) k6 hB4 (FQ.tr G3 F4) ho hw (fun s hs i hi z => ?_) (fun s hs i j hij hj z1 z2 => ?_)
        · by_cases c : i = d
          · rw [c] at z
            exact absurd z (ez s)
          · exact h1 s hs i (by omega) z
        · by_cases c : j = d
          · rw [c] at z2
            exact absurd z2 (ez s)
          · exact h2 s hs i j hij (by omega) z1 z2
      · intro τ4 y4 hB4 F4 f _ dd _
        have hp : nt (σ.1 17) d < 10 := by omega
        have a5 := zbS hp dd.1
        have d6 := dd.2.1
        rw [a5] at d6
        have a6 := zbA ho d6
        have d7 := dd.2.2.1
        rw [a6.1] at d7
        have a7 := zbO hw a6.2 d7
        have d8 := dd.2.2.2.1
        rw [a5] at d8
        have a8 := zbO ho (zbp hp) d8
        rw [a8.1, a7.1, show (d : Int) + 1 = ((d + 1 : Nat) : Int) by omega]
        have pl : ∀ s, ebC σ s d = true → nt (σ.1 17) d = s := fun s z => by
          unfold ebC at z
          rw [Bool.and_eq_true] at z
          have z1 : sI σ 17 d = (s : Int) := of_decide_eq_true z.1
          omega
        refine ih (d + 1) _ _ τ4 _ (by omega) rfl hB4 (FQ.tr G3 F4) a8.2 a7.2 (fun s hs i hi z => ?_) (fun s hs i j hij hj z1 z2 => ?_)
        · rw [zbor, zb2]
          by_cases c : i = d
          · rw [c] at z
            exact Or.inr (pl s z)
          · exact Or.inl (h1 s hs i (by omega) z)
        · rw [zbor]
          by_cases c : j = d
          · rw [c] at z2 hij
            refine Or.inr ?_
            rw [Nat.testBit_and, Bool.and_eq_true]
            exact ⟨h1 s hs i hij z1, zb2.mpr (pl s z2)⟩
          · exact Or.inl (h2 s hs i j hij (by omega) z1 z2)
  refine Sp.at rfl rfl ?_
  refine rf_w0 _ _ _ _ rfl rfl rfl rfl hB0 ?_
  intro τ1 y1 w4 k4 hB1 F1 _ _ _ _
  exact lp D 0 0 0 τ1 w4 (Nat.zero_add _) k4 hB1 F1 (by decide) (by decide) (fun s hs i hi => absurd hi (Nat.not_lt_zero _)) (fun s hs i j hij hj => absurd hj (Nat.not_lt_zero _))
end W2D
