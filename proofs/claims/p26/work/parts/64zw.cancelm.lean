/-! rounds, the model: they are cancelled -/
abbrev FCmr : List (Nat × Nat) := [(93, 53), (103, 9999), (106, 9999), (107, 9999)]
section MCA
variable {σ : pm_S} {D n c0 : Nat} {R : Nat → Nat}
abbrev lsM (σ : pm_S) (R : Nat → Nat) (n : Nat) : Int := lsF 1073741824 (σ.1 103) R n
abbrev cnM (σ : pm_S) (R : Nat → Nat) (n c0 : Nat) : Nat → P3 := cnF (σ.1 93 19) (Int32.ofInt (lsM σ R n)) R (σ.1 103, σ.1 106, σ.1 107, c0)
set_option maxRecDepth 20000 in
theorem x_mca (hD : D ≤ 30) (hn : 2 ≤ n ∧ n ≤ 10) (e53 : cI σ 53 = (c0 : Int)) (h53 : c0 ≤ 900) (hr : rwR R n (sI σ 124)) (hl : ∀ j, j < n → R j < D) (hj : ∀ a b, a < n → b < n → R a = R b → a = b) (hB0 : an_GB pm_B σ) : Sp 207 4 [.ref 93, .int (Int32.ofInt (n : Int))] σ (fun r τ => r = none ∧ an_GB pm_B τ ∧ FQ FCmr σ τ ∧ τ.1 103 = (cnM σ R n c0 n).1 ∧ τ.1 106 = (cnM σ R n c0 n).2.1 ∧ τ.1 107 = (cnM σ R n c0 n).2.2.1 ∧ cI τ 53 = (((cnM σ R n c0 n).2.2.2 : Nat) : Int)) := by
  have hcR : ∀ i, i < n → 0 ≤ (σ.1 103 (R i)).toInt ∧ (σ.1 103 (R i)).toInt ≤ 99999 := fun i hi => hB0 103 (R i) (show R i < 30 by have := hl i hi; omega)
  have ls1 : ∀ k, 1 ≤ k → k ≤ n → 0 ≤ lsM σ R k ∧ lsM σ R k ≤ 99999 := fun k h1 hk => by
    have a := lsF_b (co := σ.1 103) (R := R) k (fun i hi => (hcR i (by omega)).1)
    have b := lsF_le 1073741824 (σ.1 103) R k 0 (by omega)
    have c := hcR 0 (by omega)
    exact ⟨a.1, by show lsF 1073741824 (σ.1 103) R k ≤ 99999; omega⟩
  have lb := ls1 n (by omega) (Nat.le_refl _)
  have lle : ∀ i, i < n → lsM σ R n ≤ (σ.1 103 (R i)).toInt := fun i hi => lsF_le _ _ _ n i hi
  -- paying
  have l2 : ∀ (k i : Nat) (τ : pm_S), i + k = n → an_GB pm_B τ → FQ FCmr σ τ → τ.1 103 = (cnM σ R n c0 i).1 → τ.1 106 = (cnM σ R n c0 i).2.1 → τ.1 107 = (cnM σ R n c0 i).2.2.1 → cI τ 53 = (((cnM σ R n c0 i).2.2.2 : Nat) : Int) → Ok 207 4 36 [.ref 93, .int (Int32.ofInt (n : Int)), .int (Int32.ofInt (lsM σ R n)), .int (Int32.ofInt (i : Int))] [] τ (fun r τ => r = none ∧ an_GB pm_B τ ∧ FQ FCmr σ τ ∧ τ.1 103 = (cnM σ R n c0 n).1 ∧ τ.1 106 = (cnM σ R n c0 n).2.1 ∧ τ.1 107 = (cnM σ R n c0 n).2.2.1 ∧ cI τ 53 = (((cnM σ R n c0 n).2.2.2 : Nat) : Int)) := by
    intro k
    induction k with
    | zero =>
      intro i τ hi hB F r1 r2 r3 r4
      have e : i = n := by omega
      refine tf_c36 n (lsM σ R n) i hB ⟨by omega, lb, by omega, trivial⟩ ?_
      intro τ1 y1 hB1 F1 _ _ _ _
      refine Ok.ic rfl rfl (by omega) (by omega) (by omega) (by omega) (fun g => ?_) (fun g => ?_)
      · refine tf_c72 n _ _ rfl rfl hB1 ⟨by omega, trivial⟩ ?_
        intro τ2 y2 hB2 F2 _ _ _ _
        have G : FQ [] τ τ2 := FQ.tr F1 F2
        rw [e] at r1 r2 r3 r4
        exact ⟨rfl, hB2, FQ.tr F (FQ.up (G := []) rfl G), (row_fq G rfl).trans r1, (row_fq G rfl).trans r2, (row_fq G rfl).trans r3, (congrArg Int32.toInt (G 93 53 rfl)).trans r4⟩
      · have g : (i : Int) < (n : Int) := g
        exfalso
        omega
    | succ k ih =>
      intro i τ hi hB F r1 r2 r3 r4
      have hin : i < n := by omega
      have hR := hl i hin
      have ei : ((i : Int)).toNat = i := by omega
      have eR : ((R i : Nat) : Int).toNat = R i := by omega
      have pn : (cnM σ R n c0 i).2.2.2 ≤ c0 + i := cnF_n _ _ _ _ i
      have cu : (cnM σ R n c0 i).1 (R i) = σ.1 103 (R i) := (cnF_o i (fun j hji e => by have := hj j i (by omega) hin e; omega)).1
      have cR := hcR i hin
      have le := lle i hin
      refine tf_c36 n (lsM σ R n) i hB ⟨by omega, lb, by omega, trivial⟩ ?_
      intro τ1 y1 hB1 F1 _ _ _ _
      refine Ok.ic rfl rfl (by omega) (by omega) (by omega) (by omega) (fun g => ?_) (fun g => ?_)
      · have g : (n : Int) ≤ (i : Int) := g
        exfalso
        omega
      have G1 : FQ FCmr σ τ1 := FQ.tr F (FQ.up (G := []) rfl F1)
      have q1 : τ1.1 103 = (cnM σ R n c0 i).1 := (row_fq F1 rfl).trans r1
      refine tf_c39 n (lsM σ R n) i ((R i : Nat) : Int) (σ.1 103 (R i)).toInt hB1 ⟨by omega, lb, by omega, by omega, cR, trivial⟩ ⟨by rw [ei]; exact (congrArg Int32.toInt (G1 124 i rfl)).trans (hr i hin), by rw [eR, q1, cu], trivial⟩ ?_
      intro τ2 y2 hB2 F2 _ _ d2 _
      have e2 : Int32.ofInt (y2 5) = (cnM σ R n c0 i).1 (R i) - Int32.ofInt (lsM σ R n) := by
        rw [← d2.1, oI, oI, cu]
        rfl
      have v2 : ((cnM σ R n c0 i).1 (R i) - Int32.ofInt (lsM σ R n)).toInt = (σ.1 103 (R i)).toInt - lsM σ R n := by
        rw [cu, Int32.toInt_sub, ti_of (by omega) (by omega), Int.bmod_eq_of_le (by omega) (by omega)]
      rw [e2]
      refine Ok.ast (n := 30) rfl rfl rfl (by decide) (by omega) (by omega) ?_
      rw [eR]
      have hB3 : an_GB pm_B (put τ2 103 (R i) ((cnM σ R n c0 i).1 (R i) - Int32.ofInt (lsM σ R n))) := put_GB hB2 (show (0 : Int) ≤ ((cnM σ R n c0 i).1 (R i) - Int32.ofInt (lsM σ R n)).toInt ∧ ((cnM σ R n c0 i).1 (R i) - Int32.ofInt (lsM σ R n)).toInt ≤ 99999 by rw [v2]; omega)
      have P3' : FQ [(103, 9999)] τ2 (put τ2 103 (R i) ((cnM σ R n c0 i).1 (R i) - Int32.ofInt (lsM σ R n))) := FQ.put rfl
      have R3 : (put τ2 103 (R i) ((cnM σ R n c0 i).1 (R i) - Int32.ofInt (lsM σ R n))).1 103 = rup (cnM σ R n c0 i).1 (R i) ((cnM σ R n c0 i).1 (R i) - Int32.ofInt (lsM σ R n)) := by rw [row_put, row_fq F2 rfl, q1]
      generalize put τ2 103 (R i) ((cnM σ R n c0 i).1 (R i) - Int32.ofInt (lsM σ R n)) = τ3 at hB3 P3' R3 ⊢
      have g3 : FQ [(103, 9999)] τ τ3 := FQ.tr (FQ.up (G := []) rfl (FQ.tr F1 F2)) P3'
      have G3 : FQ FCmr σ τ3 := FQ.tr F (FQ.up (G := [(103, 9999)]) rfl g3)
      have q2 : τ3.1 106 = (cnM σ R n c0 i).2.1 := (row_fq g3 rfl).trans r2
      have q3 : τ3.1 107 = (cnM σ R n c0 i).2.2.1 := (row_fq g3 rfl).trans r3
      have q4 : cI τ3 53 = (((cnM σ R n c0 i).2.2.2 : Nat) : Int) := (congrArg Int32.toInt (g3 93 53 rfl)).trans r4
      refine tf_c55 n (lsM σ R n) i ((R i : Nat) : Int) ((σ.1 103 (R i)).toInt - lsM σ R n) hB3 ⟨by omega, lb, by omega, by omega, by omega, trivial⟩ ⟨by rw [ei]; exact (congrArg Int32.toInt (G3 124 i rfl)).trans (hr i hin), by rw [eR, R3, rup_s]; exact v2, trivial⟩ ?_ ?_
      · intro τ4 y4 hB4 F4 f _ _ _
        have f4 := f.2.2.2.2.1
        have ne : ¬ (cnM σ R n c0 i).1 (R i) - Int32.ofInt (lsM σ R n) = 0 := fun z => by
          rw [z] at v2
          have v2 : (0 : Int) = (σ.1 103 (R i)).toInt - lsM σ R n := v2
          omega
        have e : cnM σ R n c0 (i + 1) = (rup (cnM σ R n c0 i).1 (R i) ((cnM σ R n c0 i).1 (R i) - Int32.ofInt (lsM σ R n)), (cnM σ R n c0 i).2.1, (cnM σ R n c0 i).2.2.1, (cnM σ R n c0 i).2.2.2) := if_neg ne
        rw [show (i : Int) + 1 = ((i + 1 : Nat) : Int) by omega]
        refine ih (i + 1) τ4 (by omega) hB4 (FQ.tr G3 (FQ.up (G := []) rfl F4)) ?_ ?_ ?_ ?_
        · rw [e]
          exact (row_fq F4 rfl).trans R3
        · rw [e]
          exact (row_fq F4 rfl).trans q2
        · rw [e]
          exact (row_fq F4 rfl).trans q3
        · rw [e]
          exact (congrArg Int32.toInt (F4 93 53 rfl)).trans q4
      · intro τ4 y4 hB4 F4 f _ _ _
        have f4 := f.2.2.2.2.1
        have ze : (cnM σ R n c0 i).1 (R i) - Int32.ofInt (lsM σ R n) = 0 := Int32.toInt_inj.mp (by
          rw [v2]
          show _ = (0 : Int)
          omega)
        have e : cnM σ R n c0 (i + 1) = (rup (cnM σ R n c0 i).1 (R i) ((cnM σ R n c0 i).1 (R i) - Int32.ofInt (lsM σ R n)), rup (cnM σ R n c0 i).2.1 (R i) (σ.1 93 19), rup (cnM σ R n c0 i).2.2.1 (R i) 2, (cnM σ R n c0 i).2.2.2 + 1) := if_pos ze
        have G4 : FQ FCmr σ τ4 := FQ.tr G3 (FQ.up (G := []) rfl F4)
        refine Ok.cv rfl rfl rfl rfl rfl rfl rfl ?_
        refine (x_isp (R i) 2 (((cnM σ R n c0 i).2.2.2 : Nat) : Int) (by omega) (by decide) (by omega) ((congrArg Int32.toInt (F4 93 53 rfl)).trans q4) hB4).use (by decide) (fun r τ5 q => ?_)
        obtain ⟨rfl, hB5, F5, s1, s2, s3⟩ := q
        refine tf_c70 n (lsM σ R n) i hB5 ⟨by omega, lb, by omega, trivial⟩ ?_
        intro τ6 y6 hB6 F6 _ _ _ _
        rw [show (i : Int) + 1 = ((i + 1 : Nat) : Int) by omega]
        refine ih (i + 1) τ6 (by omega) hB6 (FQ.tr G4 (FQ.tr (FQ.up (G := [(93, 53), (106, 9999), (107, 9999)]) rfl F5) (FQ.up (G := []) rfl F6))) ?_ ?_ ?_ ?_
        · rw [e, row_fq F6 rfl, row_fq F5 rfl, row_fq F4 rfl, R3]
        · rw [e, row_fq F6 rfl, s1, row_fq F4 rfl, q2, show τ4.1 93 19 = σ.1 93 19 from G4 93 19 rfl]
        · rw [e, row_fq F6 rfl, s2, row_fq F4 rfl, q3]
          rfl
        · rw [e]
          rw [show cI τ6 53 = cI τ5 53 from congrArg Int32.toInt (F6 93 53 rfl), s3]
          show (((cnM σ R n c0 i).2.2.2 : Nat) : Int) + 1 = (((cnM σ R n c0 i).2.2.2 + 1 : Nat) : Int)
          omega
  -- the least
  have l1 : ∀ (k i : Nat) (τ : pm_S), i + k = n → 1 ≤ i → an_GB pm_B τ → FQ [] σ τ → Ok 207 4 10 [.ref 93, .int (Int32.ofInt (n : Int)), .int (Int32.ofInt (lsM σ R i)), .int (Int32.ofInt (i : Int))] [] τ (fun r τ => r = none ∧ an_GB pm_B τ ∧ FQ FCmr σ τ ∧ τ.1 103 = (cnM σ R n c0 n).1 ∧ τ.1 106 = (cnM σ R n c0 n).2.1 ∧ τ.1 107 = (cnM σ R n c0 n).2.2.1 ∧ cI τ 53 = (((cnM σ R n c0 n).2.2.2 : Nat) : Int)) := by
    intro k
    induction k with
    | zero =>
      intro i τ hi h1 hB F
      have e : i = n := by omega
      have b := ls1 i h1 (by omega)
      refine tf_c10 n (lsM σ R i) i hB ⟨by omega, b, by omega, trivial⟩ ?_
      intro τ1 y1 hB1 F1 _ _ _ _
      refine Ok.ic rfl rfl (by omega) (by omega) (by omega) (by omega) (fun g => ?_) (fun g => ?_)
      · rw [e]
        refine tf_c34 n (lsM σ R n) _ rfl hB1 ⟨by omega, lb, trivial⟩ ?_
        intro τ2 y2 hB2 F2 _ _ _ _
        have G : FQ [] σ τ2 := FQ.tr F (FQ.tr F1 F2)
        exact l2 n 0 τ2 (Nat.zero_add _) hB2 (FQ.up (G := []) rfl G) (row_fq G rfl) (row_fq G rfl) (row_fq G rfl) ((congrArg Int32.toInt (G 93 53 rfl)).trans e53)
      · have g : (i : Int) < (n : Int) := g
        exfalso
        omega
    | succ k ih =>
      intro i τ hi h1 hB F
      have hin : i < n := by omega
      have hR := hl i hin
      have cR := hcR i hin
      have ei : ((i : Int)).toNat = i := by omega
      have eR : ((R i : Nat) : Int).toNat = R i := by omega
      have b := ls1 i h1 (by omega)
      refine tf_c10 n (lsM σ R i) i hB ⟨by omega, b, by omega, trivial⟩ ?_
      intro τ1 y1 hB1 F1 _ _ _ _
      refine Ok.ic rfl rfl (by omega) (by omega) (by omega) (by omega) (fun g => ?_) (fun g => ?_)
      · have g : (n : Int) ≤ (i : Int) := g
        exfalso
        omega
      have G1 : FQ [] σ τ1 := FQ.tr F F1
      refine tf_c13 n (lsM σ R i) i ((R i : Nat) : Int) (σ.1 103 (R i)).toInt hB1 ⟨by omega, b, by omega, by omega, cR, trivial⟩ ⟨by rw [ei]; exact (congrArg Int32.toInt (G1 124 i rfl)).trans (hr i hin), by rw [eR]; exact congrArg Int32.toInt (G1 103 _ rfl), trivial⟩ ?_
      intro τ2 y2 hB2 F2 _ _ _ _
      have G2 : FQ [] σ τ2 := FQ.tr G1 F2
      have mE' : lsM σ R (i + 1) = min (lsM σ R i) (σ.1 103 (R i)).toInt := rfl
      refine Ok.ic rfl rfl (by omega) (by omega) (by omega) (by omega) (fun w => ?_) (fun w => ?_)
      · have w : lsM σ R i ≤ (σ.1 103 (R i)).toInt := w
        refine tf_c30 n (lsM σ R i) i hB2 ⟨by omega, b, by omega, trivial⟩ ?_
        intro τ3 y3 hB3 F3 _ _ _ _
        rw [show (i : Int) + 1 = ((i + 1 : Nat) : Int) by omega, show lsM σ R i = lsM σ R (i + 1) by rw [mE']; omega]
        exact ih (i + 1) τ3 (by omega) (by omega) hB3 (FQ.tr G2 F3)
      · have w : (σ.1 103 (R i)).toInt < lsM σ R i := w
        refine tf_c22 n (lsM σ R i) i ((R i : Nat) : Int) (σ.1 103 (R i)).toInt hB2 ⟨by omega, b, by omega, by omega, cR, trivial⟩ ⟨by rw [ei]; exact (congrArg Int32.toInt (G2 124 i rfl)).trans (hr i hin), by rw [eR]; exact congrArg Int32.toInt (G2 103 _ rfl), trivial⟩ ?_
        intro τ3 y3 hB3 F3 _ _ _ _
        rw [show (i : Int) + 1 = ((i + 1 : Nat) : Int) by omega, show (σ.1 103 (R i)).toInt = lsM σ R (i + 1) by rw [mE']; omega]
        exact ih (i + 1) τ3 (by omega) (by omega) hB3 (FQ.tr G2 F3)
  have hR0 := hl 0 (by omega)
  have c00 := hcR 0 (by omega)
  have eR0 : ((R 0 : Nat) : Int).toNat = R 0 := by omega
  refine Sp.at rfl rfl ?_
  refine tf_c0 n ((R 0 : Nat) : Int) (σ.1 103 (R 0)).toInt _ _ rfl rfl hB0 ⟨by omega, by omega, c00, trivial⟩ ⟨hr 0 (by omega), by rw [eR0], trivial⟩ ?_
  intro τ1 y1 hB1 F1 _ _ _ _
  have e1 : (σ.1 103 (R 0)).toInt = lsM σ R 1 := by
    show _ = min (1073741824 : Int) (σ.1 103 (R 0)).toInt
    omega
  rw [e1]
  exact l1 (n - 1) 1 τ1 (by omega) (Nat.le_refl _) hB1 F1
end MCA
abbrev cM (σ : pm_S) (D : Nat) : cxt := (bsM σ, σ.1 104, σ.1 101, σ.1 102, σ.1 93 19, D)
abbrev FAmr : List (Nat × Nat) := [(93, 53), (103, 9999), (106, 9999), (107, 9999), (124, 9999)]
/-- the rows of the debts are t's -/
abbrev rwM (t : P3) (τ : pm_S) : Prop := τ.1 103 = t.1 ∧ τ.1 106 = t.2.1 ∧ τ.1 107 = t.2.2.1 ∧ cI τ 53 = ((t.2.2.2 : Nat) : Int)
theorem rwM.fq {t : P3} {σ τ : pm_S} {G : List (Nat × Nat)} (h : rwM t σ) (F : FQ G σ τ) (h1 : an_inP G 103 = false) (h2 : an_inP G 106 = false) (h3 : an_inP G 107 = false) (h4 : an_inP G 93 = false) : rwM t τ := ⟨(row_fq F h1).trans h.1, (row_fq F h2).trans h.2.1, (row_fq F h3).trans h.2.2.1, by show (τ.1 93 53).toInt = _; rw [row_fq F h4]; exact h.2.2.2⟩
section MAT
variable {σ : pm_S} {D P s : Nat}
theorem lx_in {t : P3} {R : Nat → Nat} {n : Nat} (hu : ∀ d, d < D → nt (σ.1 101) d ≠ nt (σ.1 102) d) (h : rnd ((cM σ D).E t s) (nt (σ.1 101)) (nt (σ.1 102)) R n) : ∀ a b, a < n → b < n → R a = R b → a = b := fun a b ha hb e => h.inj2 (fun d e => hu d e.1) ha hb e
set_option maxRecDepth 20000 in
/-- one spot -/
theorem x_mat (hs : s < 10) (hD : D ≤ 30) (hP : P ≤ 10) (eD : sI σ 93 11 = (D : Int)) (eP : sI σ 93 5 = (P : Int)) (hu : ∀ d, d < D → nt (σ.1 101) d ≠ nt (σ.1 102) d) {t : P3} (ht : rwM t σ) (hb : t.2.2.2 + 10 * opnd t.2.2.1 D ≤ 300) (hB0 : an_GB pm_B σ) : Sp 208 8 [.ref 93, .int (Int32.ofInt (s : Int))] σ (fun r τ => r = none ∧ an_GB pm_B τ ∧ FQ FAmr σ τ ∧ ∃ b k, rdm (cM σ D) P s k t b ∧ rwM b τ ∧ b.2.2.2 + 10 * opnd b.2.2.1 D ≤ 300) := by
  have lp : ∀ (o : Nat) (m n : Nat) (t : P3) (τ : pm_S), opnd t.2.2.1 D ≤ o → n + m = 11 → 2 ≤ n → rwM t τ → t.2.2.2 + 10 * opnd t.2.2.1 D ≤ 300 → (∀ n', 2 ≤ n' → n' < n → ∀ r, ¬ rnd ((cM σ D).E t s) (nt (σ.1 101)) (nt (σ.1 102)) r n') → an_GB pm_B τ → FQ FAmr σ τ → Ok 208 8 2 [.ref 93, .int (Int32.ofInt (s : Int)), .int (Int32.ofInt (n : Int))] [] τ (fun r τ => r = none ∧ an_GB pm_B τ ∧ FQ FAmr σ τ ∧ ∃ b k, rdm (cM σ D) P s k t b ∧ rwM b τ ∧ b.2.2.2 + 10 * opnd b.2.2.1 D ≤ 300) := by
    intro o
    induction o with
    | zero =>
      intro m
      induction m with
      | zero =>
        intro n t τ ho hn h2 ht hb hx hB F
        refine tf_a2 s n P hB ⟨by omega, by omega, by omega, trivial⟩ ⟨(congrArg Int32.toInt (F 93 5 rfl)).trans eP, trivial⟩ ?_
        intro τ1 y1 hB1 F1 _ _ _ _
        refine Ok.ic rfl rfl (by omega) (by omega) (by omega) (by omega) (fun g => ?_) (fun g => ?_)
        · refine tf_a22 s _ rfl hB1 ⟨by omega, trivial⟩ ?_
          intro τ2 y2 hB2 F2 _ _ _ _
          exact ⟨rfl, hB2, FQ.tr F (FQ.up (G := []) rfl (FQ.tr F1 F2)), t, 0, ⟨rfl, fun n' a b r => hx n' a (by omega) r⟩, (ht.fq F1 rfl rfl rfl rfl).fq F2 rfl rfl rfl rfl, hb⟩
        · have g : (n : Int) ≤ (P : Int) := g
          exfalso
          omega
      | succ m im =>
        intro n t τ ho hn h2 ht hb hx hB F
        refine tf_a2 s n P hB ⟨by omega, by omega, by omega, trivial⟩ ⟨(congrArg Int32.toInt (F 93 5 rfl)).trans eP, trivial⟩ ?_
        intro τ1 y1 hB1 F1 _ _ _ _
        refine Ok.ic rfl rfl (by omega) (by omega) (by omega) (by omega) (fun g => ?_) (fun g => ?_)
        · have g : (P : Int) < (n : Int) := g
          refine tf_a22 s _ rfl hB1 ⟨by omega, trivial⟩ ?_
          intro τ2 y2 hB2 F2 _ _ _ _
          exact ⟨rfl, hB2, FQ.tr F (FQ.up (G := []) rfl (FQ.tr F1 F2)), t, 0, ⟨rfl, fun n' a b r => hx n' a (by omega) r⟩, (ht.fq F1 rfl rfl rfl rfl).fq F2 rfl rfl rfl rfl, hb⟩
        · have g : (n : Int) ≤ (P : Int) := g
          refine tf_a6 s n hB1 ⟨by omega, by omega, trivial⟩ ?_
          intro τ2 y2 hB2 F2 _ _ _ _
          have G2 : FQ FAmr σ τ2 := FQ.tr F (FQ.up (G := []) rfl (FQ.tr F1 F2))
          have t2 := (ht.fq F1 rfl rfl rfl rfl).fq F2 rfl rfl rfl rfl
          have E2 : mE τ2 D s = (cM σ D).E t s := by
            show eR (bsM τ2) (τ2.1 104) (τ2.1 107) D s = eR (bsM σ) (σ.1 104) t.2.2.1 D s
            rw [bsM_fq G2 rfl rfl rfl rfl, row_fq G2 (P := 104) rfl, t2.2.2.1]
          have e1 := row_fq G2 (P := 101) rfl
          have e2 := row_fq G2 (P := 102) rfl
          refine Ok.cv rfl rfl rfl rfl rfl rfl rfl ?_
          refine (x_mfr (σ := τ2) (D := D) (s := s) (n := n) hs hD ((congrArg Int32.toInt (G2 93 11 rfl)).trans eD) ⟨h2, by omega⟩ hB2).use (by decide) (fun r τ3 q => ?_)
          rw [E2, e1, e2] at q
          obtain ⟨hB3, F3, ⟨rfl, q⟩ | ⟨rfl, R, qr, ql, q⟩⟩ := q
          · refine tf_a10 s n 0 hB3 ⟨by omega, by omega, by omega, trivial⟩ ?_ ?_
            · intro τ4 y4 hB4 F4 _ _ _ _
              rw [show (n : Int) + 1 = ((n + 1 : Nat) : Int) by omega]
              refine im (n + 1) t τ4 ho (by omega) (by omega) ((t2.fq F3 rfl rfl rfl rfl).fq F4 rfl rfl rfl rfl) hb (fun n' a b r => ?_) hB4 (FQ.tr G2 (FQ.tr (FQ.up (G := FRo) rfl F3) (FQ.up (G := []) rfl F4)))
              by_cases c : n' = n
              · rw [c]
                exact q r
              · exact hx n' a (by omega) r
            · intro τ4 y4 _ _ f _ _ _
              have f2 := f.2.2.1
              exfalso
              omega
          · have e := (q.1 0 (by omega)).1
            have := opnd_pos (hw := t.2.2.1) (D := D) e.1 e.2.1
            exfalso
            omega
    | succ o io =>
      intro m
      induction m with
      | zero =>
        intro n t τ ho hn h2 ht hb hx hB F
        refine tf_a2 s n P hB ⟨by omega, by omega, by omega, trivial⟩ ⟨(congrArg Int32.toInt (F 93 5 rfl)).trans eP, trivial⟩ ?_
        intro τ1 y1 hB1 F1 _ _ _ _
        refine Ok.ic rfl rfl (by omega) (by omega) (by omega) (by omega) (fun g => ?_) (fun g => ?_)
        · refine tf_a22 s _ rfl hB1 ⟨by omega, trivial⟩ ?_
          intro τ2 y2 hB2 F2 _ _ _ _
          exact ⟨rfl, hB2, FQ.tr F (FQ.up (G := []) rfl (FQ.tr F1 F2)), t, 0, ⟨rfl, fun n' a b r => hx n' a (by omega) r⟩, (ht.fq F1 rfl rfl rfl rfl).fq F2 rfl rfl rfl rfl, hb⟩
        · have g : (n : Int) ≤ (P : Int) := g
          exfalso
          omega
      | succ m im =>
        intro n t τ ho hn h2 ht hb hx hB F
        refine tf_a2 s n P hB ⟨by omega, by omega, by omega, trivial⟩ ⟨(congrArg Int32.toInt (F 93 5 rfl)).trans eP, trivial⟩ ?_
        intro τ1 y1 hB1 F1 _ _ _ _
        refine Ok.ic rfl rfl (by omega) (by omega) (by omega) (by omega) (fun g => ?_) (fun g => ?_)
        · have g : (P : Int) < (n : Int) := g
          refine tf_a22 s _ rfl hB1 ⟨by omega, trivial⟩ ?_
          intro τ2 y2 hB2 F2 _ _ _ _
          exact ⟨rfl, hB2, FQ.tr F (FQ.up (G := []) rfl (FQ.tr F1 F2)), t, 0, ⟨rfl, fun n' a b r => hx n' a (by omega) r⟩, (ht.fq F1 rfl rfl rfl rfl).fq F2 rfl rfl rfl rfl, hb⟩
        · have g : (n : Int) ≤ (P : Int) := g
          refine tf_a6 s n hB1 ⟨by omega, by omega, trivial⟩ ?_
          intro τ2 y2 hB2 F2 _ _ _ _
          have G2 : FQ FAmr σ τ2 := FQ.tr F (FQ.up (G := []) rfl (FQ.tr F1 F2))
          have t2 := (ht.fq F1 rfl rfl rfl rfl).fq F2 rfl rfl rfl rfl
          have E2 : mE τ2 D s = (cM σ D).E t s := by
            show eR (bsM τ2) (τ2.1 104) (τ2.1 107) D s = eR (bsM σ) (σ.1 104) t.2.2.1 D s
            rw [bsM_fq G2 rfl rfl rfl rfl, row_fq G2 (P := 104) rfl, t2.2.2.1]
          have e1 := row_fq G2 (P := 101) rfl
          have e2 := row_fq G2 (P := 102) rfl
          refine Ok.cv rfl rfl rfl rfl rfl rfl rfl ?_
          refine (x_mfr (σ := τ2) (D := D) (s := s) (n := n) hs hD ((congrArg Int32.toInt (G2 93 11 rfl)).trans eD) ⟨h2, by omega⟩ hB2).use (by decide) (fun r τ3 q => ?_)
          rw [E2, e1, e2] at q
          obtain ⟨hB3, F3, ⟨rfl, q⟩ | ⟨rfl, R, qr, ql, q⟩⟩ := q
          · refine tf_a10 s n 0 hB3 ⟨by omega, by omega, by omega, trivial⟩ ?_ ?_
            · intro τ4 y4 hB4 F4 _ _ _ _
              rw [show (n : Int) + 1 = ((n + 1 : Nat) : Int) by omega]
              refine im (n + 1) t τ4 ho (by omega) (by omega) ((t2.fq F3 rfl rfl rfl rfl).fq F4 rfl rfl rfl rfl) hb (fun n' a b r => ?_) hB4 (FQ.tr G2 (FQ.tr (FQ.up (G := FRo) rfl F3) (FQ.up (G := []) rfl F4)))
              by_cases c : n' = n
              · rw [c]
                exact q r
              · exact hx n' a (by omega) r
            · intro τ4 y4 _ _ f _ _ _
              have f2 := f.2.2.1
              exfalso
              omega
          · have hin := lx_in hu q.1
            refine tf_a10 s n 1 hB3 ⟨by omega, by omega, by omega, trivial⟩ ?_ ?_
            · intro τ4 y4 _ _ f _ _ _
              have f2 := f.2.2.1
              exfalso
              omega
            intro τ4 y4 hB4 F4 _ _ _ _
            have t4 := (t2.fq F3 rfl rfl rfl rfl).fq F4 rfl rfl rfl rfl
            have G4 : FQ FAmr σ τ4 := FQ.tr G2 (FQ.tr (FQ.up (G := FRo) rfl F3) (FQ.up (G := []) rfl F4))
            refine Ok.cv rfl rfl rfl rfl rfl rfl rfl ?_
            refine (x_mca (σ := τ4) (D := D) (n := n) (c0 := t.2.2.2) (R := R) hD ⟨h2, by omega⟩ t4.2.2.2 (by omega) (fun j hj => (congrArg Int32.toInt (F4 124 j rfl)).trans (qr j hj)) ql hin hB4).use (by decide) (fun r τ5 q5 => ?_)
            obtain ⟨rfl, hB5, F5, s1, s2, s3, s4⟩ := q5
            have eg : cnM τ4 R n t.2.2.2 n = (cM σ D).go R n t := by
              show cnF (τ4.1 93 19) (Int32.ofInt (lsF 1073741824 (τ4.1 103) R n)) R (τ4.1 103, τ4.1 106, τ4.1 107, t.2.2.2) n = _
              rw [t4.1, t4.2.1, t4.2.2.1, show τ4.1 93 19 = σ.1 93 19 from G4 93 19 rfl]
            rw [eg] at s1 s2 s3 s4
            -- fewer are open
            have cb : ∀ i, i < n → (t.1 (R i)).toInt ≤ 1073741824 := fun i hi => by
              have z : 0 ≤ sI τ4 103 (R i) ∧ sI τ4 103 (R i) ≤ 99999 := hB4 103 (R i) (show R i < 30 by have := ql i hi; omega)
              have w : sI τ4 103 (R i) = (t.1 (R i)).toInt := by
                show (τ4.1 103 (R i)).toInt = _
                rw [t4.1]
              omega
            obtain ⟨i, hi, y⟩ := cnF_y (su := σ.1 93 19) (m := 1073741824) (R := R) (t := t) (n := n) (by omega) cb hin
            have op : opnd ((cM σ D).go R n t).2.2.1 D < opnd t.2.2.1 D := opnd_lt (fun d z => go_kp (c := cM σ D) (R := R) (n := n) d z) (ql i hi) ((q.1 i hi).1).2.1 y
            have gn : ((cM σ D).go R n t).2.2.2 ≤ t.2.2.2 + n := cnF_n _ _ _ _ n
            refine tf_a14 s n hB5 ⟨by omega, by omega, trivial⟩ ?_
            intro τ6 y6 hB6 F6 _ _ _ _
            refine (io 9 2 ((cM σ D).go R n t) τ6 (by omega) rfl (Nat.le_refl _) ?_ (by omega) (fun n' a b => absurd b (by omega)) hB6 (FQ.tr G4 (FQ.tr (FQ.up (G := FCmr) rfl F5) (FQ.up (G := []) rfl F6)))).mono (fun r τ7 z => ?_)
            · exact ⟨(row_fq F6 rfl).trans s1, (row_fq F6 rfl).trans s2, (row_fq F6 rfl).trans s3, (congrArg Int32.toInt (F6 93 53 rfl)).trans s4⟩
            · obtain ⟨z1, z2, z3, b, k, z4, z5, z6⟩ := z
              exact ⟨z1, z2, z3, b, k + 1, ⟨R, n, h2, by omega, q.1, q.2, hx, z4⟩, z5, z6⟩
  refine Sp.at rfl rfl ?_
  refine tf_a0 s _ rfl hB0 ⟨by omega, trivial⟩ ?_
  intro τ1 y1 hB1 F1 _ _ _ _
  exact lp (opnd t.2.2.1 D) 9 2 t τ1 (Nat.le_refl _) rfl (Nat.le_refl _) (ht.fq F1 rfl rfl rfl rfl) hb (fun n' a b => absurd b (by omega)) hB1 (FQ.up (G := []) rfl F1)
end MAT
