/-! the law asked of a debt -/
/-- how many below n are so -/
def cntP (P : Nat → Bool) : Nat → Nat
  | 0 => 0
  | n + 1 => cntP P n + (if P n = true then 1 else 0)
theorem cntP_le (P : Nat → Bool) : ∀ n, cntP P n ≤ n
  | 0 => Nat.le_refl _
  | n + 1 => by
    have := cntP_le P n
    unfold cntP
    split <;> omega
theorem cntP_e {P P' : Nat → Bool} : ∀ n, (∀ i, i < n → P i = P' i) → cntP P n = cntP P' n
  | 0, _ => rfl
  | n + 1, h => by
    unfold cntP
    rw [cntP_e n (fun i hi => h i (by omega)), h n (by omega)]
theorem cntP_s {P : Nat → Bool} {n : Nat} (h : P n = true) : cntP P (n + 1) = cntP P n + 1 := by
  show cntP P n + (if P n = true then 1 else 0) = _
  rw [if_pos h]
theorem cntP_n {P : Nat → Bool} {n : Nat} (h : ¬ P n = true) : cntP P (n + 1) = cntP P n := by
  show cntP P n + (if P n = true then 1 else 0) = _
  rw [if_neg h, Nat.add_zero]
/-- how many stand there -/
abbrev hrc (σ : pm_S) (s : Int) : Nat → Bool := fun p => decide (sI σ 12 p = s)
set_option maxRecDepth 20000 in
theorem x_hlc {σ : pm_S} {s : Int} (hs : 0 ≤ s ∧ s ≤ 9) {N : Nat} (hN : N ≤ 10) (eN : sI σ 7 0 = (N : Int)) {Q : Option Value → pm_S → Prop} (hQ : ∀ τ : pm_S, an_GB pm_B τ → FQ [] σ τ → Q (some (.int (Int32.ofInt ((cntP (hrc σ s) N : Nat) : Int)))) τ) : ∀ (k p : Nat) (τ : pm_S), p + k = N → an_GB pm_B τ → FQ [] σ τ → Ok 64 3 4 [.ref 7, .int (Int32.ofInt s), .int (Int32.ofInt ((cntP (hrc σ s) p : Nat) : Int)), .int (Int32.ofInt (p : Int))] [] τ Q := by
  intro k
  induction k with
  | zero =>
    intro p τ hp hB F
    have cl := cntP_le (hrc σ s) p
    refine pl_h4 s (cntP (hrc σ s) p) p N hB ⟨hs, by omega, by omega, by omega, trivial⟩ ⟨(congrArg Int32.toInt (F 7 0 rfl)).trans eN, trivial⟩ ?_
    intro τ1 y1 hB1 F1 _ _ _ _
    refine Ok.ic rfl rfl (by omega) (by omega) (by omega) (by omega) (fun h => ?_) (fun h => ?_)
    · refine pl_h22 s (cntP (hrc σ s) p) _ rfl hB1 ⟨hs, by omega, trivial⟩ ?_
      intro τ2 y2 hB2 F2 _ _ _ _
      rw [show p = N by omega]
      exact hQ τ2 hB2 (FQ.tr F (FQ.tr F1 F2))
    · have h : (p : Int) < (N : Int) := h
      exfalso
      omega
  | succ k ih =>
    intro p τ hp hB F
    have cl := cntP_le (hrc σ s) p
    have ep : ((p : Int)).toNat = p := by omega
    refine pl_h4 s (cntP (hrc σ s) p) p N hB ⟨hs, by omega, by omega, by omega, trivial⟩ ⟨(congrArg Int32.toInt (F 7 0 rfl)).trans eN, trivial⟩ ?_
    intro τ1 y1 hB1 F1 _ _ _ _
    refine Ok.ic rfl rfl (by omega) (by omega) (by omega) (by omega) (fun h => ?_) (fun h => ?_)
    · have h : (N : Int) ≤ (p : Int) := h
      exfalso
      omega
    · have G1 := FQ.tr F F1
      have b : (-1) ≤ sI τ1 12 p ∧ sI τ1 12 p ≤ 9 := hB1 12 p (show p < 10 by omega)
      refine pl_h8 s (cntP (hrc σ s) p) p (sI τ1 12 p) hB1 ⟨hs, by omega, by omega, b, trivial⟩ ⟨by rw [ep], trivial⟩ ?_
      intro τ2 y2 hB2 F2 _ _ _ _
      have e2 : sI τ1 12 p = sI σ 12 p := congrArg Int32.toInt (G1 12 p rfl)
      have G2 := FQ.tr G1 F2
      refine Ok.ic rfl rfl (by omega) (by omega) (by omega) (by omega) (fun g => ?_) (fun g => ?_)
      · have g : sI τ1 12 p ≠ s := g
        refine pl_h17 s (cntP (hrc σ s) p) p hB2 ⟨hs, by omega, by omega, trivial⟩ ?_
        intro τ3 y3 hB3 F3 _ _ _ _
        rw [← cntP_n (P := hrc σ s) (n := p) (fun w => g (e2.trans (of_decide_eq_true w))), show (p : Int) + 1 = ((p + 1 : Nat) : Int) by omega]
        exact ih (p + 1) τ3 (by omega) hB3 (FQ.tr G2 F3)
      · have g : sI τ1 12 p = s := g
        refine pl_h15 s (cntP (hrc σ s) p) p hB2 ⟨hs, by omega, by omega, trivial⟩ ?_
        intro τ3 y3 hB3 F3 _ _ _ _
        have e3 : ((cntP (hrc σ s) p : Nat) : Int) + 1 = ((cntP (hrc σ s) (p + 1) : Nat) : Int) := by
          rw [cntP_s (P := hrc σ s) (n := p) (decide_eq_true (e2.symm.trans g))]
          omega
        rw [e3, show (p : Int) + 1 = ((p + 1 : Nat) : Int) by omega]
        exact ih (p + 1) τ3 (by omega) hB3 (FQ.tr G2 F3)
theorem x_hrc {σ : pm_S} {s : Int} (hs : 0 ≤ s ∧ s ≤ 9) {N : Nat} (hN : N ≤ 10) (eN : sI σ 7 0 = (N : Int)) (hB : an_GB pm_B σ) : Sp 64 3 [.ref 7, .int (Int32.ofInt s)] σ (fun r τ => r = some (.int (Int32.ofInt ((cntP (hrc σ s) N : Nat) : Int))) ∧ an_GB pm_B τ ∧ FQ [] σ τ) := by
  refine Sp.at rfl rfl ?_
  refine pl_h0 s _ _ rfl rfl hB ⟨hs, trivial⟩ ?_
  intro τ1 y1 hB1 F1 _ _ _ _
  exact x_hlc hs hN eN (fun τ hB' F' => ⟨rfl, hB', F'⟩) N 0 τ1 (Nat.zero_add _) hB1 F1
/-- how many stand there -/
abbrev hrm (σ : pm_S) (s : Int) : Nat → Bool := fun p => decide (sI σ 100 p = s + 1)
set_option maxRecDepth 20000 in
theorem x_hlm {σ : pm_S} {s : Int} (hs : 0 ≤ s ∧ s ≤ 9) {N : Nat} (hN : N ≤ 10) (eN : sI σ 93 5 = (N : Int)) {Q : Option Value → pm_S → Prop} (hQ : ∀ τ : pm_S, an_GB pm_B τ → FQ [] σ τ → Q (some (.int (Int32.ofInt ((cntP (hrm σ s) N : Nat) : Int)))) τ) : ∀ (k p : Nat) (τ : pm_S), p + k = N → an_GB pm_B τ → FQ [] σ τ → Ok 200 3 4 [.ref 93, .int (Int32.ofInt s), .int (Int32.ofInt ((cntP (hrm σ s) p : Nat) : Int)), .int (Int32.ofInt (p : Int))] [] τ Q := by
  intro k
  induction k with
  | zero =>
    intro p τ hp hB F
    have cl := cntP_le (hrm σ s) p
    refine ql_h4 s (cntP (hrm σ s) p) p N hB ⟨hs, by omega, by omega, by omega, trivial⟩ ⟨(congrArg Int32.toInt (F 93 5 rfl)).trans eN, trivial⟩ ?_
    intro τ1 y1 hB1 F1 _ _ _ _
    refine Ok.ic rfl rfl (by omega) (by omega) (by omega) (by omega) (fun h => ?_) (fun h => ?_)
    · refine ql_h22 s (cntP (hrm σ s) p) _ rfl hB1 ⟨hs, by omega, trivial⟩ ?_
      intro τ2 y2 hB2 F2 _ _ _ _
      rw [show p = N by omega]
      exact hQ τ2 hB2 (FQ.tr F (FQ.tr F1 F2))
    · have h : (p : Int) < (N : Int) := h
      exfalso
      omega
  | succ k ih =>
    intro p τ hp hB F
    have cl := cntP_le (hrm σ s) p
    have ep : ((p : Int)).toNat = p := by omega
    refine ql_h4 s (cntP (hrm σ s) p) p N hB ⟨hs, by omega, by omega, by omega, trivial⟩ ⟨(congrArg Int32.toInt (F 93 5 rfl)).trans eN, trivial⟩ ?_
    intro τ1 y1 hB1 F1 _ _ _ _
    refine Ok.ic rfl rfl (by omega) (by omega) (by omega) (by omega) (fun h => ?_) (fun h => ?_)
    · have h : (N : Int) ≤ (p : Int) := h
      exfalso
      omega
    · have G1 := FQ.tr F F1
      have b : 0 ≤ sI τ1 100 p ∧ sI τ1 100 p ≤ 10 := hB1 100 p (show p < 10 by omega)
      refine ql_h8 s (cntP (hrm σ s) p) p (sI τ1 100 p) hB1 ⟨hs, by omega, by omega, b, trivial⟩ ⟨by rw [ep], trivial⟩ ?_
      intro τ2 y2 hB2 F2 _ _ _ _
      have e2 : sI τ1 100 p = sI σ 100 p := congrArg Int32.toInt (G1 100 p rfl)
      have G2 := FQ.tr G1 F2
      refine Ok.ic rfl rfl (by omega) (by omega) (by omega) (by omega) (fun g => ?_) (fun g => ?_)
      · have g : sI τ1 100 p ≠ s + 1 := g
        refine ql_h20 s (cntP (hrm σ s) p) p hB2 ⟨hs, by omega, by omega, trivial⟩ ?_
        intro τ3 y3 hB3 F3 _ _ _ _
        rw [← cntP_n (P := hrm σ s) (n := p) (fun w => g (e2.trans (of_decide_eq_true w))), show (p : Int) + 1 = ((p + 1 : Nat) : Int) by omega]
        exact ih (p + 1) τ3 (by omega) hB3 (FQ.tr G2 F3)
      · have g : sI τ1 100 p = s + 1 := g
        refine ql_h16 s (cntP (hrm σ s) p) p hB2 ⟨hs, by omega, by omega, trivial⟩ ?_
        intro τ3 y3 hB3 F3 _ _ _ _
        have e3 : ((cntP (hrm σ s) p : Nat) : Int) + 1 = ((cntP (hrm σ s) (p + 1) : Nat) : Int) := by
          rw [cntP_s (P := hrm σ s) (n := p) (decide_eq_true (e2.symm.trans g))]
          omega
        rw [e3, show (p : Int) + 1 = ((p + 1 : Nat) : Int) by omega]
        exact ih (p + 1) τ3 (by omega) hB3 (FQ.tr G2 F3)
theorem x_hrm {σ : pm_S} {s : Int} (hs : 0 ≤ s ∧ s ≤ 9) {N : Nat} (hN : N ≤ 10) (eN : sI σ 93 5 = (N : Int)) (hB : an_GB pm_B σ) : Sp 200 3 [.ref 93, .int (Int32.ofInt s)] σ (fun r τ => r = some (.int (Int32.ofInt ((cntP (hrm σ s) N : Nat) : Int))) ∧ an_GB pm_B τ ∧ FQ [] σ τ) := by
  refine Sp.at rfl rfl ?_
  refine ql_h0 s _ _ rfl rfl hB ⟨hs, trivial⟩ ?_
  intro τ1 y1 hB1 F1 _ _ _ _
  exact x_hlm hs hN eN (fun τ hB' F' => ⟨rfl, hB', F'⟩) N 0 τ1 (Nat.zero_add _) hB1 F1
/-- the facts of a debt -/
def fcc (σ : pm_S) (d : Nat) : Nat → Int32
  | 0 => σ.1 16 d
  | 1 => σ.1 1 1 - σ.1 18 d
  | 2 => σ.1 9 (sI σ 14 d).toNat
  | 3 => σ.1 17 d
  | 4 => σ.1 10 (sI σ 14 d).toNat
  | 5 => Int32.ofInt ((cntP (hrc σ (sI σ 17 d)) (sI σ 7 0).toNat : Nat) : Int)
  | 6 => σ.1 14 d
  | 7 => σ.1 15 d
  | _ => σ.1 1 1
set_option maxRecDepth 20000 in
theorem x_llc {σ : pm_S} {ls : List (List Int)} (hw : ∀ l ∈ ls, lnW l) (d : Nat) (hd : d ≤ 29) (hB : an_GB pm_B σ) (hL : cw_R σ ls.flatten) : Sp 95 11 [.ref 74, .int (Int32.ofInt (d : Int))] σ (fun r τ => r = some (b01 (LW (fcc σ d) ls)) ∧ an_GB pm_B τ ∧ FQ [(75, 9999), (31, 2), (33, 9999)] σ τ) := by
  have ed : ((d : Int)).toNat = d := by omega
  have b3 : 0 ≤ sI σ 14 d ∧ sI σ 14 d ≤ 9 := hB 14 d (show d < 30 by omega)
  have b4 : 0 ≤ sI σ 17 d ∧ sI σ 17 d ≤ 9 := hB 17 d (show d < 30 by omega)
  have b5 : 0 ≤ sI σ 15 d ∧ sI σ 15 d ≤ 9 := hB 15 d (show d < 30 by omega)
  have bn : 0 ≤ sI σ 7 0 ∧ sI σ 7 0 ≤ 10 := hB 7 0 (by decide)
  refine Sp.at rfl rfl ?_
  refine pl_w0 d (sI σ 16 d) (sI σ 18 d) (sI σ 14 d) (sI σ 17 d) (sI σ 15 d) (sI σ 9 (sI σ 14 d).toNat) (sI σ 10 (sI σ 14 d).toNat) (sI σ 1 1) _ rfl hB ⟨by omega, ai_rng _, ai_rng _, b3, b4, b5, ai_rng _, ai_rng _, ai_rng _, trivial⟩ ⟨by rw [ed], by rw [ed], by rw [ed], by rw [ed], by rw [ed], rfl, rfl, rfl, trivial⟩ ?_
  intro τ1 y1 hB1 F1 _ _ d1 c1
  refine Ok.cv rfl rfl rfl rfl rfl rfl rfl ?_
  refine (x_hrc (N := (sI σ 7 0).toNat) b4 (by omega) (by rw [show sI τ1 7 0 = sI σ 7 0 from congrArg Int32.toInt (F1 7 0 rfl)]; omega) hB1).use (by decide) (fun r τ2 q => ?_)
  obtain ⟨rfl, hB2, F2⟩ := q
  have en : cntP (hrc τ1 (sI σ 17 d)) (sI σ 7 0).toNat = cntP (hrc σ (sI σ 17 d)) (sI σ 7 0).toNat := cntP_e _ (fun i _ => by
    show decide (sI τ1 12 i = _) = decide (sI σ 12 i = _)
    rw [show sI τ1 12 i = sI σ 12 i from congrArg Int32.toInt (F1 12 i rfl)])
  rw [en]
  have cn := cntP_le (hrc σ (sI σ 17 d)) (sI σ 7 0).toNat
  have G2 : FQ [(75, 9999)] σ τ2 := FQ.tr F1 (FQ.up (G := []) rfl F2)
  refine pl_w74 d (sI σ 16 d) (sI σ 18 d) (sI σ 14 d) (sI σ 17 d) (sI σ 15 d) (sI σ 9 (sI σ 14 d).toNat) (sI σ 10 (sI σ 14 d).toNat) (sI σ 1 1) ((cntP (hrc σ (sI σ 17 d)) (sI σ 7 0).toNat : Nat) : Int) (sI σ 16 d) (y1 9) (sI σ 9 (sI σ 14 d).toNat) (sI σ 17 d) (sI σ 10 (sI σ 14 d).toNat) hB2 ⟨by omega, ai_rng _, ai_rng _, b3, b4, b5, ai_rng _, ai_rng _, ai_rng _, by omega, ai_rng _, (by rw [← d1.1]; exact ai_rng _), ai_rng _, ai_rng _, ai_rng _, trivial⟩ ⟨by rw [ed]; exact (congrArg Int32.toInt (G2 16 d rfl)), by rw [ed]; exact (congrArg Int32.toInt (G2 18 d rfl)), by rw [ed]; exact (congrArg Int32.toInt (G2 14 d rfl)), by rw [ed]; exact (congrArg Int32.toInt (G2 17 d rfl)), by rw [ed]; exact (congrArg Int32.toInt (G2 15 d rfl)), (congrArg Int32.toInt (G2 9 _ rfl)), (congrArg Int32.toInt (G2 10 _ rfl)), (congrArg Int32.toInt (G2 1 1 rfl)), (congrArg Int32.toInt (F2 75 0 rfl)).trans c1.2.2.2.2.2.2.2.2.1, (congrArg Int32.toInt (F2 75 1 rfl)).trans c1.2.2.2.2.2.2.2.2.2.1, (congrArg Int32.toInt (F2 75 2 rfl)).trans c1.2.2.2.2.2.2.2.2.2.2.1, (congrArg Int32.toInt (F2 75 3 rfl)).trans c1.2.2.2.2.2.2.2.2.2.2.2.1, (congrArg Int32.toInt (F2 75 4 rfl)).trans c1.2.2.2.2.2.2.2.2.2.2.2.2.1, trivial⟩ ?_
  intro τ3 y3 hB3 F3 _ _ _ c3
  have G3 : FQ [(75, 9999)] σ τ3 := FQ.tr G2 F3
  have hf : ∀ j, j < 9 → τ3.1 75 j = fcc σ d j := by
    intro j hj
    refine Int32.toInt_inj.mp ?_
    match j, hj with
    | 0, _ => exact c3.2.2.2.2.2.2.2.2.1
    | 1, _ =>
      have e1 : (σ.1 1 1 - σ.1 18 d).toInt = y1 9 := by
        rw [← d1.1, oI, oI]
        rfl
      exact (c3.2.2.2.2.2.2.2.2.2.1).trans e1.symm
    | 2, _ => exact c3.2.2.2.2.2.2.2.2.2.2.1
    | 3, _ => exact c3.2.2.2.2.2.2.2.2.2.2.2.1
    | 4, _ => exact c3.2.2.2.2.2.2.2.2.2.2.2.2.1
    | 5, _ => exact (c3.2.2.2.2.2.2.2.2.2.2.2.2.2.1).trans (ti_of (by omega) (by omega)).symm
    | 6, _ => exact c3.2.2.2.2.2.2.2.2.2.2.2.2.2.2.1
    | 7, _ => exact c3.2.2.2.2.2.2.2.2.2.2.2.2.2.2.2.1
    | 8, _ => exact c3.2.2.2.2.2.2.2.2.2.2.2.2.2.2.2.2.1
    | j + 9, hj => exact absurd hj (by omega)
  refine Ok.cv rfl rfl rfl rfl rfl rfl rfl ?_
  refine (x_ltC (f := fcc σ d) (ls := ls) hw hB3 hf (hL.fq (G := [(75, 9999)]) rfl G3)).use (by decide) (fun r τ4 q => ?_)
  obtain ⟨rfl, hB4, F4⟩ := q
  have w01 : 0 ≤ (if LW (fcc σ d) ls = true then (1 : Int) else 0) ∧ (if LW (fcc σ d) ls = true then (1 : Int) else 0) ≤ 1 := by split <;> decide
  refine pl_w103 d (if LW (fcc σ d) ls = true then 1 else 0) _ rfl hB4 ⟨by omega, w01, trivial⟩ ?_
  intro τ5 y5 hB5 F5 _ _ _ _
  exact ⟨rfl, hB5, FQ.tr (FQ.up (G := [(75, 9999)]) rfl G3) (FQ.tr (FQ.up (G := FLw) rfl F4) (FQ.up (G := []) rfl F5))⟩
/-- the facts of a debt -/
def fcm (σ : pm_S) (d : Nat) : Nat → Int32
  | 0 => σ.1 103 d
  | 1 => σ.1 93 19 - σ.1 105 d
  | 2 => σ.1 97 (sI σ 101 d).toNat
  | 3 => σ.1 104 d
  | 4 => σ.1 98 (sI σ 101 d).toNat
  | 5 => Int32.ofInt ((cntP (hrm σ (sI σ 104 d)) (sI σ 93 5).toNat : Nat) : Int)
  | 6 => σ.1 101 d
  | 7 => σ.1 102 d
  | _ => σ.1 93 19
set_option maxRecDepth 20000 in
theorem x_llm {σ : pm_S} {ls : List (List Int)} (hw : ∀ l ∈ ls, lnW l) (d : Nat) (hd : d ≤ 29) (hB : an_GB pm_B σ) (hL : mLaw σ ls) : Sp 201 9 [.ref 93, .int (Int32.ofInt (d : Int))] σ (fun r τ => r = some (b01 (LW (fcm σ d) ls)) ∧ an_GB pm_B τ ∧ FQ [(122, 9999), (123, 9999)] σ τ) := by
  have ed : ((d : Int)).toNat = d := by omega
  have b3 : 0 ≤ sI σ 101 d ∧ sI σ 101 d ≤ 9 := hB 101 d (show d < 30 by omega)
  have b4 : 0 ≤ sI σ 104 d ∧ sI σ 104 d ≤ 9 := hB 104 d (show d < 30 by omega)
  have b5 : 0 ≤ sI σ 102 d ∧ sI σ 102 d ≤ 9 := hB 102 d (show d < 30 by omega)
  have bn : 0 ≤ sI σ 93 5 ∧ sI σ 93 5 ≤ 10 := hB 93 5 (by decide)
  refine Sp.at rfl rfl ?_
  refine ql_l0 d (sI σ 103 d) (sI σ 105 d) (sI σ 101 d) (sI σ 104 d) (sI σ 102 d) (sI σ 97 (sI σ 101 d).toNat) (sI σ 98 (sI σ 101 d).toNat) (sI σ 93 19) _ rfl hB ⟨by omega, ai_rng _, ai_rng _, b3, b4, b5, ai_rng _, ai_rng _, ai_rng _, trivial⟩ ⟨by rw [ed], by rw [ed], by rw [ed], by rw [ed], by rw [ed], rfl, rfl, rfl, trivial⟩ ?_
  intro τ1 y1 v1 k1 hB1 F1 _ _ d1 c1
  refine Ok.cv rfl rfl rfl rfl rfl rfl rfl ?_
  refine (x_hrm (N := (sI σ 93 5).toNat) b4 (by omega) (by rw [show sI τ1 93 5 = sI σ 93 5 from congrArg Int32.toInt (F1 93 5 rfl)]; omega) hB1).use (by decide) (fun r τ2 q => ?_)
  obtain ⟨rfl, hB2, F2⟩ := q
  have en : cntP (hrm τ1 (sI σ 104 d)) (sI σ 93 5).toNat = cntP (hrm σ (sI σ 104 d)) (sI σ 93 5).toNat := cntP_e _ (fun i _ => by
    show decide (sI τ1 100 i = _) = decide (sI σ 100 i = _)
    rw [show sI τ1 100 i = sI σ 100 i from congrArg Int32.toInt (F1 100 i rfl)])
  rw [en]
  have cn := cntP_le (hrm σ (sI σ 104 d)) (sI σ 93 5).toNat
  have G2 : FQ [(122, 9999)] σ τ2 := FQ.tr F1 (FQ.up (G := []) rfl F2)
  refine ql_l58 d (sI σ 103 d) (sI σ 105 d) (sI σ 101 d) (sI σ 104 d) (sI σ 102 d) (sI σ 97 (sI σ 101 d).toNat) (sI σ 98 (sI σ 101 d).toNat) (sI σ 93 19) ((cntP (hrm σ (sI σ 104 d)) (sI σ 93 5).toNat : Nat) : Int) (sI σ 103 d) (y1 9) (sI σ 97 (sI σ 101 d).toNat) (sI σ 104 d) (sI σ 98 (sI σ 101 d).toNat) v1 k1 hB2 ⟨by omega, ai_rng _, ai_rng _, b3, b4, b5, ai_rng _, ai_rng _, ai_rng _, by omega, ai_rng _, (by rw [← d1.1]; exact ai_rng _), ai_rng _, ai_rng _, ai_rng _, trivial⟩ ⟨by rw [ed]; exact (congrArg Int32.toInt (G2 103 d rfl)), by rw [ed]; exact (congrArg Int32.toInt (G2 105 d rfl)), by rw [ed]; exact (congrArg Int32.toInt (G2 101 d rfl)), by rw [ed]; exact (congrArg Int32.toInt (G2 104 d rfl)), by rw [ed]; exact (congrArg Int32.toInt (G2 102 d rfl)), (congrArg Int32.toInt (G2 97 _ rfl)), (congrArg Int32.toInt (G2 98 _ rfl)), (congrArg Int32.toInt (G2 93 19 rfl)), (congrArg Int32.toInt (F2 122 0 rfl)).trans c1.2.2.2.2.2.2.2.2.1, (congrArg Int32.toInt (F2 122 1 rfl)).trans c1.2.2.2.2.2.2.2.2.2.1, (congrArg Int32.toInt (F2 122 2 rfl)).trans c1.2.2.2.2.2.2.2.2.2.2.1, (congrArg Int32.toInt (F2 122 3 rfl)).trans c1.2.2.2.2.2.2.2.2.2.2.2.1, (congrArg Int32.toInt (F2 122 4 rfl)).trans c1.2.2.2.2.2.2.2.2.2.2.2.2.1, trivial⟩ ?_
  intro τ3 y3 hB3 F3 _ _ _ c3
  have G3 : FQ [(122, 9999)] σ τ3 := FQ.tr G2 F3
  have hf : ∀ j, j < 9 → τ3.1 122 j = fcm σ d j := by
    intro j hj
    refine Int32.toInt_inj.mp ?_
    match j, hj with
    | 0, _ => exact c3.2.2.2.2.2.2.2.2.1
    | 1, _ =>
      have e1 : (σ.1 93 19 - σ.1 105 d).toInt = y1 9 := by
        rw [← d1.1, oI, oI]
        rfl
      exact (c3.2.2.2.2.2.2.2.2.2.1).trans e1.symm
    | 2, _ => exact c3.2.2.2.2.2.2.2.2.2.2.1
    | 3, _ => exact c3.2.2.2.2.2.2.2.2.2.2.2.1
    | 4, _ => exact c3.2.2.2.2.2.2.2.2.2.2.2.2.1
    | 5, _ => exact (c3.2.2.2.2.2.2.2.2.2.2.2.2.2.1).trans (ti_of (by omega) (by omega)).symm
    | 6, _ => exact c3.2.2.2.2.2.2.2.2.2.2.2.2.2.2.1
    | 7, _ => exact c3.2.2.2.2.2.2.2.2.2.2.2.2.2.2.2.1
    | 8, _ => exact c3.2.2.2.2.2.2.2.2.2.2.2.2.2.2.2.2.1
    | j + 9, hj => exact absurd hj (by omega)
  have h1 := hL.1
  have g36 : 0 ≤ cI σ 36 ∧ cI σ 36 ≤ 16 := hB 93 36 (by decide)
  refine x_mls (f := fcm σ d) (dd := (d : Int)) (by omega) (N := ls.length) (by omega) ls 0 0 τ3 (Nat.zero_add _) hw (mt_LN.fr (fun i => ⟨G3 116 i rfl, G3 117 i rfl, G3 118 i rfl⟩) ls 0 0 hL.2.1) (by rw [Nat.zero_add]; exact hL.2.2.1) (fun j hj => ?_) ((congrArg Int32.toInt (G3 93 36 rfl)).trans h1) hB3 hf (fun τ' hB' F' => ⟨rfl, hB', FQ.tr (FQ.up (G := [(122, 9999)]) rfl G3) (FQ.up (G := [(123, 9999)]) rfl F')⟩)
  have q := hL.2.2.2 j hj
  rw [Nat.zero_add]
  exact ⟨(congrArg Int32.toInt (G3 119 j rfl)).trans q.1, (congrArg Int32.toInt (G3 120 j rfl)).trans q.2⟩
