/-! sunday, pass: the model; both sides together -/
section PASSM
variable {D N S : Nat} {ls : List (List Int)}
/-- what stands of the model between Sundays -/
def KM (D N S : Nat) (ls : List (List Int)) (σ : pm_S) : Prop := (D ≤ 30 ∧ N ≤ 10 ∧ S ≤ 10 ∧ sI σ 93 11 = (D : Int) ∧ sI σ 93 5 = (N : Int) ∧ sI σ 93 2 = (S : Int)) ∧ (∀ d, d < D → nt (σ.1 101) d ≠ nt (σ.1 102) d) ∧ (∀ l ∈ ls, lnW l) ∧ mLaw σ ls
def gyS (D N S : Nat) (ls : List (List Int)) (σ τ : pm_S) (q : Nat) : Prop := ∃ (τ1 τ2 τ3 : pm_S) (b : P3), goMP σ τ1 N ∧ caMP τ1 τ2 D N S b ∧ paMP τ2 τ3 D ls b.2.2.2 ∧ inMP τ3 τ D N ∧ q = (pyL τ2 ls b.2.2.2 D).2.2.2
abbrev FGy : List (Nat × Nat) := [(93, 1), (93, 19), (93, 20), (93, 21), (93, 53), (97, 9999), (99, 9999), (100, 9999), (103, 9999), (106, 9999), (107, 9999), (122, 9999), (123, 9999), (124, 9999)]
theorem gyS_F {σ τ : pm_S} {q : Nat} (h : gyS D N S ls σ τ q) : FQ FGy σ τ := by
  obtain ⟨τ1, τ2, τ3, b, h1, h2, h3, h4, _⟩ := h
  exact FQ.tr (FQ.up (G := FGm) rfl h1.1) (FQ.tr (FQ.up (G := FAmr) rfl h2.1) (FQ.tr (FQ.up (G := FPm) rfl h3.1) (FQ.up (G := FImr) rfl h4.1)))
theorem KM.fq {σ τ : pm_S} {G : List (Nat × Nat)} (h : KM D N S ls σ) (F : FQ G σ τ) (c11 : an_inF G 93 11 = false) (c5 : an_inF G 93 5 = false) (c2 : an_inF G 93 2 = false) (h1 : an_inP G 101 = false) (h2 : an_inP G 102 = false) (h36 : an_inF G 93 36 = false) (h16 : an_inP G 116 = false) (h17 : an_inP G 117 = false) (h18 : an_inP G 118 = false) (h19 : an_inP G 119 = false) (h20 : an_inP G 120 = false) : KM D N S ls τ := by
  obtain ⟨⟨a1, a2, a3, a4, a5, a6⟩, b, c, e⟩ := h
  refine ⟨⟨a1, a2, a3, (congrArg Int32.toInt (F 93 11 c11)).trans a4, (congrArg Int32.toInt (F 93 5 c5)).trans a5, (congrArg Int32.toInt (F 93 2 c2)).trans a6⟩, ?_, c, mLaw_fq e F h36 h16 h17 h18 h19 h20⟩
  rw [row_fq F h1, row_fq F h2]
  exact b
theorem x_gy {σ : pm_S} (K : KM D N S ls σ) (hsu : 0 ≤ sI σ 93 19 ∧ sI σ 93 19 ≤ 9998) (hB0 : an_GB pm_B σ) : Sp 210 40 [.ref 93] σ (fun r τ => an_GB pm_B τ ∧ KM D N S ls τ ∧ sI τ 93 19 = sI σ 93 19 + 1 ∧ ∃ q : Nat, q ≤ 330 ∧ gyS D N S ls σ τ q ∧ r = some (.int (Int32.ofInt (q : Int)))) := by
  have K0 := K
  obtain ⟨H, hu, hw, hL⟩ := K
  refine (x_gyM hw H hu hsu hL hB0).mono (fun r τ h => ?_)
  obtain ⟨hB, τ1, τ2, τ3, b, h1, h2, h3, h4, bn, e⟩ := h
  have g : gyS D N S ls σ τ (pyL τ2 ls b.2.2.2 D).2.2.2 := ⟨τ1, τ2, τ3, b, h1, h2, h3, h4, rfl⟩
  have pn : (pyL τ2 ls b.2.2.2 D).2.2.2 ≤ b.2.2.2 + D := pyF_n _ _ _ _ _ _ _ D
  have d30 := H.1
  refine ⟨hB, K0.fq (gyS_F g) rfl rfl rfl rfl rfl rfl rfl rfl rfl rfl rfl, ?_, _, by omega, g, e⟩
  rw [h4.2.1]
  rw [show sI τ3 93 19 = sI σ 93 19 from congrArg Int32.toInt ((h3.1 93 19 rfl).trans ((h2.1 93 19 rfl).trans (h1.1 93 19 rfl)))]
/-- n Sundays of the model -/
def gyN (D N S : Nat) (ls : List (List Int)) : Nat → pm_S → pm_S → Nat → Prop
  | 0, σ, τ, q => FQ [] σ τ ∧ q = 0
  | n + 1, σ, τ, q => ∃ (σ' τ' : pm_S) (q1 q2 : Nat), FQ [] σ σ' ∧ gyS D N S ls σ' τ' q1 ∧ gyN D N S ls n τ' τ q2 ∧ q = q1 + q2
theorem gyN_e : ∀ {n : Nat} {σ τ υ : pm_S} {q : Nat}, gyN D N S ls n σ τ q → FQ [] τ υ → gyN D N S ls n σ υ q
  | 0, _, _, _, _, h, F => ⟨FQ.tr h.1 F, h.2⟩
  | n + 1, _, _, _, _, ⟨σ', τ', q1, q2, a, b, c, e⟩, F => ⟨σ', τ', q1, q2, a, b, gyN_e c F, e⟩
theorem gyN_s : ∀ {n : Nat} {σ ρ τ υ : pm_S} {q q' : Nat}, gyN D N S ls n σ ρ q → FQ [] ρ τ → gyS D N S ls τ υ q' → gyN D N S ls (n + 1) σ υ (q + q')
  | 0, σ, ρ, τ, υ, q, q', h, F, g => ⟨τ, υ, q', 0, FQ.tr h.1 F, g, ⟨FQ.rf _ _, rfl⟩, by rw [h.2]; omega⟩
  | n + 1, σ, ρ, τ, υ, q, q', ⟨σ', τ', q1, q2, a, b, c, e⟩, F, g => ⟨σ', τ', q1, q2 + q', a, b, gyN_s c F g, by omega⟩
theorem gyN_F : ∀ {n : Nat} {σ τ : pm_S} {q : Nat}, gyN D N S ls n σ τ q → FQ FGy σ τ
  | 0, _, _, _, h => FQ.up (G := []) rfl h.1
  | n + 1, _, _, _, ⟨σ', τ', q1, q2, a, b, c, e⟩ => FQ.tr (FQ.up (G := []) rfl a) (FQ.tr (gyS_F b) (gyN_F c))
abbrev FTd : List (Nat × Nat) := [(93, 0)]
set_option maxRecDepth 20000 in
theorem x_suM {σ : pm_S} (K : KM D N S ls σ) (hsu : 0 ≤ sI σ 93 19 ∧ sI σ 93 19 ≤ 9999) (hB0 : an_GB pm_B σ) : Sp 211 41 [.ref 93] σ (fun r τ => an_GB pm_B τ ∧ KM D N S ls τ ∧ ((sI σ 93 19 = 9999 ∧ FQ FTd σ τ ∧ r = some (.int (Int32.ofInt (-1)))) ∨ (sI σ 93 19 ≤ 9998 ∧ sI τ 93 19 = sI σ 93 19 + 1 ∧ ∃ (σ' : pm_S) (q : Nat), FQ FTd σ σ' ∧ gyN D N S ls 1 σ' τ q ∧ r = some (.int (Int32.ofInt (q : Int)))))) := by
  refine Sp.at rfl rfl ?_
  refine uf_t0 (sI σ 93 19) hB0 ⟨hsu, trivial⟩ ⟨rfl, trivial⟩ ?_ ?_
  · intro τ1 y1 hB1 F1 f _ _ _
    have f1 := f.1
    have e1 : sI τ1 93 19 = sI σ 93 19 := congrArg Int32.toInt (F1 93 19 rfl)
    have K1 : KM D N S ls τ1 := K.fq F1 rfl rfl rfl rfl rfl rfl rfl rfl rfl rfl rfl
    refine Ok.cv rfl rfl rfl rfl rfl rfl rfl ?_
    refine (x_gy K1 (by omega) hB1).use (by decide) (fun r τ2 q => ?_)
    obtain ⟨hB2, K2, e2, q, hq, g, rfl⟩ := q
    refine uf_t11 (q : Int) hB2 ⟨by omega, trivial⟩ ?_
    intro τ3 y3 hB3 F3 _ _ _ _
    have e3 : sI τ3 93 19 = sI τ2 93 19 := congrArg Int32.toInt (F3 93 19 rfl)
    exact ⟨hB3, K2.fq F3 rfl rfl rfl rfl rfl rfl rfl rfl rfl rfl rfl, Or.inr ⟨by omega, by omega, τ1, q, F1, ⟨τ1, τ2, q, 0, FQ.rf _ _, g, ⟨F3, rfl⟩, rfl⟩, rfl⟩⟩
  · intro τ1 y1 hB1 F1 f _ _ _
    have f1 := f.1
    exact ⟨hB1, K.fq F1 rfl rfl rfl rfl rfl rfl rfl rfl rfl rfl rfl, Or.inl ⟨by omega, F1, rfl⟩⟩
/-- everyone aims home -/
abbrev ahM (N : Nat) (σ τ : pm_S) : Prop := FQ [(93, 0), (99, 9999)] σ τ ∧ ∀ j, j < N → τ.1 99 j = σ.1 96 j
set_option maxRecDepth 20000 in
theorem x_paM {σ : pm_S} (n : Int) (hn : (-2147483648) ≤ n ∧ n ≤ 2147483647) (K : KM D N S ls σ) (hsu : 0 ≤ sI σ 93 19 ∧ sI σ 93 19 ≤ 9999) (hB0 : an_GB pm_B σ) : Sp 212 41 [.ref 93, .int (Int32.ofInt n)] σ (fun r τ => an_GB pm_B τ ∧ KM D N S ls τ ∧ ((¬ (1 ≤ n ∧ n ≤ 400 ∧ sI σ 93 19 + n ≤ 9999) ∧ FQ FTd σ τ ∧ r = some (.int (Int32.ofInt (-1)))) ∨ (1 ≤ n ∧ n ≤ 400 ∧ sI σ 93 19 + n ≤ 9999 ∧ sI τ 93 19 = sI σ 93 19 + n ∧ ∃ (σ' : pm_S) (q : Nat), ahM N σ σ' ∧ gyN D N S ls n.toNat σ' τ q ∧ r = some (.int (Int32.ofInt (q : Int)))))) := by
  have hN := K.1.2.1
  refine Sp.at rfl rfl ?_
  refine uf_q0 n (sI σ 93 19) _ _ rfl rfl hB0 ⟨hn, hsu, trivial⟩ ⟨rfl, trivial⟩ ?_ ?_ ?_ ?_
  · intro τ1 y1 hB1 F1 f _ _ _
    have f1 := f.1
    exact ⟨hB1, K.fq F1 rfl rfl rfl rfl rfl rfl rfl rfl rfl rfl rfl, Or.inl ⟨fun z => by omega, F1, rfl⟩⟩
  · intro τ1 y1 hB1 F1 f _ _ _
    have f1 := f.1
    exact ⟨hB1, K.fq F1 rfl rfl rfl rfl rfl rfl rfl rfl rfl rfl rfl, Or.inl ⟨fun z => by omega, F1, rfl⟩⟩
  · intro τ1 y1 v3 k3 hB1 F1 f _ d _
    have f1 := f.1
    have f3 := f.2.2.1
    have z := d.1
    rw [sum0 (by omega) (by omega) (by omega) (by omega) (by omega) (by omega)] at z
    have K1 : KM D N S ls τ1 := K.fq F1 rfl rfl rfl rfl rfl rfl rfl rfl rfl rfl rfl
    have lp : ∀ (τ2 : pm_S), ahM N σ τ2 → ∀ (k i q : Nat) (τ : pm_S), ((i + k : Nat) : Int) = n → q ≤ 330 * i → an_GB pm_B τ → KM D N S ls τ → sI τ 93 19 = sI σ 93 19 + i → gyN D N S ls i τ2 τ q → Ok 212 41 37 [.ref 93, .int (Int32.ofInt n), .int (Int32.ofInt (q : Int)), .int (Int32.ofInt (i : Int))] [] τ (fun r τ => an_GB pm_B τ ∧ KM D N S ls τ ∧ ((¬ (1 ≤ n ∧ n ≤ 400 ∧ sI σ 93 19 + n ≤ 9999) ∧ FQ FTd σ τ ∧ r = some (.int (Int32.ofInt (-1)))) ∨ (1 ≤ n ∧ n ≤ 400 ∧ sI σ 93 19 + n ≤ 9999 ∧ sI τ 93 19 = sI σ 93 19 + n ∧ ∃ (σ' : pm_S) (q : Nat), ahM N σ σ' ∧ gyN D N S ls n.toNat σ' τ q ∧ r = some (.int (Int32.ofInt (q : Int)))))) := by
      intro τ2 A k
      induction k with
      | zero =>
        intro i q τ hi hq hB Kt es g
        refine uf_q37 n q i hB ⟨by omega, by omega, by omega, trivial⟩ ?_
        intro τ3 y3 hB3 F3 _ _ _ _
        refine Ok.ic rfl rfl (by omega) (by omega) (by omega) (by omega) (fun w => ?_) (fun w => ?_)
        · refine uf_q47 n q i hB3 ⟨by omega, by omega, by omega, trivial⟩ ?_
          intro τ4 y4 hB4 F4 _ _ _ _
          have G4 : FQ [] τ τ4 := FQ.tr F3 F4
          refine ⟨hB4, Kt.fq G4 rfl rfl rfl rfl rfl rfl rfl rfl rfl rfl rfl, Or.inr ⟨by omega, by omega, by omega, ?_, τ2, q, A, ?_, rfl⟩⟩
          · rw [show sI τ4 93 19 = sI τ 93 19 from congrArg Int32.toInt (G4 93 19 rfl), es]
            omega
          · rw [show n.toNat = i by omega]
            exact gyN_e g G4
        · have w : (i : Int) < n := w
          exfalso
          omega
      | succ k ih =>
        intro i q τ hi hq hB Kt es g
        refine uf_q37 n q i hB ⟨by omega, by omega, by omega, trivial⟩ ?_
        intro τ3 y3 hB3 F3 _ _ _ _
        refine Ok.ic rfl rfl (by omega) (by omega) (by omega) (by omega) (fun w => ?_) (fun w => ?_)
        · have w : n ≤ (i : Int) := w
          exfalso
          omega
        refine uf_q40 n q i hB3 ⟨by omega, by omega, by omega, trivial⟩ ?_
        intro τ4 y4 hB4 F4 _ _ _ _
        have G4 : FQ [] τ τ4 := FQ.tr F3 F4
        have e4 : sI τ4 93 19 = sI τ 93 19 := congrArg Int32.toInt (G4 93 19 rfl)
        refine Ok.cv rfl rfl rfl rfl rfl rfl rfl ?_
        refine (x_gy (Kt.fq G4 rfl rfl rfl rfl rfl rfl rfl rfl rfl rfl rfl) (by omega) hB4).use (by decide) (fun r τ5 h => ?_)
        obtain ⟨hB5, K5, e5, q', hq', g5, rfl⟩ := h
        refine uf_q43 n q i (q' : Int) hB5 ⟨by omega, by omega, by omega, by omega, trivial⟩ ?_
        intro τ6 y6 hB6 F6 _ _ d6 _
        have s6 : y6 4 = ((q + q' : Nat) : Int) := by
          have z := d6.1
          rw [sum0 (by omega) (by omega) (by omega) (by omega) (by omega) (by omega)] at z
          omega
        rw [s6, show (i : Int) + 1 = ((i + 1 : Nat) : Int) by omega]
        refine ih (i + 1) (q + q') τ6 (by omega) (by omega) hB6 (K5.fq F6 rfl rfl rfl rfl rfl rfl rfl rfl rfl rfl rfl) ?_ (gyN_e (gyN_s g G4 g5) F6)
        rw [show sI τ6 93 19 = sI τ5 93 19 from congrArg Int32.toInt (F6 93 19 rfl), e5, e4, es]
        omega
    have hm : ∀ (k p : Nat) (τ : pm_S) (v : Value), p + k = N → v.category = 1 → an_GB pm_B τ → FQ [(93, 0), (99, 9999)] σ τ → (∀ j, j < p → τ.1 99 j = σ.1 96 j) → Ok 212 41 19 [.ref 93, .int (Int32.ofInt n), .int (Int32.ofInt (p : Int)), v] [] τ (fun r τ => an_GB pm_B τ ∧ KM D N S ls τ ∧ ((¬ (1 ≤ n ∧ n ≤ 400 ∧ sI σ 93 19 + n ≤ 9999) ∧ FQ FTd σ τ ∧ r = some (.int (Int32.ofInt (-1)))) ∨ (1 ≤ n ∧ n ≤ 400 ∧ sI σ 93 19 + n ≤ 9999 ∧ sI τ 93 19 = sI σ 93 19 + n ∧ ∃ (σ' : pm_S) (q : Nat), ahM N σ σ' ∧ gyN D N S ls n.toNat σ' τ q ∧ r = some (.int (Int32.ofInt (q : Int)))))) := by
      have eN := K.1.2.2.2.2.1
      intro k
      induction k with
      | zero =>
        intro p τ v hp cv hB F h
        refine uf_q19 n p N v cv hB ⟨by omega, by omega, by omega, trivial⟩ ⟨(congrArg Int32.toInt (F 93 5 rfl)).trans eN, trivial⟩ ?_
        intro τ3 y3 v4 k4 hB3 F3 _ _ _ _
        refine Ok.ic rfl rfl (by omega) (by omega) (by omega) (by omega) (fun w => ?_) (fun w => ?_)
        · refine uf_q33 n _ v4 rfl k4 hB3 ⟨by omega, trivial⟩ ?_
          intro τ4 y4 hB4 F4 _ _ _ _
          have G4 : FQ [(93, 0), (99, 9999)] σ τ4 := FQ.tr F (FQ.up (G := []) rfl (FQ.tr F3 F4))
          have A : ahM N σ τ4 := ⟨G4, fun j hj => (FQ.tr F3 F4 99 j rfl).trans (h j (by omega))⟩
          refine lp τ4 A n.toNat 0 0 τ4 (by omega) (Nat.zero_le _) hB4 (K.fq G4 rfl rfl rfl rfl rfl rfl rfl rfl rfl rfl rfl) ?_ ⟨FQ.rf _ _, rfl⟩
          rw [show sI τ4 93 19 = sI σ 93 19 from congrArg Int32.toInt (G4 93 19 rfl)]
          omega
        · have w : (p : Int) < (N : Int) := w
          exfalso
          omega
      | succ k ih =>
        intro p τ v hp cv hB F h
        have ep : ((p : Int)).toNat = p := by omega
        have b96 : 0 ≤ sI σ 96 p ∧ sI σ 96 p ≤ 9 := hB0 96 p (show p < 10 by omega)
        refine uf_q19 n p N v cv hB ⟨by omega, by omega, by omega, trivial⟩ ⟨(congrArg Int32.toInt (F 93 5 rfl)).trans eN, trivial⟩ ?_
        intro τ3 y3 v4 k4 hB3 F3 _ _ _ _
        refine Ok.ic rfl rfl (by omega) (by omega) (by omega) (by omega) (fun w => ?_) (fun w => ?_)
        · have w : (N : Int) ≤ (p : Int) := w
          exfalso
          omega
        have G3 : FQ [(93, 0), (99, 9999)] σ τ3 := FQ.tr F (FQ.up (G := []) rfl F3)
        refine uf_q23 n p (sI σ 96 p) v4 k4 hB3 ⟨by omega, by omega, b96, trivial⟩ ⟨by rw [ep]; exact congrArg Int32.toInt (G3 96 p rfl), trivial⟩ ?_
        intro τ4 y4 v5 k5 hB4 F4 _ _ _ _
        refine Ok.ast (n := 10) rfl rfl rfl (by decide) (by omega) (by omega) ?_
        rw [ep, oI]
        have hB5 : an_GB pm_B (put τ4 99 p (σ.1 96 p)) := put_GB hB4 b96
        have P5 : FQ [(99, 9999)] τ4 (put τ4 99 p (σ.1 96 p)) := FQ.put rfl
        have v5' : ∀ j, (put τ4 99 p (σ.1 96 p)).1 99 j = if j = p then σ.1 96 p else τ4.1 99 j := fun j => by
          rw [put_get]
          by_cases e : j = p
          · rw [if_pos ⟨rfl, e⟩, if_pos e]
          · rw [if_neg (fun z => e z.2), if_neg e]
        generalize put τ4 99 p (σ.1 96 p) = τ5 at hB5 P5 v5' ⊢
        refine uf_q31 n p v5 k5 hB5 ⟨by omega, by omega, trivial⟩ ?_
        intro τ6 y6 v6 k6 hB6 F6 _ _ _ _
        rw [show (p : Int) + 1 = ((p + 1 : Nat) : Int) by omega]
        refine ih (p + 1) τ6 v6 (by omega) k6 hB6 (FQ.tr G3 (FQ.tr (FQ.up (G := []) rfl F4) (FQ.tr (FQ.up (G := [(99, 9999)]) rfl P5) (FQ.up (G := []) rfl F6)))) (fun j hj => ?_)
        rw [F6 99 j rfl, v5' j]
        by_cases e : j = p
        · rw [if_pos e, e]
        · rw [if_neg e, F4 99 j rfl, F3 99 j rfl]
          exact h j (by omega)
    exact hm N 0 τ1 v3 (Nat.zero_add _) k3 hB1 (FQ.up (G := FTd) rfl F1) (fun j hj => absurd hj (Nat.not_lt_zero _))
  · intro τ1 y1 hB1 F1 f _ d _
    have f1 := f.1
    have f3 := f.2.2.1
    have z := d.1
    rw [sum0 (by omega) (by omega) (by omega) (by omega) (by omega) (by omega)] at z
    exact ⟨hB1, K.fq F1 rfl rfl rfl rfl rfl rfl rfl rfl rfl rfl rfl, Or.inl ⟨fun w => by omega, F1, rfl⟩⟩
/-- the same rows -/
theorem RX.tu {t t' u u' : Nat → Nat → Int32} (h : RX D N S t u) (e : t = t') (e' : u = u') : RX D N S t' u' := by
  rw [← e, ← e']
  exact h
theorem fq0 {σ τ : pm_S} (F : FQ [] σ τ) : τ.1 = σ.1 := funext fun P => row_fq F rfl
theorem rx_S {σ τ σ' υ : pm_S} {q q' : Nat} (h : RX D N S σ.1 σ'.1) (eN : sI σ 7 0 = (N : Int)) (eN' : sI σ' 93 5 = (N : Int)) (hs : gbS D N S ls σ τ q) (hm : gyS D N S ls σ' υ q') : RX D N S τ.1 υ.1 ∧ q = q' := by
  obtain ⟨τ1, τ2, τ3, b, s1, s2, s3, s4, sq⟩ := hs
  obtain ⟨υ1, υ2, υ3, b', m1, m2, m3, m4, mq⟩ := hm
  have x1 := rx_1 h s1 m1
  have x2 := rx_2 x1 s2 m2
  have e7 : sI τ2 7 0 = (N : Int) := (congrArg Int32.toInt ((s2.1 7 0 rfl).trans (s1.1 7 0 rfl))).trans eN
  have e5 : sI υ2 93 5 = (N : Int) := (congrArg Int32.toInt ((m2.1 93 5 rfl).trans (m1.1 93 5 rfl))).trans eN'
  have x3 := rx_3 x2.1 e7 e5 s3 m3
  refine ⟨rx_4 x3.1 s4 m4, ?_⟩
  rw [sq, mq, x3.2, x2.2]
  omega
theorem rx_N : ∀ {n : Nat} {σ τ σ' υ : pm_S} {q q' : Nat}, RX D N S σ.1 σ'.1 → sI σ 7 0 = (N : Int) → sI σ' 93 5 = (N : Int) → gbN D N S ls n σ τ q → gyN D N S ls n σ' υ q' → RX D N S τ.1 υ.1 ∧ q = q'
  | 0, σ, τ, σ', υ, q, q', h, _, _, hs, hm => ⟨h.tu (fq0 hs.1).symm (fq0 hm.1).symm, by rw [hs.2, hm.2]⟩
  | n + 1, σ, τ, σ', υ, q, q', h, eN, eN', ⟨a, b, q1, q2, f1, g1, c1, e1⟩, ⟨a', b', q1', q2', f1', g1', c1', e1'⟩ => by
    have h1 : RX D N S a.1 a'.1 := h.tu (fq0 f1).symm (fq0 f1').symm
    have x := rx_S h1 ((congrArg Int32.toInt (f1 7 0 rfl)).trans eN) ((congrArg Int32.toInt (f1' 93 5 rfl)).trans eN') g1 g1'
    have y := rx_N x.1 ((congrArg Int32.toInt ((gbS_F g1 7 0 rfl).trans (f1 7 0 rfl))).trans eN) ((congrArg Int32.toInt ((gyS_F g1' 93 5 rfl).trans (f1' 93 5 rfl))).trans eN') c1 c1'
    exact ⟨y.1, by rw [e1, e1', x.2, y.2]⟩
end PASSM
