/-! a Sunday goes by, the model -/
abbrev FGm : List (Nat × Nat) := [(93, 1), (93, 20), (93, 21), (93, 53), (97, 9999), (100, 9999)]
abbrev goMP (σ τ : pm_S) (N : Nat) : Prop := FQ FGm σ τ ∧ τ.1 93 1 = fogS (σ.1 108 0) (σ.1 93 1) ∧ sI τ 93 21 = (if fogB (σ.1 108 0) (σ.1 93 1) = true then 1 else 0) ∧ cI τ 53 = 0 ∧ τ.1 97 = cnS (awM σ (fogB (σ.1 108 0) (σ.1 93 1))) (σ.1 94) (σ.1 99) (σ.1 97) N ∧ τ.1 100 = stS (awM σ (fogB (σ.1 108 0) (σ.1 93 1))) (s1M σ 96) (s1M σ 99) (σ.1 100) N ∧ τ.1 93 20 = mlS (σ.1 93 20) (awM σ (fogB (σ.1 108 0) (σ.1 93 1))) (wM σ) N
def rdsM (c : cxt) (P : Nat) : Nat → P3 → P3 → Prop
  | 0, a, b => a = b
  | s + 1, a, b => ∃ m k, rdsM c P s a m ∧ rdm c P s k m b
abbrev tM (σ : pm_S) : P3 := (σ.1 103, σ.1 106, σ.1 107, 0)
abbrev caMP (σ τ : pm_S) (D N S : Nat) (b : P3) : Prop := FQ FAmr σ τ ∧ rwM b τ ∧ ((sI σ 108 2 = 1 ∧ rdsM (cM σ D) N S (tM σ) b) ∨ (sI σ 108 2 = 0 ∧ b = tM σ))
abbrev pyL (σ : pm_S) (ls : List (List Int)) (n : Nat) : Nat → P3 := pyF (bsM σ) (σ.1 103) (σ.1 101) (σ.1 102) (lwM σ ls) (σ.1 93 19) (σ.1 97, σ.1 106, σ.1 107, n)
abbrev paMP (σ τ : pm_S) (D : Nat) (ls : List (List Int)) (n : Nat) : Prop := FQ FPm σ τ ∧ τ.1 97 = (pyL σ ls n D).1 ∧ τ.1 106 = (pyL σ ls n D).2.1 ∧ τ.1 107 = (pyL σ ls n D).2.2.1 ∧ cI τ 53 = (((pyL σ ls n D).2.2.2 : Nat) : Int)
abbrev FImr : List (Nat × Nat) := [(93, 19), (99, 9999), (103, 9999)]
abbrev inMP (σ τ : pm_S) (D N : Nat) : Prop := FQ FImr σ τ ∧ sI τ 93 19 = sI σ 93 19 + 1 ∧ τ.1 103 = inS (inC (Int32.ofInt (sI σ 93 19 + 1)) (σ.1 108 3) (σ.1 108 1) (σ.1 107) (σ.1 105) (σ.1 103)) (σ.1 103) D ∧ ∀ j, j < N → τ.1 99 j = σ.1 96 j
theorem mLaw_fq {σ τ : pm_S} {ls : List (List Int)} {G : List (Nat × Nat)} (h : mLaw σ ls) (F : FQ G σ τ) (h36 : an_inF G 93 36 = false) (h16 : an_inP G 116 = false) (h17 : an_inP G 117 = false) (h18 : an_inP G 118 = false) (h19 : an_inP G 119 = false) (h20 : an_inP G 120 = false) : mLaw τ ls := ⟨(congrArg Int32.toInt (F 93 36 h36)).trans h.1, mt_LN.fr (fun i => ⟨F 116 i (an_inP_ok h16 i), F 117 i (an_inP_ok h17 i), F 118 i (an_inP_ok h18 i)⟩) ls 0 0 h.2.1, h.2.2.1, fun j hj => ⟨(congrArg Int32.toInt (F 119 j (an_inP_ok h19 j))).trans (h.2.2.2 j hj).1, (congrArg Int32.toInt (F 120 j (an_inP_ok h20 j))).trans (h.2.2.2 j hj).2⟩⟩
section GYM
variable {σ : pm_S} {ls : List (List Int)} {D N S : Nat} {Q : Option Value → pm_S → Prop}
theorem lwM_fq {τ : pm_S} {G : List (Nat × Nat)} (F : FQ G σ τ) (h3 : an_inP G 103 = false) (h5 : an_inP G 105 = false) (h1 : an_inP G 101 = false) (h4 : an_inP G 104 = false) (h2 : an_inP G 102 = false) (h8 : an_inP G 98 = false) (h0 : an_inP G 100 = false) (c5 : an_inF G 93 5 = false) (c19 : an_inF G 93 19 = false) : lwM τ ls = lwM σ ls := by
  have en : nhM τ = nhM σ := funext fun d => by
    have hrE : hrm τ (sI τ 104 d) = hrm σ (sI σ 104 d) := funext fun p => by
      show decide (sI τ 100 p = sI τ 104 d + 1) = decide (sI σ 100 p = sI σ 104 d + 1)
      unfold sI
      rw [row_fq F h0, row_fq F h4]
    show Int32.ofInt ((cntP (hrm τ (sI τ 104 d)) (sI τ 93 5).toNat : Nat) : Int) = Int32.ofInt ((cntP (hrm σ (sI σ 104 d)) (sI σ 93 5).toNat : Nat) : Int)
    rw [hrE, show sI τ 93 5 = sI σ 93 5 from congrArg Int32.toInt (F 93 5 c5)]
  funext pu d
  show LW (fcG (τ.1 103) (τ.1 105) (τ.1 101) (τ.1 104) (τ.1 102) (τ.1 98) (nhM τ) (τ.1 93 19) pu d) ls = LW (fcG (σ.1 103) (σ.1 105) (σ.1 101) (σ.1 104) (σ.1 102) (σ.1 98) (nhM σ) (σ.1 93 19) pu d) ls
  rw [en, row_fq F h3, row_fq F h5, row_fq F h1, row_fq F h4, row_fq F h2, row_fq F h8, F 93 19 c19]
set_option maxRecDepth 20000 in
/-- spot by spot -/
theorem x_gy1 (H : D ≤ 30 ∧ N ≤ 10 ∧ S ≤ 10 ∧ sI σ 93 11 = (D : Int) ∧ sI σ 93 5 = (N : Int) ∧ sI σ 93 2 = (S : Int)) (hu : ∀ d, d < D → nt (σ.1 101) d ≠ nt (σ.1 102) d) (h53 : cI σ 53 = 0) {f : Int} (hf : 0 ≤ f ∧ f ≤ 1) (hB0 : an_GB pm_B σ) (hQ : ∀ (b : P3) (τ : pm_S) (v : Value), v.category = 1 → an_GB pm_B τ → caMP σ τ D N S b → b.2.2.2 ≤ 300 → Ok 210 40 49 [.ref 93, .int (Int32.ofInt f), .int (Int32.ofInt 0), v] [] τ Q) : ∀ (k s : Nat) (t : P3) (τ : pm_S) (v : Value), s + k = S → v.category = 1 → an_GB pm_B τ → FQ FAmr σ τ → rwM t τ → t.2.2.2 + 10 * opnd t.2.2.1 D ≤ 300 → ((sI σ 108 2 = 1 ∧ rdsM (cM σ D) N s (tM σ) t) ∨ (sI σ 108 2 = 0 ∧ t = tM σ)) → Ok 210 40 32 [.ref 93, .int (Int32.ofInt f), .int (Int32.ofInt (s : Int)), v] [] τ Q := by
  obtain ⟨hD, hN, hS, eD, eN, eS⟩ := H
  have b82 : 0 ≤ sI σ 108 2 ∧ sI σ 108 2 ≤ 1 := hB0 108 2 (by decide)
  intro k
  induction k with
  | zero =>
    intro s t τ v hs cv hB F ht hb hr
    have e : s = S := by omega
    subst e
    refine qf_g32 f s s v cv hB ⟨hf, by omega, by omega, trivial⟩ ⟨(congrArg Int32.toInt (F 93 2 rfl)).trans eS, trivial⟩ ?_
    intro τ1 y1 v1 k1 hB1 F1 _ _ _ _
    refine Ok.ic rfl rfl (by omega) (by omega) (by omega) (by omega) (fun g => ?_) (fun g => ?_)
    · refine qf_g47 f _ v1 rfl k1 hB1 ⟨hf, trivial⟩ ?_
      intro τ2 y2 v2 k2 hB2 F2 _ _ _ _
      exact hQ t τ2 v2 k2 hB2 ⟨FQ.tr F (FQ.up (G := []) rfl (FQ.tr F1 F2)), (ht.fq F1 rfl rfl rfl rfl).fq F2 rfl rfl rfl rfl, hr⟩ (by omega)
    · have g : (s : Int) < (s : Int) := g
      exfalso
      omega
  | succ k ih =>
    intro s t τ v hs cv hB F ht hb hr
    refine qf_g32 f s S v cv hB ⟨hf, by omega, by omega, trivial⟩ ⟨(congrArg Int32.toInt (F 93 2 rfl)).trans eS, trivial⟩ ?_
    intro τ1 y1 v1 k1 hB1 F1 _ _ _ _
    refine Ok.ic rfl rfl (by omega) (by omega) (by omega) (by omega) (fun g => ?_) (fun g => ?_)
    · have g : (S : Int) ≤ (s : Int) := g
      exfalso
      omega
    have G1 : FQ FAmr σ τ1 := FQ.tr F (FQ.up (G := []) rfl F1)
    refine qf_g36 f s (sI σ 108 2) v1 k1 hB1 ⟨hf, by omega, b82, trivial⟩ ⟨congrArg Int32.toInt (G1 108 2 rfl), trivial⟩ ?_ ?_
    · intro τ2 y2 v2 k2 hB2 F2 fx _ _ _
      have f2 := fx.2.2.1
      refine hQ t τ2 v2 k2 hB2 ⟨FQ.tr G1 (FQ.up (G := []) rfl F2), (ht.fq F1 rfl rfl rfl rfl).fq F2 rfl rfl rfl rfl, ?_⟩ (by omega)
      rcases hr with ⟨z, _⟩ | z
      · exfalso
        omega
      · exact Or.inr z
    · intro τ2 y2 v2 k2 hB2 F2 fx _ _ _
      have f2 := fx.2.2.1
      have G2 : FQ FAmr σ τ2 := FQ.tr G1 (FQ.up (G := []) rfl F2)
      have t2 := (ht.fq F1 rfl rfl rfl rfl).fq F2 rfl rfl rfl rfl
      have hr : rdsM (cM σ D) N s (tM σ) t := by
        rcases hr with ⟨_, z⟩ | ⟨z, _⟩
        · exact z
        · exfalso
          omega
      refine Ok.cv rfl rfl rfl rfl rfl rfl rfl ?_
      refine (x_mat (σ := τ2) (D := D) (P := N) (s := s) (by omega) hD hN ((congrArg Int32.toInt (G2 93 11 rfl)).trans eD) ((congrArg Int32.toInt (G2 93 5 rfl)).trans eN) (by rw [row_fq G2 (P := 101) rfl, row_fq G2 (P := 102) rfl]; exact hu) t2 hb hB2).use (by decide) (fun r τ3 q => ?_)
      obtain ⟨rfl, hB3, F3, b, k', q1, q2, q3⟩ := q
      have ec : cM τ2 D = cM σ D := by
        show (bsM τ2, τ2.1 104, τ2.1 101, τ2.1 102, τ2.1 93 19, D) = (bsM σ, σ.1 104, σ.1 101, σ.1 102, σ.1 93 19, D)
        rw [bsM_fq G2 rfl rfl rfl rfl, row_fq G2 (P := 104) rfl, row_fq G2 (P := 101) rfl, row_fq G2 (P := 102) rfl, show τ2.1 93 19 = σ.1 93 19 from G2 93 19 rfl]
      rw [ec] at q1
      refine qf_g45 f s v2 k2 hB3 ⟨hf, by omega, trivial⟩ ?_
      intro τ4 y4 v4 k4 hB4 F4 _ _ _ _
      rw [show (s : Int) + 1 = ((s + 1 : Nat) : Int) by omega]
      exact ih (s + 1) b τ4 v4 (by omega) k4 hB4 (FQ.tr G2 (FQ.tr F3 (FQ.up (G := []) rfl F4))) (q2.fq F4 rfl rfl rfl rfl) q3 (Or.inl ⟨by omega, t, k', hr, q1⟩)
set_option maxRecDepth 20000 in
/-- debt by debt -/
theorem x_gy2 (hw : ∀ l ∈ ls, lnW l) (hD : D ≤ 30) (eD : sI σ 93 11 = (D : Int)) (hL : mLaw σ ls) {n0 : Nat} (e53 : cI σ 53 = (n0 : Int)) (hn : n0 ≤ 300) {f : Int} (hf : 0 ≤ f ∧ f ≤ 1) (hQ : ∀ (τ : pm_S) (v : Value), v.category = 1 → an_GB pm_B τ → paMP σ τ D ls n0 → Ok 210 40 58 [.ref 93, .int (Int32.ofInt f), .int (Int32.ofInt (D : Int)), v] [] τ Q) : ∀ (k d : Nat) (τ : pm_S) (v : Value), d + k = D → v.category = 1 → an_GB pm_B τ → paMP σ τ d ls n0 → Ok 210 40 49 [.ref 93, .int (Int32.ofInt f), .int (Int32.ofInt (d : Int)), v] [] τ Q := by
  intro k
  induction k with
  | zero =>
    intro d τ v hd cv hB h
    obtain ⟨F, r1, r2, r3, r4⟩ := h
    have e : d = D := by omega
    subst e
    refine qf_g49 f d d v cv hB ⟨hf, by omega, by omega, trivial⟩ ⟨(congrArg Int32.toInt (F 93 11 rfl)).trans eD, trivial⟩ ?_
    intro τ1 y1 v1 k1 hB1 F1 _ _ _ _
    refine Ok.ic rfl rfl (by omega) (by omega) (by omega) (by omega) (fun g => ?_) (fun g => ?_)
    · exact hQ τ1 v1 k1 hB1 ⟨FQ.tr F (FQ.up (G := []) rfl F1), (row_fq F1 rfl).trans r1, (row_fq F1 rfl).trans r2, (row_fq F1 rfl).trans r3, (congrArg Int32.toInt (F1 93 53 rfl)).trans r4⟩
    · have g : (d : Int) < (d : Int) := g
      exfalso
      omega
  | succ k ih =>
    intro d τ v hd cv hB h
    obtain ⟨F, r1, r2, r3, r4⟩ := h
    have pn : (pyL σ ls n0 d).2.2.2 ≤ n0 + d := pyF_n _ _ _ _ _ _ _ d
    refine qf_g49 f d D v cv hB ⟨hf, by omega, by omega, trivial⟩ ⟨(congrArg Int32.toInt (F 93 11 rfl)).trans eD, trivial⟩ ?_
    intro τ1 y1 v1 k1 hB1 F1 _ _ _ _
    refine Ok.ic rfl rfl (by omega) (by omega) (by omega) (by omega) (fun g => ?_) (fun g => ?_)
    · have g : (D : Int) ≤ (d : Int) := g
      exfalso
      omega
    refine qf_g53 f d v1 k1 hB1 ⟨hf, by omega, trivial⟩ ?_
    intro τ2 y2 v2 k2 hB2 F2 _ _ _ _
    have g2 : FQ [] τ τ2 := FQ.tr F1 F2
    have G2 : FQ FPm σ τ2 := FQ.tr F (FQ.up (G := []) rfl g2)
    refine Ok.cv rfl rfl rfl rfl rfl rfl rfl ?_
    refine (x_pym (σ := τ2) (ls := ls) hw d (pyL σ ls n0 d).2.2.2 (by omega) (by omega) (mLaw_fq hL G2 rfl rfl rfl rfl rfl rfl) ((congrArg Int32.toInt (g2 93 53 rfl)).trans r4) hB2).use (by decide) (fun r τ3 q => ?_)
    obtain ⟨rfl, hB3, F3, s1, s2, s3, s4⟩ := q
    have e : pyM τ2 ls (τ2.1 97, τ2.1 106, τ2.1 107, (pyL σ ls n0 d).2.2.2) d = pyL σ ls n0 (d + 1) := by
      show pyS (bsM τ2) (τ2.1 103) (τ2.1 101) (τ2.1 102) (lwM τ2 ls) (τ2.1 93 19) (τ2.1 97, τ2.1 106, τ2.1 107, (pyL σ ls n0 d).2.2.2) d = pyS (bsM σ) (σ.1 103) (σ.1 101) (σ.1 102) (lwM σ ls) (σ.1 93 19) (pyL σ ls n0 d) d
      rw [bsM_fq G2 rfl rfl rfl rfl, lwM_fq G2 rfl rfl rfl rfl rfl rfl rfl rfl rfl, row_fq G2 (P := 103) rfl, row_fq G2 (P := 101) rfl, row_fq G2 (P := 102) rfl, show τ2.1 93 19 = σ.1 93 19 from G2 93 19 rfl, row_fq g2 (P := 97) rfl, row_fq g2 (P := 106) rfl, row_fq g2 (P := 107) rfl, r1, r2, r3]
    rw [e] at s1 s2 s3 s4
    refine qf_g56 f d v2 k2 hB3 ⟨hf, by omega, trivial⟩ ?_
    intro τ4 y4 v4 k4 hB4 F4 _ _ _ _
    rw [show (d : Int) + 1 = ((d + 1 : Nat) : Int) by omega]
    exact ih (d + 1) τ4 v4 (by omega) k4 hB4 ⟨FQ.tr G2 (FQ.tr F3 (FQ.up (G := []) rfl F4)), (row_fq F4 rfl).trans s1, (row_fq F4 rfl).trans s2, (row_fq F4 rfl).trans s3, (congrArg Int32.toInt (F4 93 53 rfl)).trans s4⟩
abbrev inL (σ : pm_S) (su : Int) : Nat → Int32 := inC (Int32.ofInt su) (σ.1 108 3) (σ.1 108 1) (σ.1 107) (σ.1 105) (σ.1 103)
set_option maxRecDepth 20000 in
/-- interest -/
theorem x_gy3 (hD : D ≤ 30) (eD : sI σ 93 11 = (D : Int)) (hsu : 0 ≤ sI σ 93 19 ∧ sI σ 93 19 ≤ 10000) {f : Int} (hf : 0 ≤ f ∧ f ≤ 1) (hB0 : an_GB pm_B σ) (hQ : ∀ (τ : pm_S) (v : Value), v.category = 1 → an_GB pm_B τ → FQ [(103, 9999)] σ τ → τ.1 103 = inS (inL σ (sI σ 93 19)) (σ.1 103) D → Ok 210 40 117 [.ref 93, .int (Int32.ofInt f), .int (Int32.ofInt (D : Int)), v] [] τ Q) : ∀ (k d : Nat) (τ : pm_S) (v : Value), d + k = D → v.category = 1 → an_GB pm_B τ → FQ [(103, 9999)] σ τ → τ.1 103 = inS (inL σ (sI σ 93 19)) (σ.1 103) d → Ok 210 40 66 [.ref 93, .int (Int32.ofInt f), .int (Int32.ofInt (d : Int)), v] [] τ Q := by
  have b3 : 1 ≤ sI σ 108 3 ∧ sI σ 108 3 ≤ 52 := hB0 108 3 (by decide)
  have b1 : 0 ≤ sI σ 108 1 ∧ sI σ 108 1 ≤ 99 := hB0 108 1 (by decide)
  intro k
  induction k with
  | zero =>
    intro d τ v hd cv hB F r
    have e : d = D := by omega
    subst e
    refine qf_g66 f d d v cv hB ⟨hf, by omega, by omega, trivial⟩ ⟨(congrArg Int32.toInt (F 93 11 rfl)).trans eD, trivial⟩ ?_
    intro τ1 y1 v1 k1 hB1 F1 _ _ _ _
    refine Ok.ic rfl rfl (by omega) (by omega) (by omega) (by omega) (fun g => ?_) (fun g => ?_)
    · exact hQ τ1 v1 k1 hB1 (FQ.tr F (FQ.up (G := []) rfl F1)) ((row_fq F1 rfl).trans r)
    · have g : (d : Int) < (d : Int) := g
      exfalso
      omega
  | succ k ih =>
    intro d τ v hd cv hB F r
    have ed : ((d : Int)).toNat = d := by omega
    have bc : 0 ≤ sI σ 103 d ∧ sI σ 103 d ≤ 99999 := hB0 103 d (show d < 30 by omega)
    refine qf_g66 f d D v cv hB ⟨hf, by omega, by omega, trivial⟩ ⟨(congrArg Int32.toInt (F 93 11 rfl)).trans eD, trivial⟩ ?_
    intro τ1 y1 v1 k1 hB1 F1 _ _ _ _
    refine Ok.ic rfl rfl (by omega) (by omega) (by omega) (by omega) (fun g => ?_) (fun g => ?_)
    · have g : (D : Int) ≤ (d : Int) := g
      exfalso
      omega
    have G1 : FQ [(103, 9999)] σ τ1 := FQ.tr F (FQ.up (G := []) rfl F1)
    have r1 : τ1.1 103 = inS (inL σ (sI σ 93 19)) (σ.1 103) d := (row_fq F1 rfl).trans r
    have cd : sI τ1 103 d = sI σ 103 d := by
      show (τ1.1 103 d).toInt = _
      rw [r1, inS_p]
    -- as it was
    have same : inL σ (sI σ 93 19) d = σ.1 103 d → ∀ (τ' : pm_S) (v' : Value), v'.category = 1 → an_GB pm_B τ' → FQ [] τ1 τ' → Ok 210 40 66 [.ref 93, .int (Int32.ofInt f), .int (Int32.ofInt ((d : Int) + 1)), v'] [] τ' Q := fun e τ' v' kv hB' F' => by
      rw [show (d : Int) + 1 = ((d + 1 : Nat) : Int) by omega]
      refine ih (d + 1) τ' v' (by omega) kv hB' (FQ.tr G1 (FQ.up (G := []) rfl F')) ?_
      rw [inS_n e, row_fq F' rfl, r1]
    have more : ∀ (w : Int) (τ' : pm_S) (v' : Value), v'.category = 1 → 0 ≤ w → w ≤ 99999 → Int32.ofInt w = inL σ (sI σ 93 19) d → an_GB pm_B τ' → FQ [] τ1 τ' → Ok 210 40 114 [.ref 93, .int (Int32.ofInt f), .int (Int32.ofInt (d : Int)), v'] [.int (Int32.ofInt w), .int (Int32.ofInt (d : Int)), .ref 103] τ' Q := fun w τ' v' kv w0 w1 e hB' F' => by
      refine Ok.ast (n := 30) rfl rfl rfl (by decide) (by omega) (by omega) ?_
      rw [ed]
      have hB4 : an_GB pm_B (put τ' 103 d (Int32.ofInt w)) := put_GB hB' (show (0 : Int) ≤ (Int32.ofInt w).toInt ∧ (Int32.ofInt w).toInt ≤ 99999 by rw [ti_of (by omega) (by omega)]; omega)
      have P4 : FQ [(103, 9999)] τ' (put τ' 103 d (Int32.ofInt w)) := FQ.put rfl
      have R4 : (put τ' 103 d (Int32.ofInt w)).1 103 = inS (inL σ (sI σ 93 19)) (σ.1 103) (d + 1) := by rw [row_put, row_fq F' rfl, r1, inS_u, e]
      generalize put τ' 103 d (Int32.ofInt w) = τ4 at hB4 P4 R4 ⊢
      refine qf_g115 f d v' kv hB4 ⟨hf, by omega, trivial⟩ ?_
      intro τ5 y5 v5 k5 hB5 F5 _ _ _ _
      rw [show (d : Int) + 1 = ((d + 1 : Nat) : Int) by omega]
      exact ih (d + 1) τ5 v5 (by omega) k5 hB5 (FQ.tr G1 (FQ.tr (FQ.up (G := []) rfl F') (FQ.tr P4 (FQ.up (G := []) rfl F5)))) ((row_fq F5 rfl).trans R4)
    refine qf_g70 f d (sI σ 107 d) (sI σ 93 19) (sI σ 105 d) (sI σ 108 3) (sI σ 103 d) (sI σ 108 1) v1 k1 hB1 ⟨hf, by omega, ai_rng _, hsu, ai_rng _, b3, bc, b1, trivial⟩ ⟨by rw [ed]; exact congrArg Int32.toInt (G1 107 d rfl), congrArg Int32.toInt (G1 93 19 rfl), by rw [ed]; exact congrArg Int32.toInt (G1 105 d rfl), congrArg Int32.toInt (G1 108 3 rfl), by rw [ed]; exact cd, congrArg Int32.toInt (G1 108 1 rfl), trivial⟩ ?_ ?_ ?_ ?_
    · intro τ2 y2 v2 k2 hB2 F2 _ rl _ _
      refine same ?_ τ2 v2 k2 hB2 F2
      have ne : ¬ σ.1 107 d = 0 := fun z => rl.1 (by show (σ.1 107 d).toInt = 0; rw [z]; rfl)
      exact if_neg (fun z => ne z.1)
    · intro τ2 y2 hB2 F2 fx _ dd _
      have f2 := fx.2.2.1
      have f9 := fx.2.2.2.2.2.2.2.2.2.1
      have f12 := fx.2.2.2.2.2.2.2.2.2.2.2.2.1
      have o0 : σ.1 107 d = 0 := Int32.toInt_inj.mp (by show sI σ 107 d = 0; omega)
      have e8 : Int32.ofInt (y2 8) = Int32.ofInt (sI σ 93 19) - σ.1 105 d := by
        rw [← dd.1]
        simp only [oI]
        rfl
      have e9 : an_f 10 (Int32.ofInt (sI σ 93 19) - σ.1 105 d) (σ.1 108 3) = 0 := by
        refine Int32.toInt_inj.mp ?_
        have z := dd.2.1
        rw [e8] at z
        simp only [oI] at z ⊢
        rw [z]
        show y2 9 = (0 : Int)
        omega
      have eq : inL σ (sI σ 93 19) d = an_f 11 (Int32.ofInt 99999) (σ.1 103 d + an_f 9 (σ.1 103 d * σ.1 108 1) (Int32.ofInt 100)) := if_pos ⟨o0, e9⟩
      have e10 : Int32.ofInt (y2 10) = σ.1 103 d * σ.1 108 1 := by
        rw [← dd.2.2.1, oI, oI, oI]
        rfl
      have e11 : Int32.ofInt (y2 11) = an_f 9 (σ.1 103 d * σ.1 108 1) (Int32.ofInt 100) := by
        rw [← dd.2.2.2.1, oI, e10]
      have e12 : Int32.ofInt (y2 12) = σ.1 103 d + an_f 9 (σ.1 103 d * σ.1 108 1) (Int32.ofInt 100) := by
        rw [← dd.2.2.2.2.1, oI, oI, e11]
        rfl
      refine more 99999 τ2 _ rfl (by decide) (by decide) ?_ hB2 F2
      rw [eq, ← e12]
      refine Int32.toInt_inj.mp ?_
      rw [zbE (by omega), ti_of (by decide) (by decide)]
      omega
    · intro τ2 y2 hB2 F2 fx _ dd _
      have f2 := fx.2.2.1
      have f9 := fx.2.2.2.2.2.2.2.2.2.1
      have f12 := fx.2.2.2.2.2.2.2.2.2.2.2.2.1
      have o0 : σ.1 107 d = 0 := Int32.toInt_inj.mp (by show sI σ 107 d = 0; omega)
      have e8 : Int32.ofInt (y2 8) = Int32.ofInt (sI σ 93 19) - σ.1 105 d := by
        rw [← dd.1]
        simp only [oI]
        rfl
      have e9 : an_f 10 (Int32.ofInt (sI σ 93 19) - σ.1 105 d) (σ.1 108 3) = 0 := by
        refine Int32.toInt_inj.mp ?_
        have z := dd.2.1
        rw [e8] at z
        simp only [oI] at z ⊢
        rw [z]
        show y2 9 = (0 : Int)
        omega
      have eq : inL σ (sI σ 93 19) d = an_f 11 (Int32.ofInt 99999) (σ.1 103 d + an_f 9 (σ.1 103 d * σ.1 108 1) (Int32.ofInt 100)) := if_pos ⟨o0, e9⟩
      have e10 : Int32.ofInt (y2 10) = σ.1 103 d * σ.1 108 1 := by
        rw [← dd.2.2.1, oI, oI, oI]
        rfl
      have e11 : Int32.ofInt (y2 11) = an_f 9 (σ.1 103 d * σ.1 108 1) (Int32.ofInt 100) := by
        rw [← dd.2.2.2.1, oI, e10]
      have e12 : Int32.ofInt (y2 12) = σ.1 103 d + an_f 9 (σ.1 103 d * σ.1 108 1) (Int32.ofInt 100) := by
        rw [← dd.2.2.2.2.1, oI, oI, e11]
        rfl
      refine more (y2 12) τ2 _ rfl (by omega) (by omega) ?_ hB2 F2
      rw [eq, ← e12]
      refine Int32.toInt_inj.mp ?_
      rw [zbE (by omega), ti_of (by omega) (by omega)]
      omega
    · intro τ2 y2 v2 k2 hB2 F2 fx rl dd _
      refine same ?_ τ2 v2 k2 hB2 F2
      refine if_neg (fun z => rl.1 ?_)
      have e8 : Int32.ofInt (y2 8) = Int32.ofInt (sI σ 93 19) - σ.1 105 d := by
        rw [← dd.1]
        simp only [oI]
        rfl
      have w := dd.2.1
      have z2 : an_f 10 (Int32.ofInt (sI σ 93 19) - σ.1 105 d) (σ.1 108 3) = 0 := z.2
      rw [e8] at w
      simp only [oI] at w z2
      rw [z2] at w
      exact w.symm
set_option maxRecDepth 20000 in
/-- home again -/
theorem x_gy4 (hN : N ≤ 10) (eN : sI σ 93 5 = (N : Int)) {f n : Int} (hf : 0 ≤ f ∧ f ≤ 1) (hn : 0 ≤ n ∧ n ≤ 1000) (e53 : cI σ 53 = n) (hB0 : an_GB pm_B σ) (hQ : ∀ τ : pm_S, an_GB pm_B τ → FQ [(99, 9999)] σ τ → (∀ j, j < N → τ.1 99 j = σ.1 96 j) → Q (some (.int (Int32.ofInt n))) τ) : ∀ (k p : Nat) (τ : pm_S) (v : Value), p + k = N → v.category = 1 → an_GB pm_B τ → FQ [(99, 9999)] σ τ → (∀ j, j < p → τ.1 99 j = σ.1 96 j) → Ok 210 40 119 [.ref 93, .int (Int32.ofInt f), .int (Int32.ofInt (p : Int)), v] [] τ Q := by
  intro k
  induction k with
  | zero =>
    intro p τ v hp cv hB F h
    have e : p = N := by omega
    subst e
    refine qf_g119 f p p v cv hB ⟨hf, by omega, by omega, trivial⟩ ⟨(congrArg Int32.toInt (F 93 5 rfl)).trans eN, trivial⟩ ?_
    intro τ1 y1 v1 k1 hB1 F1 _ _ _ _
    refine Ok.ic rfl rfl (by omega) (by omega) (by omega) (by omega) (fun g => ?_) (fun g => ?_)
    · refine qf_g133 f n _ v1 rfl k1 hB1 ⟨hf, hn, trivial⟩ ⟨(congrArg Int32.toInt ((F1 93 53 rfl).trans (F 93 53 rfl))).trans e53, trivial⟩ ?_
      intro τ2 y2 hB2 F2 _ _ _ _
      exact hQ τ2 hB2 (FQ.tr F (FQ.up (G := []) rfl (FQ.tr F1 F2))) (fun j hj => (FQ.tr F1 F2 99 j rfl).trans (h j hj))
    · have g : (p : Int) < (p : Int) := g
      exfalso
      omega
  | succ k ih =>
    intro p τ v hp cv hB F h
    have ep : ((p : Int)).toNat = p := by omega
    have b96 : 0 ≤ sI σ 96 p ∧ sI σ 96 p ≤ 9 := hB0 96 p (show p < 10 by omega)
    refine qf_g119 f p N v cv hB ⟨hf, by omega, by omega, trivial⟩ ⟨(congrArg Int32.toInt (F 93 5 rfl)).trans eN, trivial⟩ ?_
    intro τ1 y1 v1 k1 hB1 F1 _ _ _ _
    refine Ok.ic rfl rfl (by omega) (by omega) (by omega) (by omega) (fun g => ?_) (fun g => ?_)
    · have g : (N : Int) ≤ (p : Int) := g
      exfalso
      omega
    have G1 : FQ [(99, 9999)] σ τ1 := FQ.tr F (FQ.up (G := []) rfl F1)
    refine qf_g123 f p (sI σ 96 p) v1 k1 hB1 ⟨hf, by omega, b96, trivial⟩ ⟨by rw [ep]; exact congrArg Int32.toInt (G1 96 p rfl), trivial⟩ ?_
    intro τ2 y2 v2 k2 hB2 F2 _ _ _ _
    refine Ok.ast (n := 10) rfl rfl rfl (by decide) (by omega) (by omega) ?_
    rw [ep, oI]
    have hB3 : an_GB pm_B (put τ2 99 p (σ.1 96 p)) := put_GB hB2 b96
    have P3' : FQ [(99, 9999)] τ2 (put τ2 99 p (σ.1 96 p)) := FQ.put rfl
    have v3 : ∀ j, (put τ2 99 p (σ.1 96 p)).1 99 j = if j = p then σ.1 96 p else τ2.1 99 j := fun j => by
      rw [put_get]
      by_cases e : j = p
      · rw [if_pos ⟨rfl, e⟩, if_pos e]
      · rw [if_neg (fun z => e z.2), if_neg e]
    generalize put τ2 99 p (σ.1 96 p) = τ3 at hB3 P3' v3 ⊢
    refine qf_g131 f p v2 k2 hB3 ⟨hf, by omega, trivial⟩ ?_
    intro τ4 y4 v4 k4 hB4 F4 _ _ _ _
    rw [show (p : Int) + 1 = ((p + 1 : Nat) : Int) by omega]
    refine ih (p + 1) τ4 v4 (by omega) k4 hB4 (FQ.tr G1 (FQ.tr (FQ.up (G := []) rfl F2) (FQ.tr P3' (FQ.up (G := []) rfl F4)))) (fun j hj => ?_)
    rw [F4 99 j rfl, v3 j]
    by_cases e : j = p
    · rw [if_pos e, e]
    · rw [if_neg e, F2 99 j rfl, F1 99 j rfl]
      exact h j (by omega)
set_option maxRecDepth 20000 in
theorem x_gyM (hw : ∀ l ∈ ls, lnW l) (H : D ≤ 30 ∧ N ≤ 10 ∧ S ≤ 10 ∧ sI σ 93 11 = (D : Int) ∧ sI σ 93 5 = (N : Int) ∧ sI σ 93 2 = (S : Int)) (hu : ∀ d, d < D → nt (σ.1 101) d ≠ nt (σ.1 102) d) (hsu : 0 ≤ sI σ 93 19 ∧ sI σ 93 19 ≤ 9998) (hL : mLaw σ ls) (hB0 : an_GB pm_B σ) : Sp 210 40 [.ref 93] σ (fun r τ => an_GB pm_B τ ∧ ∃ (τ1 τ2 τ3 : pm_S) (b : P3), goMP σ τ1 N ∧ caMP τ1 τ2 D N S b ∧ paMP τ2 τ3 D ls b.2.2.2 ∧ inMP τ3 τ D N ∧ b.2.2.2 ≤ 300 ∧ r = some (.int (Int32.ofInt (((pyL τ2 ls b.2.2.2 D).2.2.2 : Nat) : Int)))) := by
  obtain ⟨hD, hN, hS, eD, eN, eS⟩ := H
  have b80 : 0 ≤ sI σ 108 0 ∧ sI σ 108 0 ≤ 100 := hB0 108 0 (by decide)
  -- behind the fog
  have rest : ∀ (τ : pm_S) (fg : Bool) (v2 v3 : Value), fg = fogB (σ.1 108 0) (σ.1 93 1) → v2.category = 1 → v3.category = 1 → an_GB pm_B τ → FQ [(93, 53), (93, 1), (93, 21)] σ τ → τ.1 93 1 = fogS (σ.1 108 0) (σ.1 93 1) → sI τ 93 21 = (if fg = true then 1 else 0) → cI τ 53 = 0 → Ok 210 40 29 [.ref 93, .int (Int32.ofInt (if fg = true then 1 else 0)), v2, v3] [.int (Int32.ofInt (if fg = true then 1 else 0)), .ref 93] τ (fun r τ => an_GB pm_B τ ∧ ∃ (τ1 τ2 τ3 : pm_S) (b : P3), goMP σ τ1 N ∧ caMP τ1 τ2 D N S b ∧ paMP τ2 τ3 D ls b.2.2.2 ∧ inMP τ3 τ D N ∧ b.2.2.2 ≤ 300 ∧ r = some (.int (Int32.ofInt (((pyL τ2 ls b.2.2.2 D).2.2.2 : Nat) : Int)))) := by
    intro τ fg v2 v3 efg c2 c3 hB F e1 e21 e53
    have hf : 0 ≤ (if fg = true then (1 : Int) else 0) ∧ (if fg = true then (1 : Int) else 0) ≤ 1 := by split <;> decide
    refine Ok.cv rfl rfl rfl rfl rfl rfl rfl ?_
    refine (x_go (σ := τ) (fg := fg) (N := N) hN ((congrArg Int32.toInt (F 93 5 rfl)).trans eN) hB).use (by decide) (fun r τa q => ?_)
    obtain ⟨rfl, hBa, Fa, q1, q2, q3⟩ := q
    refine qf_g30 (if fg = true then 1 else 0) v2 v3 c2 c3 hBa ⟨hf, trivial⟩ ?_
    intro τ1 y1 v4 c4 hB1 F1 _ _ _ _
    have G1 : FQ FGm σ τ1 := FQ.tr (FQ.up (G := [(93, 53), (93, 1), (93, 21)]) rfl F) (FQ.tr (FQ.up (G := FGo) rfl Fa) (FQ.up (G := []) rfl F1))
    have go : goMP σ τ1 N := by
      have s4 : ∀ {P : Nat}, an_inP [(93, 53), (93, 1), (93, 21)] P = false → τ.1 P = σ.1 P := fun {P} h => row_fq F h
      have ea : awM τ fg = awM σ (fogB (σ.1 108 0) (σ.1 93 1)) := by
        rw [efg]
        unfold awM
        rw [s4 (P := 96) rfl, s4 (P := 99) rfl, s4 (P := 94) rfl, s4 (P := 97) rfl]
      have es : ∀ P, an_inP [(93, 53), (93, 1), (93, 21)] P = false → s1M τ P = s1M σ P := fun P h => by
        unfold s1M
        rw [s4 (P := P) h]
      have ew : wM τ = wM σ := funext fun p => by
        show Int32.ofInt (mlF τ (sI τ 96 p) (sI τ 99 p)) = Int32.ofInt (mlF σ (sI σ 96 p) (sI σ 99 p))
        unfold mlF
        unfold sI
        rw [s4 (P := 96) rfl, s4 (P := 99) rfl, s4 (P := 95) rfl]
      rw [ea, s4 (P := 94) rfl, s4 (P := 99) rfl, s4 (P := 97) rfl] at q1
      rw [ea, es 96 rfl, es 99 rfl, s4 (P := 100) rfl] at q2
      rw [ea, ew, show τ.1 93 20 = σ.1 93 20 from F 93 20 rfl] at q3
      refine ⟨G1, ?_, ?_, ?_, (row_fq F1 rfl).trans q1, (row_fq F1 rfl).trans q2, (F1 93 20 rfl).trans q3⟩
      · rw [F1 93 1 rfl, Fa 93 1 rfl, e1]
      · rw [← efg]
        exact (congrArg Int32.toInt ((F1 93 21 rfl).trans (Fa 93 21 rfl))).trans e21
      · exact (congrArg Int32.toInt ((F1 93 53 rfl).trans (Fa 93 53 rfl))).trans e53
    have op30 : opnd (tM τ1).2.2.1 D ≤ D := cntP_le _ D
    have rw0 : rwM (tM τ1) τ1 := ⟨rfl, rfl, rfl, go.2.2.2.1⟩
    refine x_gy1 (σ := τ1) (D := D) (N := N) (S := S) ⟨hD, hN, hS, (congrArg Int32.toInt (G1 93 11 rfl)).trans eD, (congrArg Int32.toInt (G1 93 5 rfl)).trans eN, (congrArg Int32.toInt (G1 93 2 rfl)).trans eS⟩ (by rw [row_fq G1 (P := 101) rfl, row_fq G1 (P := 102) rfl]; exact hu) go.2.2.2.1 hf hB1 (fun b τ2 w k2 hB2 ca n2 => ?_) S 0 (tM τ1) τ1 v4 (Nat.zero_add _) c4 hB1 (FQ.rf _ _) rw0 (by show 0 + 10 * opnd (tM τ1).2.2.1 D ≤ 300; omega) ?_
    · have F2 := ca.1
      have pn : (pyL τ2 ls b.2.2.2 D).2.2.2 ≤ b.2.2.2 + D := pyF_n _ _ _ _ _ _ _ D
      have L2 : mLaw τ2 ls := mLaw_fq (mLaw_fq hL G1 rfl rfl rfl rfl rfl rfl) F2 rfl rfl rfl rfl rfl rfl
      refine x_gy2 (σ := τ2) (ls := ls) (D := D) hw hD ((congrArg Int32.toInt ((F2 93 11 rfl).trans (G1 93 11 rfl))).trans eD) L2 ca.2.1.2.2.2 n2 hf (fun τ3 w3 k3 hB3 pa => ?_) D 0 τ2 w (Nat.zero_add _) k2 hB2 ⟨FQ.rf _ _, rfl, rfl, rfl, ca.2.1.2.2.2⟩
      have F3 := pa.1
      have s19 : sI τ3 93 19 = sI σ 93 19 := congrArg Int32.toInt ((F3 93 19 rfl).trans ((F2 93 19 rfl).trans (G1 93 19 rfl)))
      refine qf_g58 (if fg = true then 1 else 0) (sI τ3 93 19) _ w3 rfl k3 hB3 ⟨hf, by omega, trivial⟩ ⟨rfl, trivial⟩ ?_
      intro τ4 y4 w4 k4 hB4 F4 _ _ _ c4'
      have e19 : sI τ4 93 19 = sI τ3 93 19 + 1 := c4'.1
      have eD4 : sI τ4 93 11 = (D : Int) := (congrArg Int32.toInt ((F4 93 11 rfl).trans ((F3 93 11 rfl).trans ((F2 93 11 rfl).trans (G1 93 11 rfl))))).trans eD
      refine x_gy3 (σ := τ4) (D := D) hD eD4 (by omega) hf hB4 (fun τ5 w5 k5 hB5 F5 r5 => ?_) D 0 τ4 w4 (Nat.zero_add _) k4 hB4 (FQ.rf _ _) (inS_0 _ _).symm
      refine qf_g117 (if fg = true then 1 else 0) _ w5 rfl k5 hB5 ⟨hf, trivial⟩ ?_
      intro τ6 y6 w6 k6 hB6 F6 _ _ _ _
      have eN6 : sI τ6 93 5 = (N : Int) := (congrArg Int32.toInt ((F6 93 5 rfl).trans ((F5 93 5 rfl).trans ((F4 93 5 rfl).trans ((F3 93 5 rfl).trans ((F2 93 5 rfl).trans (G1 93 5 rfl))))))).trans eN
      have e6 : cI τ6 53 = (((pyL τ2 ls b.2.2.2 D).2.2.2 : Nat) : Int) := (congrArg Int32.toInt ((F6 93 53 rfl).trans ((F5 93 53 rfl).trans (F4 93 53 rfl)))).trans pa.2.2.2.2
      refine x_gy4 (σ := τ6) (N := N) hN eN6 hf (by omega) e6 hB6 (fun τ7 hB7 F7 h7 => ?_) N 0 τ6 w6 (Nat.zero_add _) k6 hB6 (FQ.rf _ _) (fun j hj => absurd hj (Nat.not_lt_zero _))
      refine ⟨hB7, τ1, τ2, τ3, b, go, ca, pa, ⟨FQ.tr (FQ.up (G := [(93, 19)]) rfl F4) (FQ.tr (FQ.up (G := [(103, 9999)]) rfl F5) (FQ.tr (FQ.up (G := []) rfl F6) (FQ.up (G := [(99, 9999)]) rfl F7))), ?_, ?_, fun j hj => ?_⟩, n2, rfl⟩
      · rw [show sI τ7 93 19 = sI τ4 93 19 from congrArg Int32.toInt ((F7 93 19 rfl).trans ((F6 93 19 rfl).trans (F5 93 19 rfl)))]
        exact e19
      · rw [row_fq F7 (P := 103) rfl, row_fq F6 (P := 103) rfl, r5]
        unfold inL
        rw [e19, row_fq F4 (P := 108) rfl, row_fq F4 (P := 107) rfl, row_fq F4 (P := 105) rfl, row_fq F4 (P := 103) rfl]
      · rw [h7 j hj, F6 96 j rfl, F5 96 j rfl, F4 96 j rfl]
    · have z : 0 ≤ sI τ1 108 2 ∧ sI τ1 108 2 ≤ 1 := hB1 108 2 (by decide)
      rcases (show sI τ1 108 2 = 1 ∨ sI τ1 108 2 = 0 by omega) with w | w
      · exact Or.inl ⟨w, rfl⟩
      · exact Or.inr ⟨w, rfl⟩
  refine Sp.at rfl rfl ?_
  refine qf_g0 (sI σ 108 0) (sI σ 93 1) _ _ _ rfl rfl rfl hB0 ⟨b80, ai_rng _, trivial⟩ ⟨rfl, rfl, trivial⟩ ?_ ?_
  · intro τ1 y1 v2 v3 k2 k3 hB1 F1 f _ _ c
    have f1 := f.1
    have nf : ¬ 0 < (σ.1 108 0).toInt := fun z => by
      have z : 0 < sI σ 108 0 := z
      omega
    refine rest τ1 false v2 v3 ?_ k2 k3 hB1 F1 ?_ c.2.1 c.2.2.1
    · unfold fogB
      rw [decide_eq_false nf, Bool.false_and]
    · have e : fogS (σ.1 108 0) (σ.1 93 1) = σ.1 93 1 := if_neg nf
      rw [e]
      exact Int32.toInt_inj.mp c.1
  · intro τ1 y1 v1 v2 v3 k1 k2 k3 hB1 F1 f _ d c
    have f1 := f.1
    have yf : 0 < (σ.1 108 0).toInt := by
      show 0 < sI σ 108 0
      omega
    have e3 : Int32.ofInt (y1 3) = dwN (σ.1 93 1) := by
      rw [← d.2.1, oI, ← d.1, oI, oI]
      rfl
    have e5 : Int32.ofInt (y1 5) = dwV (σ.1 93 1) := by
      rw [← d.2.2.2.1, oI, ← d.2.2.1, oI, e3]
      rfl
    have s0 : τ1.1 93 1 = fogS (σ.1 108 0) (σ.1 93 1) := by
      have e : fogS (σ.1 108 0) (σ.1 93 1) = dwN (σ.1 93 1) := if_pos yf
      rw [e, ← e3, ← c.1, oI]
    have r5 : (-2147483648) ≤ y1 5 ∧ y1 5 ≤ 2147483647 := by
      rw [← d.2.2.2.1]
      exact ai_rng _
    refine Ok.ic rfl rfl (by omega) (by omega) (by omega) (by omega) (fun g => ?_) (fun g => ?_)
    · have g : sI σ 108 0 ≤ y1 5 := g
      refine qf_g18 v1 v2 v3 k1 k2 k3 hB1 ?_
      intro τ2 y2 w2 w3 m2 m3 hB2 F2 _ _ _ c2
      refine rest τ2 false w2 w3 ?_ m2 m3 hB2 (FQ.tr F1 (FQ.up (G := [(93, 21)]) rfl F2)) ((F2 93 1 rfl).trans s0) c2.1 ((congrArg Int32.toInt (F2 93 53 rfl)).trans c.2.1)
      exact (fogB_l e5 r5 g).symm
    · have g : y1 5 < sI σ 108 0 := g
      refine qf_g16 v1 v2 v3 k1 k2 k3 hB1 ?_
      intro τ2 y2 w2 w3 m2 m3 hB2 F2 _ _ _ c2
      refine rest τ2 true w2 w3 ?_ m2 m3 hB2 (FQ.tr F1 (FQ.up (G := [(93, 21)]) rfl F2)) ((F2 93 1 rfl).trans s0) c2.1 ((congrArg Int32.toInt (F2 93 53 rfl)).trans c.2.1)
      exact (fogB_y e5 r5 yf g).symm
end GYM
