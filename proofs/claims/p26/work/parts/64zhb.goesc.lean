/-! who goes where, the class: all -/
section SOC
variable {σ : pm_S} {fg : Bool} {N S : Nat} {Q : Option Value → pm_S → Prop}
abbrev awC (σ : pm_S) (fg : Bool) : Nat → Bool := aw fg (σ.1 8) (σ.1 11) (σ.1 4) (σ.1 9)
abbrev wC (σ : pm_S) : Nat → Int32 := fun p => σ.1 5 ((sI σ 8 p).toNat * 10 + (sI σ 11 p).toNat)
set_option maxRecDepth 20000 in
theorem x_sol (hN : N ≤ 10) (hS : S ≤ 10) (eN : sI σ 7 0 = (N : Int)) (eS : sI σ 3 0 = (S : Int)) (ef : sI σ 1 3 = (if fg = true then 1 else 0)) (hh : ∀ p, p < N → sI σ 8 p < (S : Int) ∧ sI σ 11 p < (S : Int)) (hQ : ∀ τ : pm_S, an_GB pm_B τ → FQ FSa σ τ → τ.1 9 = cnS (awC σ fg) (σ.1 4) (σ.1 11) (σ.1 9) N → τ.1 12 = stS (awC σ fg) (σ.1 8) (σ.1 11) (σ.1 12) N → τ.1 1 2 = mlS (σ.1 1 2) (awC σ fg) (wC σ) N → Q none τ) : ∀ (k p : Nat) (τ : pm_S) (u1 : Value), p + k = N → u1.category = 1 → an_GB pm_B τ → FQ FSa σ τ → τ.1 9 = cnS (awC σ fg) (σ.1 4) (σ.1 11) (σ.1 9) p → τ.1 12 = stS (awC σ fg) (σ.1 8) (σ.1 11) (σ.1 12) p → τ.1 1 2 = mlS (σ.1 1 2) (awC σ fg) (wC σ) p → Ok 91 10 22 [.ref 74, u1, .int (Int32.ofInt (p : Int))] [] τ Q := by
  intro k
  induction k with
  | zero =>
    intro p τ u1 hp k1 hB F r9 r12 m
    refine pf_o22 p N u1 k1 hB ⟨by omega, by omega, trivial⟩ ⟨(congrArg Int32.toInt (F 7 0 rfl)).trans eN, trivial⟩ ?_
    intro τ1 y1 v1 d1 hB1 F1 _ _ _ _
    refine Ok.ic rfl rfl (by omega) (by omega) (by omega) (by omega) (fun h => ?_) (fun h => ?_)
    · refine pf_o68 v1 _ d1 rfl hB1 ?_
      intro τ2 y2 hB2 F2 _ _ _ _
      have G2 : FQ [] τ τ2 := FQ.tr F1 F2
      have e : p = N := by omega
      rw [e] at r9 r12 m
      exact hQ τ2 hB2 (FQ.tr F (FQ.up (G := []) rfl G2)) ((row_fq G2 rfl).trans r9) ((row_fq G2 rfl).trans r12) ((G2 1 2 rfl).trans m)
    · have h : (p : Int) < (N : Int) := h
      exfalso
      omega
  | succ k ih =>
    intro p τ u1 hp k1 hB F r9 r12 m
    have ep : ((p : Int)).toNat = p := by omega
    have hpN : p < N := by omega
    have hh1 := (hh p hpN).1
    have hh2 := (hh p hpN).2
    have b8 : 0 ≤ sI σ 8 p ∧ sI σ 8 p ≤ 9 := by
      have q : 0 ≤ sI τ 8 p ∧ sI τ 8 p ≤ 9 := hB 8 p (show p < 10 by omega)
      rw [show sI τ 8 p = sI σ 8 p from congrArg Int32.toInt (F 8 p rfl)] at q
      exact q
    have b11 : 0 ≤ sI σ 11 p ∧ sI σ 11 p ≤ 9 := by
      have q : 0 ≤ sI τ 11 p ∧ sI τ 11 p ≤ 9 := hB 11 p (show p < 10 by omega)
      rw [show sI τ 11 p = sI σ 11 p from congrArg Int32.toInt (F 11 p rfl)] at q
      exact q
    refine pf_o22 p N u1 k1 hB ⟨by omega, by omega, trivial⟩ ⟨(congrArg Int32.toInt (F 7 0 rfl)).trans eN, trivial⟩ ?_
    intro τ1 y1 v1 d1 hB1 F1 _ _ _ _
    refine Ok.ic rfl rfl (by omega) (by omega) (by omega) (by omega) (fun h => ?_) (fun h => ?_)
    · have h : (N : Int) ≤ (p : Int) := h
      exfalso
      omega
    have G1 : FQ FSa σ τ1 := FQ.tr F (FQ.up (G := []) rfl F1)
    refine pf_o28 p (sI σ 8 p) v1 d1 hB1 ⟨by omega, b8, trivial⟩ ⟨by rw [ep]; exact congrArg Int32.toInt (G1 8 p rfl), trivial⟩ ?_
    intro τ2 y2 v2 d2 hB2 F2 _ _ _ _
    refine Ok.ast (n := 10) rfl rfl rfl (by decide) (by omega) (by omega) ?_
    rw [ep, oI]
    have hB3 : an_GB pm_B (put τ2 12 p (σ.1 8 p)) := put_GB hB2 (by
      show (-1 : Int) ≤ sI σ 8 p ∧ sI σ 8 p ≤ (9 : Int)
      omega)
    have P3 : FQ [(12, 9999)] τ2 (put τ2 12 p (σ.1 8 p)) := FQ.put rfl
    have G02 : FQ [] τ τ2 := FQ.tr F1 F2
    have R3 : (put τ2 12 p (σ.1 8 p)).1 12 = rup (stS (awC σ fg) (σ.1 8) (σ.1 11) (σ.1 12) p) p (σ.1 8 p) := by
      rw [row_put, row_fq G02 rfl, r12]
    generalize put τ2 12 p (σ.1 8 p) = τ3 at hB3 P3 R3 ⊢
    have G03 : FQ [(12, 9999)] τ τ3 := FQ.tr (FQ.up (G := []) rfl G02) P3
    have G3 : FQ FSa σ τ3 := FQ.tr F (FQ.up (G := [(12, 9999)]) rfl G03)
    have r9' : τ3.1 9 = cnS (awC σ fg) (σ.1 4) (σ.1 11) (σ.1 9) p := (row_fq G03 rfl).trans r9
    have m' : τ3.1 1 2 = mlS (σ.1 1 2) (awC σ fg) (wC σ) p := (G03 1 2 rfl).trans m
    -- who stays
    have stay : awC σ fg p = false → ∀ (τ4 : pm_S) (v4 : Value), v4.category = 1 → an_GB pm_B τ4 → FQ [] τ3 τ4 → Ok 91 10 22 [.ref 74, v4, .int (Int32.ofInt ((p : Int) + 1))] [] τ4 Q := by
      intro ha τ4 v4 d4 hB4 F4
      rw [show (p : Int) + 1 = ((p + 1 : Nat) : Int) by omega]
      refine ih (p + 1) τ4 v4 (by omega) d4 hB4 (FQ.tr G3 (FQ.up (G := []) rfl F4)) ?_ ?_ ?_
      · rw [cnS_n ha, row_fq F4 rfl, r9']
      · rw [stS_u, if_neg (by rw [ha]; decide), row_fq F4 rfl, R3]
      · rw [F4 1 2 rfl, m']
        exact (if_neg (by rw [ha]; decide)).symm
    have ff : 0 ≤ (if fg = true then (1 : Int) else 0) ∧ (if fg = true then (1 : Int) else 0) ≤ 1 := by split <;> decide
    refine pf_o40 p (if fg = true then 1 else 0) (sI σ 11 p) (sI σ 8 p) v2 d2 hB3 ⟨by omega, ff, b11, b8, trivial⟩ ⟨(congrArg Int32.toInt (G3 1 3 rfl)).trans ef, by rw [ep]; exact congrArg Int32.toInt (G3 11 p rfl), by rw [ep]; exact congrArg Int32.toInt (G3 8 p rfl), trivial⟩ ?_ ?_
    · intro τ4 y4 v4 d4 hB4 F4 f _ _ _
      have f2 := f.2.1
      have hf : fg = true := by
        cases fg with
        | true => rfl
        | false =>
          rw [if_neg (by decide)] at f2
          exfalso
          omega
      refine stay ?_ τ4 v4 d4 hB4 F4
      rw [hf]
      rfl
    · intro τ4 y4 v4 d4 hB4 F4 f _ _ _
      have f2 := f.2.1
      have hf : fg = false := by
        cases fg with
        | false => rfl
        | true =>
          rw [if_pos rfl] at f2
          exfalso
          omega
      refine Ok.ic rfl rfl (by omega) (by omega) (by omega) (by omega) (fun g => ?_) (fun g => ?_)
      · have g : sI σ 11 p = sI σ 8 p := g
        have ge : σ.1 11 p = σ.1 8 p := Int32.toInt_inj.mp g
        refine pf_o66 p v4 d4 hB4 ⟨by omega, trivial⟩ ?_
        intro τ5 y5 v5 d5 hB5 F5 _ _ _ _
        exact stay (aw_eq ge) τ5 v5 d5 hB5 (FQ.tr F4 F5)
      · have g : sI σ 11 p ≠ sI σ 8 p := g
        have ge : σ.1 11 p ≠ σ.1 8 p := fun z => g (congrArg Int32.toInt z)
        have G4 : FQ FSa σ τ4 := FQ.tr G3 (FQ.up (G := []) rfl F4)
        refine pf_o57 p (sI σ 11 p) v4 d4 hB4 ⟨by omega, b11, trivial⟩ ⟨by rw [ep]; exact congrArg Int32.toInt (G4 11 p rfl), trivial⟩ ?_
        intro τ5 y5 v5 d5 hB5 F5 _ _ _ _
        have G5 : FQ FSa σ τ5 := FQ.tr G4 (FQ.up (G := []) rfl F5)
        have g35 : FQ [] τ3 τ5 := FQ.tr F4 F5
        refine Ok.cv rfl rfl rfl rfl rfl rfl rfl ?_
        have sa := x_sa (σ := τ5) p (sI σ 11 p).toNat S (by omega) hS (by omega) ((congrArg Int32.toInt (G5 3 0 rfl)).trans eS) (by rw [show sI τ5 8 p = sI σ 8 p from congrArg Int32.toInt (G5 8 p rfl)]; exact hh1) hB5
        rw [show (((sI σ 11 p).toNat : Nat) : Int) = sI σ 11 p by omega] at sa
        refine sa.use (by decide) (fun r τ6 q => ?_)
        obtain ⟨rfl, hB6, F6, q⟩ := q
        refine pf_o66 p v5 d5 hB6 ⟨by omega, trivial⟩ ?_
        intro τ7 y7 v7 d7 hB7 F7 _ _ _ _
        have c9 : τ5.1 9 p = σ.1 9 p := by rw [row_fq g35 rfl, r9', cnS_p]
        have c4 : τ5.1 4 (sI σ 11 p).toNat = σ.1 4 (sI σ 11 p).toNat := G5 4 _ rfl
        have c9i : sI τ5 9 p = sI σ 9 p := congrArg Int32.toInt c9
        have c4i : sI τ5 4 (sI σ 11 p).toNat = sI σ 4 (sI σ 11 p).toNat := congrArg Int32.toInt c4
        have ea : awC σ fg p = decide (sI σ 4 (sI σ 11 p).toNat ≤ sI σ 9 p) := by
          rw [hf]
          exact aw_ne ge
        rw [show (p : Int) + 1 = ((p + 1 : Nat) : Int) by omega]
        rcases q with ⟨q1, q2, q3, q4⟩ | ⟨q1, q2, q3, q4⟩
        · have ha : awC σ fg p = true := by
            rw [ea]
            exact decide_eq_true (by omega)
          refine ih (p + 1) τ7 v7 (by omega) d7 hB7 (FQ.tr G5 (FQ.tr F6 (FQ.up (G := []) rfl F7))) ?_ ?_ ?_
          · rw [cnS_y ha, row_fq F7 rfl, q2, c9, c4, row_fq g35 rfl, r9']
          · rw [stS_u, if_pos ha, row_fq F7 rfl, q3, row_fq g35 rfl, R3, rup_u, oI]
          · rw [F7 1 2 rfl, q4, g35 1 2 rfl, m', show sI τ5 8 p = sI σ 8 p from congrArg Int32.toInt (G5 8 p rfl), G5 5 _ rfl]
            exact (if_pos ha).symm
        · have ha : awC σ fg p = false := by
            rw [ea]
            exact decide_eq_false (by omega)
          refine ih (p + 1) τ7 v7 (by omega) d7 hB7 (FQ.tr G5 (FQ.tr F6 (FQ.up (G := []) rfl F7))) ?_ ?_ ?_
          · rw [cnS_n ha, row_fq F7 rfl, q2, row_fq g35 rfl, r9']
          · rw [stS_u, if_neg (by rw [ha]; decide), row_fq F7 rfl, q3, row_fq g35 rfl, R3]
          · rw [F7 1 2 rfl, q4, g35 1 2 rfl, m']
            exact (if_neg (by rw [ha]; decide)).symm
end SOC
