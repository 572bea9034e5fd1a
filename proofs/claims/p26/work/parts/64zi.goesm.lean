/-! a Sunday: who goes where, the model -/
theorem inc_i {w : Int32} (h : -1000 ≤ w.toInt ∧ w.toInt ≤ 1000) : Int32.ofInt (w.toInt + 1) = w + 1 := by
  refine Int32.toInt_inj.mp ?_
  have e1 : (1 : Int32).toInt = 1 := rfl
  rw [ti_of (by omega) (by omega), Int32.toInt_add, e1, Int.bmod_eq_of_le (by omega) (by omega)]
theorem mul_0 (m : Int32) : m + 2 * 0 = m := by
  refine Int32.toInt_inj.mp ?_
  have e0 : (2 * 0 : Int32).toInt = 0 := rfl
  have r := ai_rng m
  rw [Int32.toInt_add, e0, Int.add_zero, Int.bmod_eq_of_le (by omega) (by omega)]
abbrev FGo : List (Nat × Nat) := [(93, 20), (97, 9999), (100, 9999)]
section GOM
variable {σ : pm_S} {fg : Bool} {N : Nat} {Q : Option Value → pm_S → Prop}
abbrev awM (σ : pm_S) (fg : Bool) : Nat → Bool := aw fg (σ.1 96) (σ.1 99) (σ.1 94) (σ.1 97)
abbrev wM (σ : pm_S) : Nat → Int32 := fun p => Int32.ofInt (mlF σ (sI σ 96 p) (sI σ 99 p))
abbrev s1M (σ : pm_S) (P : Nat) : Nat → Int32 := fun p => σ.1 P p + 1
set_option maxRecDepth 20000 in
theorem x_gol (hN : N ≤ 10) (eN : cI σ 5 = (N : Int)) (hQ : ∀ τ : pm_S, an_GB pm_B τ → FQ FGo σ τ → τ.1 97 = cnS (awM σ fg) (σ.1 94) (σ.1 99) (σ.1 97) N → τ.1 100 = stS (awM σ fg) (s1M σ 96) (s1M σ 99) (σ.1 100) N → τ.1 93 20 = mlS (σ.1 93 20) (awM σ fg) (wM σ) N → Q none τ) : ∀ (k p : Nat) (τ : pm_S) (u3 u4 : Value), p + k = N → u3.category = 1 → u4.category = 1 → an_GB pm_B τ → FQ FGo σ τ → τ.1 97 = cnS (awM σ fg) (σ.1 94) (σ.1 99) (σ.1 97) p → τ.1 100 = stS (awM σ fg) (s1M σ 96) (s1M σ 99) (σ.1 100) p → τ.1 93 20 = mlS (σ.1 93 20) (awM σ fg) (wM σ) p → Ok 202 5 2 [.ref 93, .int (Int32.ofInt (if fg = true then 1 else 0)), .int (Int32.ofInt (p : Int)), u3, u4] [] τ Q := by
  have ff : 0 ≤ (if fg = true then (1 : Int) else 0) ∧ (if fg = true then (1 : Int) else 0) ≤ 1 := by split <;> decide
  intro k
  induction k with
  | zero =>
    intro p τ u3 u4 hp k3 k4 hB F r97 r100 m
    refine qf_o2 (if fg = true then 1 else 0) p N u3 u4 k3 k4 hB ⟨ff, by omega, by omega, trivial⟩ ⟨(congrArg Int32.toInt (F 93 5 rfl)).trans eN, trivial⟩ ?_
    intro τ1 y1 v3 v4 d3 d4 hB1 F1 _ _ _ _
    refine Ok.ic rfl rfl (by omega) (by omega) (by omega) (by omega) (fun h => ?_) (fun h => ?_)
    · refine qf_o77 _ _ v3 v4 rfl rfl d3 d4 hB1 ?_
      intro τ2 y2 hB2 F2 _ _ _ _
      have G2 : FQ [] τ τ2 := FQ.tr F1 F2
      have e : p = N := by omega
      rw [e] at r97 r100 m
      exact hQ τ2 hB2 (FQ.tr F (FQ.up (G := []) rfl G2)) ((row_fq G2 rfl).trans r97) ((row_fq G2 rfl).trans r100) ((G2 93 20 rfl).trans m)
    · have h : (p : Int) < (N : Int) := h
      exfalso
      omega
  | succ k ih =>
    intro p τ u3 u4 hp k3 k4 hB F r97 r100 m
    have ep : ((p : Int)).toNat = p := by omega
    have b96 : 0 ≤ sI σ 96 p ∧ sI σ 96 p ≤ 9 := by
      have q : 0 ≤ sI τ 96 p ∧ sI τ 96 p ≤ 9 := hB 96 p (show p < 10 by omega)
      rw [show sI τ 96 p = sI σ 96 p from congrArg Int32.toInt (F 96 p rfl)] at q
      exact q
    have b99 : 0 ≤ sI σ 99 p ∧ sI σ 99 p ≤ 9 := by
      have q : 0 ≤ sI τ 99 p ∧ sI τ 99 p ≤ 9 := hB 99 p (show p < 10 by omega)
      rw [show sI τ 99 p = sI σ 99 p from congrArg Int32.toInt (F 99 p rfl)] at q
      exact q
    refine qf_o2 (if fg = true then 1 else 0) p N u3 u4 k3 k4 hB ⟨ff, by omega, by omega, trivial⟩ ⟨(congrArg Int32.toInt (F 93 5 rfl)).trans eN, trivial⟩ ?_
    intro τ1 y1 v3 v4 d3 d4 hB1 F1 _ _ _ _
    refine Ok.ic rfl rfl (by omega) (by omega) (by omega) (by omega) (fun h => ?_) (fun h => ?_)
    · have h : (N : Int) ≤ (p : Int) := h
      exfalso
      omega
    have G1 : FQ FGo σ τ1 := FQ.tr F (FQ.up (G := []) rfl F1)
    have c97 : ∀ τ' : pm_S, FQ [] τ τ' → τ'.1 97 p = σ.1 97 p := fun τ' F' => by rw [row_fq F' rfl, r97, cnS_p]
    -- to s, with the coins c behind
    have fin : ∀ (τ2 : pm_S) (s : Int) (c : Int32) (v : Value), v.category = 1 → an_GB pm_B τ2 → FQ [] τ τ2 → (0 ≤ s ∧ s ≤ 9) → rup (cnS (awM σ fg) (σ.1 94) (σ.1 99) (σ.1 97) p) p c = cnS (awM σ fg) (σ.1 94) (σ.1 99) (σ.1 97) (p + 1) → Int32.ofInt (s + 1) = (if awM σ fg p = true then s1M σ 99 p else s1M σ 96 p) → (∀ m0 : Int32, m0 + 2 * Int32.ofInt (mlF σ (sI σ 96 p) s) = if awM σ fg p = true then m0 + 2 * wM σ p else m0) → Ok 202 5 53 [.ref 93, .int (Int32.ofInt (if fg = true then 1 else 0)), .int (Int32.ofInt (p : Int)), .int (Int32.ofInt s), v] [.int c, .int (Int32.ofInt (p : Int)), .ref 97] τ2 Q := by
      intro τ2 s c v hv hB2 F2 hs h97 h100 hm
      refine Ok.ast (n := 10) rfl rfl rfl (by decide) (by omega) (by omega) ?_
      rw [ep]
      have hB3 : an_GB pm_B (put τ2 97 p c) := put_GB hB2 (ai_rng _)
      have P3 : FQ [(97, 9999)] τ2 (put τ2 97 p c) := FQ.put rfl
      have R3 : (put τ2 97 p c).1 97 = cnS (awM σ fg) (σ.1 94) (σ.1 99) (σ.1 97) (p + 1) := by rw [row_put, row_fq F2 rfl, r97, h97]
      generalize put τ2 97 p c = τ3 at hB3 P3 R3 ⊢
      have g03 : FQ [(97, 9999)] τ τ3 := FQ.tr (FQ.up (G := []) rfl F2) P3
      have G3 : FQ FGo σ τ3 := FQ.tr F (FQ.up (G := [(97, 9999)]) rfl g03)
      have m3 : τ3.1 93 20 = mlS (σ.1 93 20) (awM σ fg) (wM σ) p := (g03 93 20 rfl).trans m
      refine qf_o54 (if fg = true then 1 else 0) p s (sI σ 96 p) (mlS (σ.1 93 20) (awM σ fg) (wM σ) p).toInt v hv hB3 ⟨ff, by omega, hs, b96, ai_rng _, trivial⟩ ⟨by rw [ep]; exact congrArg Int32.toInt (G3 96 p rfl), congrArg Int32.toInt m3, trivial⟩ ?_
      intro τ4 y4 v4' d4' hB4 F4 _ _ _ _
      have G4 : FQ FGo σ τ4 := FQ.tr G3 (FQ.up (G := []) rfl F4)
      refine Ok.cv rfl rfl rfl rfl rfl rfl rfl ?_
      refine (m_miles hB4 b96 hs).use (by decide) (fun r τ5 q => ?_)
      obtain ⟨rfl, rfl⟩ := q
      have eml : mlF τ5 (sI σ 96 p) s = mlF σ (sI σ 96 p) s := by
        unfold mlF
        rw [G4 95 _ rfl]
      rw [eml]
      have rml : (-2147483648) ≤ mlF σ (sI σ 96 p) s ∧ mlF σ (sI σ 96 p) s ≤ 2147483647 := by
        unfold mlF
        have q : (-9 : Int) ≤ (τ5.1 95 (10 * (sI σ 96 p) + s).toNat).toInt ∧ (τ5.1 95 (10 * (sI σ 96 p) + s).toNat).toInt ≤ 90 := hB4 95 _ (show (10 * (sI σ 96 p) + s).toNat < 100 by omega)
        rw [G4 95 _ rfl] at q
        split <;> omega
      refine qf_o65 (if fg = true then 1 else 0) p s (mlF σ (sI σ 96 p) s) (mlS (σ.1 93 20) (awM σ fg) (wM σ) p).toInt v4' d4' hB4 ⟨ff, by omega, hs, rml, ai_rng _, trivial⟩ ?_
      intro τ6 y6 v6 d6' hB6 F6 _ _ d6 c6
      have e6 : τ6.1 93 20 = mlS (σ.1 93 20) (awM σ fg) (wM σ) (p + 1) := by
        have e5 : Int32.ofInt (y6 6) = mlS (σ.1 93 20) (awM σ fg) (wM σ) p + 2 * Int32.ofInt (mlF σ (sI σ 96 p) s) := by
          rw [← d6.2.1, oI, ← d6.1, oI, oI]
          rfl
        rw [← oI (τ6.1 93 20), show (τ6.1 93 20).toInt = y6 6 from c6.1, e5, hm]
        rfl
      refine Ok.ast (n := 10) rfl rfl rfl (by decide) (by omega) (by omega) ?_
      rw [ep]
      have hB7 : an_GB pm_B (put τ6 100 p (Int32.ofInt (s + 1))) := put_GB hB6 (by
        rw [ti_of (by omega) (by omega)]
        show (0 : Int) ≤ _ ∧ _ ≤ (10 : Int)
        omega)
      have P7 : FQ [(100, 9999)] τ6 (put τ6 100 p (Int32.ofInt (s + 1))) := FQ.put rfl
      have g06 : FQ [(93, 20), (97, 9999)] τ τ6 := FQ.tr (FQ.up (G := [(97, 9999)]) rfl g03) (FQ.tr (FQ.up (G := []) rfl F4) (FQ.up (G := [(93, 20)]) rfl F6))
      have R7 : (put τ6 100 p (Int32.ofInt (s + 1))).1 100 = stS (awM σ fg) (s1M σ 96) (s1M σ 99) (σ.1 100) (p + 1) := by rw [row_put, row_fq g06 rfl, r100, stS_u, h100]
      generalize put τ6 100 p (Int32.ofInt (s + 1)) = τ7 at hB7 P7 R7 ⊢
      refine qf_o75 (if fg = true then 1 else 0) p _ v6 rfl d6' hB7 ⟨ff, by omega, trivial⟩ ?_
      intro τ8 y8 w3 w4 e3 e4 hB8 F8 _ _ _ _
      rw [show (p : Int) + 1 = ((p + 1 : Nat) : Int) by omega]
      refine ih (p + 1) τ8 w3 w4 (by omega) e3 e4 hB8 (FQ.tr F (FQ.tr (FQ.up (G := [(93, 20), (97, 9999)]) rfl g06) (FQ.tr (FQ.up (G := [(100, 9999)]) rfl P7) (FQ.up (G := []) rfl F8)))) ?_ ((row_fq F8 rfl).trans R7) ((F8 93 20 rfl).trans ((P7 93 20 rfl).trans e6))
      rw [row_fq F8 rfl, row_fq P7 rfl, row_fq F6 rfl, row_fq F4 rfl, R3]
    -- who stays
    have stay : awM σ fg p = false → ∀ (τ2 : pm_S) (v : Value), v.category = 1 → an_GB pm_B τ2 → FQ [] τ τ2 → Ok 202 5 53 [.ref 93, .int (Int32.ofInt (if fg = true then 1 else 0)), .int (Int32.ofInt (p : Int)), .int (Int32.ofInt (sI σ 96 p)), v] [.int (Int32.ofInt (sI σ 97 p)), .int (Int32.ofInt (p : Int)), .ref 97] τ2 Q := by
      intro ha τ2 v hv hB2 F2
      refine fin τ2 (sI σ 96 p) (Int32.ofInt (sI σ 97 p)) v hv hB2 F2 b96 ?_ ?_ (fun m0 => ?_)
      · rw [cnS_n ha, oI]
        funext q
        unfold rup
        by_cases e : q = p
        · rw [if_pos e, e, cnS_p]
        · rw [if_neg e]
      · rw [if_neg (by rw [ha]; decide)]
        exact inc_i (by show -1000 ≤ sI σ 96 p ∧ sI σ 96 p ≤ 1000; omega)
      · rw [if_neg (by rw [ha]; decide), show mlF σ (sI σ 96 p) (sI σ 96 p) = 0 from if_pos rfl]
        exact mul_0 m0
    cases fg with
    | true =>
      refine qf_o6f p (sI σ 96 p) (sI σ 97 p) v3 v4 d3 d4 hB1 ⟨by omega, b96, ai_rng _, trivial⟩ ⟨by rw [ep]; exact congrArg Int32.toInt (G1 96 p rfl), by rw [ep]; exact congrArg Int32.toInt (c97 τ1 F1), trivial⟩ ?_ ?_
      · intro τ2 y2 hB2 F2 _ _ _ _
        exact stay rfl τ2 _ rfl hB2 (FQ.tr F1 F2)
      · intro τ2 y2 hB2 F2 _ _ _ _
        exact stay rfl τ2 _ rfl hB2 (FQ.tr F1 F2)
    | false =>
      refine qf_o6 p (sI σ 96 p) (sI σ 99 p) v3 v4 d3 d4 hB1 ⟨by omega, b96, b99, trivial⟩ ⟨by rw [ep]; exact congrArg Int32.toInt (G1 96 p rfl), by rw [ep]; exact congrArg Int32.toInt (G1 99 p rfl), trivial⟩ ?_
      intro τ2 y2 w4 e4 hB2 F2 _ _ _ _
      have g2 : FQ [] τ τ2 := FQ.tr F1 F2
      have G2 : FQ FGo σ τ2 := FQ.tr F (FQ.up (G := []) rfl g2)
      refine Ok.ic rfl rfl (by omega) (by omega) (by omega) (by omega) (fun g => ?_) (fun g => ?_)
      · have g : sI σ 99 p ≠ sI σ 96 p := g
        have ge : σ.1 99 p ≠ σ.1 96 p := fun z => g (congrArg Int32.toInt z)
        have bp : 0 ≤ sI σ 94 (sI σ 99 p).toNat ∧ sI σ 94 (sI σ 99 p).toNat ≤ 99 := by
          have q : 0 ≤ sI τ2 94 (sI σ 99 p).toNat ∧ sI τ2 94 (sI σ 99 p).toNat ≤ 99 := hB2 94 _ (show (sI σ 99 p).toNat < 10 by omega)
          rw [show sI τ2 94 (sI σ 99 p).toNat = sI σ 94 (sI σ 99 p).toNat from congrArg Int32.toInt (G2 94 _ rfl)] at q
          exact q
        have r97' : (-2147483648) ≤ sI σ 97 p ∧ sI σ 97 p ≤ 2147483647 := ai_rng _
        have ea : awM σ false p = decide (sI σ 94 (sI σ 99 p).toNat ≤ sI σ 97 p) := aw_ne ge
        refine qf_o26 p (sI σ 99 p) (sI σ 97 p) (sI σ 94 (sI σ 99 p).toNat) w4 e4 hB2 ⟨by omega, b99, ai_rng _, bp, trivial⟩ ⟨by rw [ep]; exact congrArg Int32.toInt (c97 τ2 g2), congrArg Int32.toInt (G2 94 _ rfl), trivial⟩ ?_
        intro τ3 y3 hB3 F3 _ _ _ _
        have g3 : FQ [] τ τ3 := FQ.tr g2 F3
        have G3 : FQ FGo σ τ3 := FQ.tr F (FQ.up (G := []) rfl g3)
        refine Ok.ic rfl rfl (by omega) (by omega) (by omega) (by omega) (fun w => ?_) (fun w => ?_)
        · have w : sI σ 94 (sI σ 99 p).toNat ≤ sI σ 97 p := w
          have ha : awM σ false p = true := by
            rw [ea]
            exact decide_eq_true w
          refine qf_o44 p (sI σ 99 p) (sI σ 94 (sI σ 99 p).toNat) (sI σ 97 p) hB3 ⟨by omega, b99, bp, ai_rng _, trivial⟩ ⟨by rw [ep]; exact congrArg Int32.toInt (c97 τ3 g3), trivial⟩ ?_
          intro τ4 y4 hB4 F4 _ _ d4 _
          have e4 : Int32.ofInt (y4 4) = σ.1 97 p - σ.1 94 (sI σ 99 p).toNat := by
            rw [← d4.1, oI, oI, oI]
            rfl
          rw [e4]
          refine fin τ4 (sI σ 99 p) _ _ rfl hB4 (FQ.tr g3 F4) b99 (cnS_y ha).symm ?_ (fun m0 => ?_)
          · rw [if_pos ha]
            exact inc_i (by show -1000 ≤ sI σ 99 p ∧ sI σ 99 p ≤ 1000; omega)
          · rw [if_pos ha]
        · have w : sI σ 97 p < sI σ 94 (sI σ 99 p).toNat := w
          have ha : awM σ false p = false := by
            rw [ea]
            exact decide_eq_false (by omega)
          refine qf_o37 p (sI σ 96 p) (sI σ 97 p) _ _ rfl rfl hB3 ⟨by omega, b96, ai_rng _, trivial⟩ ⟨by rw [ep]; exact congrArg Int32.toInt (G3 96 p rfl), by rw [ep]; exact congrArg Int32.toInt (c97 τ3 g3), trivial⟩ ?_
          intro τ4 y4 hB4 F4 _ _ _ _
          exact stay ha τ4 _ rfl hB4 (FQ.tr g3 F4)
      · have g : sI σ 99 p = sI σ 96 p := g
        have ge : σ.1 99 p = σ.1 96 p := Int32.toInt_inj.mp g
        rw [g]
        refine qf_o24 p (sI σ 96 p) (sI σ 97 p) w4 e4 hB2 ⟨by omega, b96, ai_rng _, trivial⟩ ⟨by rw [ep]; exact congrArg Int32.toInt (G2 96 p rfl), by rw [ep]; exact congrArg Int32.toInt (c97 τ2 g2), trivial⟩ ?_ ?_
        · intro τ3 y3 hB3 F3 _ _ _ _
          exact stay (aw_eq ge) τ3 _ rfl hB3 (FQ.tr g2 F3)
        · intro τ3 y3 hB3 F3 _ _ _ _
          exact stay (aw_eq ge) τ3 _ rfl hB3 (FQ.tr g2 F3)
end GOM
theorem x_go {σ : pm_S} {fg : Bool} {N : Nat} (hN : N ≤ 10) (eN : cI σ 5 = (N : Int)) (hB : an_GB pm_B σ) : Sp 202 5 [.ref 93, .int (Int32.ofInt (if fg = true then 1 else 0))] σ (fun r τ => r = none ∧ an_GB pm_B τ ∧ FQ FGo σ τ ∧ τ.1 97 = cnS (awM σ fg) (σ.1 94) (σ.1 99) (σ.1 97) N ∧ τ.1 100 = stS (awM σ fg) (s1M σ 96) (s1M σ 99) (σ.1 100) N ∧ τ.1 93 20 = mlS (σ.1 93 20) (awM σ fg) (wM σ) N) := by
  have ff : 0 ≤ (if fg = true then (1 : Int) else 0) ∧ (if fg = true then (1 : Int) else 0) ≤ 1 := by split <;> decide
  refine Sp.at rfl rfl ?_
  refine qf_o0 (if fg = true then 1 else 0) _ _ _ rfl rfl rfl hB ⟨ff, trivial⟩ ?_
  intro τ1 y1 u3 u4 k3 k4 hB1 F1 _ _ _ _
  exact x_gol (σ := σ) (fg := fg) hN eN (fun τ hB' F' a b c => ⟨rfl, hB', F', a, b, c⟩) N 0 τ1 u3 u4 (Nat.zero_add _) k3 k4 hB1 (FQ.up (G := []) rfl F1) ((row_fq F1 rfl).trans (cnS_0 _ _ _ _).symm) ((row_fq F1 rfl).trans (stS_0 _ _ _ _).symm) (F1 93 20 rfl)
