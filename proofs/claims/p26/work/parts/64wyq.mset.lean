/-! the model's stack of what waits -/
/-- what waits, the last on top -/
abbrev st_R (σ : pm_S) (B : List Int) : Prop := cI σ 45 = (B.length : Int) ∧ B.length ≤ 40 ∧ ∀ j, j < B.length → sI σ 121 j = B.getD j 0
/-- w isn't on top -/
abbrev nE (B : List Int) (w : Int) : Prop := B.length = 0 ∨ B.getD (B.length - 1) 0 ≠ w
theorem st_R.fq {σ τ : pm_S} {B : List Int} (h : st_R σ B) {G : List (Nat × Nat)} (hG : (an_inF G 93 45 || an_inP G 121) = false) (F : FQ G σ τ) : st_R τ B := by
  rw [Bool.or_eq_false_iff] at hG
  exact ⟨(congrArg Int32.toInt (F 93 45 hG.1)).trans h.1, h.2.1, fun j hj => (congrArg Int32.toInt (F 121 j (an_inP_ok hG.2 j))).trans (h.2.2 j hj)⟩
theorem nE_s (B : List Int) {b w : Int} (h : b ≠ w) : nE (B ++ [b]) w := by
  refine Or.inr ?_
  have l1 : (B ++ [b]).length - 1 = B.length := by rw [List.length_append, List.length_singleton]; omega
  have g : (B ++ [b]).getD B.length 0 = b := gd_e (c := B) (d := [b]) (j := 0)
  rw [l1, g]
  exact h
set_option maxRecDepth 20000 in
theorem x_wai {σ : pm_S} {B : List Int} (w : Int) (hw : 9 ≤ w ∧ w ≤ 12) (hl : B.length ≤ 39) (hB : an_GB pm_B σ) (hR : st_R σ B) : Sp 191 5 [.ref 93, .int (Int32.ofInt w)] σ (fun r τ => r = none ∧ an_GB pm_B τ ∧ FQ [(93, 45), (121, 9999)] σ τ ∧ st_R τ (B ++ [w])) := by
  refine Sp.at rfl rfl ?_
  refine mq_w0 w B.length hB ⟨hw, by omega, trivial⟩ ⟨hR.1, trivial⟩ ?_
  intro τ1 y1 hB1 F1 _ _ _ c1
  refine Ok.ast (n := 40) rfl rfl rfl (by decide) (by omega) (by omega) ?_
  have hB2 : an_GB pm_B (put τ1 121 ((B.length : Int)).toNat (Int32.ofInt w)) := put_GB hB1 (by first | exact ai_rng _ | (rw [ti_of (by omega) (by omega)]; exact ⟨by show _ ≤ w; omega, by show w ≤ _; omega⟩))
  refine mq_w6 w B.length hB2 ⟨hw, by omega, trivial⟩ ⟨by rw [put_nr (by decide)]; exact c1.1, trivial⟩ ?_
  intro τ3 y3 hB3 F3 _ _ _ c3
  have l1 : (B ++ [w]).length = B.length + 1 := by rw [List.length_append, List.length_singleton]
  refine ⟨rfl, hB3, FQ.tr (FQ.up (G := []) rfl F1) (FQ.tr (FQ.put rfl) (FQ.up (G := [(93, 45)]) rfl F3)), ?_, by omega, fun j hj => ?_⟩
  · show (τ3.1 93 45).toInt = _
    rw [c3.1, l1]
    rfl
  · rw [l1] at hj
    show (τ3.1 121 j).toInt = _
    rw [F3 121 j rfl, put_get, Int.toNat_natCast]
    by_cases e : j = B.length
    · rw [if_pos ⟨rfl, e⟩, ti_of (by omega) (by omega), e]
      exact (gd_e (c := B) (d := [w]) (j := 0)).symm
    · rw [if_neg (fun z => e z.2), F1 121 j rfl, gd_l (by omega)]
      exact hR.2.2 j (by omega)
abbrev FSt : List (Nat × Nat) := [(93, 42), (93, 43), (93, 45), (119, 9999), (120, 9999)]
/-- the code that w waits for -/
abbrev zW (w : Int) : Int := if w = 9 then -6 else if w = 10 then -5 else -4
theorem rep_s (k : Nat) (w : Int) (B : List Int) : B ++ List.replicate (k + 1) w = B ++ List.replicate k w ++ [w] := by
  rw [List.append_assoc, List.replicate_succ']
set_option maxRecDepth 20000 in
theorem x_setl {kO kA : Nat → Int32} {Q : Option Value → pm_S → Prop} (w : Int) (hw : 9 ≤ w ∧ w ≤ 11) (B : List Int) (hE : nE B w) : ∀ (k : Nat) (o : Nat) (c : List Int) (τ : pm_S), c.length + k ≤ 400 → (w = 9 → k ≤ o) → o ≤ 8 → an_GB pm_B τ → mt_C kO kA τ c → st_R τ (B ++ List.replicate k w) → cI τ 43 = (o : Int) → (∀ τ' : pm_S, an_GB pm_B τ' → FQ FSt τ τ' → mt_C kO kA τ' (c ++ List.replicate k (zW w)) → st_R τ' B → cI τ' 43 = (o : Int) - (if w = 9 then (k : Int) else 0) → Q none τ') → Ok 192 8 0 [.ref 93, .int (Int32.ofInt w)] [] τ Q := by
  intro k
  induction k with
  | zero =>
    intro o c τ hc ho ho8 hB hC hR e43 hQ
    have hR : st_R τ B := by
      rw [List.replicate_zero, List.append_nil] at hR
      exact hR
    have fin : ∀ τ1 : pm_S, an_GB pm_B τ1 → FQ [] τ τ1 → Q none τ1 := fun τ1 hB1 F1 => by
      refine hQ τ1 hB1 (FQ.up (G := []) rfl F1) ?_ (hR.fq (G := []) rfl F1) ?_
      · rw [List.replicate_zero, List.append_nil]
        exact hC.fq (G := []) rfl F1
      · have e : cI τ1 43 = cI τ 43 := congrArg Int32.toInt (F1 93 43 rfl)
        rw [e, e43]
        split <;> omega
    have hl := hR.2.1
    refine mq_t0 w B.length hB ⟨hw, by omega, trivial⟩ ⟨hR.1, trivial⟩ ?_ ?_
    · intro τ1 y1 hB1 F1 _ _ _ _
      exact fin τ1 hB1 F1
    · intro τ1 y1 hB1 F1 f _ _ _
      have f2 := f.2.1
      refine Ok.ald (n := 40) rfl rfl rfl (by decide) (by omega) (by omega) ?_
      have et : (τ1.1 121 ((B.length : Int) + (-1)).toNat).toInt = B.getD (B.length - 1) 0 := by
        rw [F1 121 _ rfl, show ((B.length : Int) + (-1)).toNat = B.length - 1 by omega]
        exact hR.2.2 (B.length - 1) (by omega)
      have rg : (-2147483648) ≤ B.getD (B.length - 1) 0 ∧ B.getD (B.length - 1) 0 ≤ 2147483647 := by
        rw [← et]
        exact ai_rng _
      rw [et]
      refine mq_t10 w (B.getD (B.length - 1) 0) hB1 ⟨hw, rg, trivial⟩ ?_
      intro τ2 y2 hB2 F2 _ _ _ _
      have G2 := FQ.tr F1 F2
      refine Ok.ic rfl rfl (by omega) (by omega) (by omega) (by omega) (fun z => ?_) (fun z => ?_)
      · refine mq_t32 w hB2 ⟨hw, trivial⟩ ?_
        intro τ3 y3 hB3 F3 _ _ _ _
        exact fin τ3 hB3 (FQ.tr G2 F3)
      · have z : B.getD (B.length - 1) 0 = w := z
        rcases hE with h | h
        · omega
        · exact absurd z h
  | succ k ih =>
    intro o c τ hc ho ho8 hB hC hR e43 hQ
    rw [rep_s] at hR
    have l1 : (B ++ List.replicate k w ++ [w]).length = B.length + k + 1 := by rw [List.length_append, List.length_append, List.length_replicate, List.length_singleton]
    have l0 : (B ++ List.replicate k w).length = B.length + k := by rw [List.length_append, List.length_replicate]
    have hl := hR.2.1
    have e45 := hR.1
    rw [l1] at hl e45
    refine mq_t0 w ((B.length + k + 1 : Nat) : Int) hB ⟨hw, by omega, trivial⟩ ⟨e45, trivial⟩ ?_ ?_
    · intro τ1 y1 hB1 F1 f _ _ _
      have f2 := f.2.1
      exfalso
      omega
    · intro τ1 y1 hB1 F1 _ _ _ _
      refine Ok.ald (n := 40) rfl rfl rfl (by decide) (by omega) (by omega) ?_
      have et : (τ1.1 121 (((B.length + k + 1 : Nat) : Int) + (-1)).toNat).toInt = w := by
        rw [F1 121 _ rfl, show (((B.length + k + 1 : Nat) : Int) + (-1)).toNat = B.length + k by omega]
        have q := hR.2.2 (B.length + k) (by omega)
        have g : (B ++ List.replicate k w ++ [w]).getD (B.length + k) 0 = w := by
          rw [← l0]
          exact gd_e (c := B ++ List.replicate k w) (d := [w]) (j := 0)
        rw [g] at q
        exact q
      rw [et]
      refine mq_t10 w w hB1 ⟨hw, by omega, trivial⟩ ?_
      intro τ2 y2 hB2 F2 _ _ _ _
      have G2 := FQ.tr F1 F2
      refine Ok.ic rfl rfl (by omega) (by omega) (by omega) (by omega) (fun z => ?_) (fun z => ?_)
      · have z : w ≠ w := z
        exact absurd rfl z
      · refine mq_t12 w ((B.length + k + 1 : Nat) : Int) hB2 ⟨hw, by omega, trivial⟩ ⟨(congrArg Int32.toInt (G2 93 45 rfl)).trans e45, trivial⟩ ?_
        intro τ3 y3 hB3 F3 _ _ _ m3
        have G3 : FQ [(93, 45)] τ τ3 := FQ.tr (FQ.up (G := []) rfl G2) F3
        have mz : mo (zW w) = w ∧ ma (zW w) = 0 := by
          rcases (show w = 9 ∨ w = 10 ∨ w = 11 by omega) with h | h | h <;> rw [h] <;> exact ⟨rfl, rfl⟩
        have oz : okC (zW w) := by
          rcases (show w = 9 ∨ w = 10 ∨ w = 11 by omega) with h | h | h <;> rw [h] <;> decide
        refine Ok.cv rfl rfl rfl rfl rfl rfl rfl ?_
        have em := x_emi (c := c) (zW w) oz hB3 (by omega) (hC.fq (G := [(93, 45)]) rfl G3)
        rw [mz.1, mz.2] at em
        refine em.use (by decide) (fun r τ4 q => ?_)
        obtain ⟨rfl, hB4, F4, C4⟩ := q
        have R4 : st_R τ4 (B ++ List.replicate k w) := by
          refine ⟨?_, by omega, fun j hj => ?_⟩
          · have e : cI τ4 45 = cI τ3 45 := congrArg Int32.toInt (F4 93 45 rfl)
            rw [e, show cI τ3 45 = ((B.length + k + 1 : Nat) : Int) + (-1) from m3.1, l0]
            omega
          · have e : sI τ4 121 j = sI τ 121 j := congrArg Int32.toInt ((F4 121 j rfl).trans (G3 121 j rfl))
            rw [e, hR.2.2 j (by omega), gd_l hj]
        have G4 : FQ FSt τ τ4 := FQ.tr (FQ.up (G := [(93, 45)]) rfl G3) (FQ.up (G := FEn) rfl F4)
        have l2 : (c ++ [zW w]).length = c.length + 1 := by rw [List.length_append, List.length_singleton]
        have cc : c ++ [zW w] ++ List.replicate k (zW w) = c ++ List.replicate (k + 1) (zW w) := by
          rw [List.append_assoc]
          rfl
        have e4 : cI τ4 43 = (o : Int) := (congrArg Int32.toInt ((F4 93 43 rfl).trans (G3 93 43 rfl))).trans e43
        by_cases h9 : w = 9
        · have o1 := ho h9
          refine mq_t22n w (o : Int) hB4 ⟨by omega, by omega, trivial⟩ ⟨e4, trivial⟩ ?_
          intro τ5 y5 hB5 F5 _ _ _ m5
          have G5 : FQ FSt τ τ5 := FQ.tr G4 (FQ.up (G := [(93, 43)]) rfl F5)
          refine ih (o - 1) (c ++ [zW w]) τ5 (by omega) (fun _ => by omega) (by omega) hB5 (C4.fq (G := [(93, 43)]) rfl F5) (R4.fq (G := [(93, 43)]) rfl F5) (by rw [show cI τ5 43 = (o : Int) + (-1) from m5.1]; omega) (fun τ' hB' F' a1 a2 a3 => hQ τ' hB' (FQ.tr G5 F') (by rw [← cc]; exact a1) a2 ?_)
          rw [a3, if_pos h9, if_pos h9]
          omega
        · refine mq_t22o w hB4 ⟨by omega, trivial⟩ ?_
          intro τ5 y5 hB5 F5 _ _ _ _
          have G5 : FQ FSt τ τ5 := FQ.tr G4 (FQ.up (G := []) rfl F5)
          refine ih o (c ++ [zW w]) τ5 (by omega) (fun z => absurd z h9) ho8 hB5 (C4.fq (G := []) rfl F5) (R4.fq (G := []) rfl F5) ((congrArg Int32.toInt (F5 93 43 rfl)).trans e4) (fun τ' hB' F' a1 a2 a3 => hQ τ' hB' (FQ.tr G5 F') (by rw [← cc]; exact a1) a2 ?_)
          rw [a3, if_neg h9, if_neg h9]
theorem x_set {kO kA : Nat → Int32} {σ : pm_S} (w : Int) (hw : 9 ≤ w ∧ w ≤ 11) (B : List Int) (hE : nE B w) (k o : Nat) (c : List Int) (hc : c.length + k ≤ 400) (ho : w = 9 → k ≤ o) (ho8 : o ≤ 8) (hB : an_GB pm_B σ) (hC : mt_C kO kA σ c) (hR : st_R σ (B ++ List.replicate k w)) (e43 : cI σ 43 = (o : Int)) : Sp 192 8 [.ref 93, .int (Int32.ofInt w)] σ (fun r τ => r = none ∧ an_GB pm_B τ ∧ FQ FSt σ τ ∧ mt_C kO kA τ (c ++ List.replicate k (zW w)) ∧ st_R τ B ∧ cI τ 43 = (o : Int) - (if w = 9 then (k : Int) else 0)) := by
  refine Sp.at rfl rfl ?_
  exact x_setl w hw B hE k o c σ hc ho ho8 hB hC hR e43 (fun τ' hB' F' a1 a2 a3 => ⟨rfl, hB', F', a1, a2, a3⟩)
