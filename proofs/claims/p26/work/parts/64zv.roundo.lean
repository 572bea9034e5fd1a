/-! rounds, the model: the search -/
abbrev FRo : List (Nat × Nat) := [(124, 9999)]
/-- of those of n, the first -/
abbrev lxF (E : Nat → Prop) (Db Cr : Nat → Nat) (R : Nat → Nat) (n : Nat) : Prop := rnd E Db Cr R n ∧ ∀ r', rnd E Db Cr r' n → ∀ i, i < n → (∀ j, j < i → r' j = R j) → R i ≤ r' i
section MFR
variable {σ : pm_S} {D s n : Nat} {Q : Option Value → pm_S → Prop}
theorem cbm_n {R : Nat → Nat} {k d : Nat} (h : cbm σ D s R n k d) (h0 : 0 < k → R 0 < d) : cbn (mE σ D s) (nt (σ.1 101)) (nt (σ.1 102)) R n k d := by
  refine ⟨h.1, ?_⟩
  rcases h.2 with z | z
  · exact Or.inl z
  · rcases Nat.eq_zero_or_pos k with w | w
    · exact Or.inl w
    · exact Or.inr ⟨h0 w, z⟩
theorem cbn_m {R : Nat → Nat} {k d : Nat} (h : cbn (mE σ D s) (nt (σ.1 101)) (nt (σ.1 102)) R n k d) : cbm σ D s R n k d := by
  refine ⟨h.1, ?_⟩
  rcases h.2 with z | z
  · exact Or.inl z
  · exact Or.inr z.2
set_option maxRecDepth 20000 in
theorem x_srch (hs : s < 10) (hD : D ≤ 30) (eD : sI σ 93 11 = (D : Int)) (hn : 2 ≤ n ∧ n ≤ 10) (hyes : ∀ (R : Nat → Nat) (τ : pm_S), an_GB pm_B τ → FQ FRo σ τ → rwR R n (sI τ 124) → (∀ j, j < n → R j < D) → lxF (mE σ D s) (nt (σ.1 101)) (nt (σ.1 102)) R n → Q (some (.int (Int32.ofInt 1))) τ) : ∀ (m k : Nat), k + m + 1 = n → ∀ (e d : Nat) (R : Nat → Nat) (τ : pm_S), d + e = D → (0 < k → R 0 < d) → (∀ i, i < k → cbn (mE σ D s) (nt (σ.1 101)) (nt (σ.1 102)) R n i (R i)) → nR (mE σ D s) (nt (σ.1 101)) (nt (σ.1 102)) n R k d → rwR R k (sI τ 124) → an_GB pm_B τ → FQ FRo σ τ → (∀ τ' : pm_S, rwR R k (sI τ' 124) → nR (mE σ D s) (nt (σ.1 101)) (nt (σ.1 102)) n R k D → an_GB pm_B τ' → FQ FRo σ τ' → Ok 204 6 7 [.ref 93, .int (Int32.ofInt (s : Int)), .int (Int32.ofInt (n : Int)), .int (Int32.ofInt ((k : Int) + (-1))), .int (Int32.ofInt (D : Int))] [] τ' Q) → Ok 204 6 16 [.ref 93, .int (Int32.ofInt (s : Int)), .int (Int32.ofInt (n : Int)), .int (Int32.ofInt (k : Int)), .int (Int32.ofInt (d : Int))] [] τ Q := by
  intro m
  induction m with
  | zero =>
    intro k hk e
    have kn : k = n - 1 := by omega
    induction e with
    | zero =>
      intro d R τ hd h0 hp hR hr hB F hb
      have e : d = D := by omega
      subst e
      refine tf_f16 s n k d d hB ⟨by omega, by omega, by omega, by omega, by omega, trivial⟩ ⟨(congrArg Int32.toInt (F 93 11 rfl)).trans eD, trivial⟩ ?_
      intro τ1 y1 hB1 F1 _ _ _ _
      have G1 : FQ FRo σ τ1 := FQ.tr F (FQ.up (G := []) rfl F1)
      refine Ok.ic rfl rfl (by omega) (by omega) (by omega) (by omega) (fun g => ?_) (fun g => ?_)
      · refine tf_f32 s n k d d hB1 ⟨by omega, by omega, by omega, by omega, by omega, trivial⟩ ⟨(congrArg Int32.toInt (G1 93 11 rfl)).trans eD, trivial⟩ ?_
        intro τ2 y2 hB2 F2 _ _ _ _
        refine Ok.ic rfl rfl (by omega) (by omega) (by omega) (by omega) (fun w => ?_) (fun w => ?_)
        · exact absurd rfl (show (d : Int) ≠ (d : Int) from w)
        · refine tf_f36 s n k d hB2 ⟨by omega, by omega, by omega, by omega, trivial⟩ ?_
          intro τ3 y3 hB3 F3 _ _ _ _
          exact hb τ3 (fun j hj => (congrArg Int32.toInt ((FQ.tr F1 (FQ.tr F2 F3)) 124 j rfl)).trans (hr j hj)) hR hB3 (FQ.tr G1 (FQ.up (G := []) rfl (FQ.tr F2 F3)))
      · have g : (d : Int) < (d : Int) := g
        exfalso
        omega
    | succ e ih =>
      intro d R τ hd h0 hp hR hr hB F hb
      have hdD : d < D := by omega
      have ek : ((k : Int)).toNat = k := by omega
      refine tf_f16 s n k d D hB ⟨by omega, by omega, by omega, by omega, by omega, trivial⟩ ⟨(congrArg Int32.toInt (F 93 11 rfl)).trans eD, trivial⟩ ?_
      intro τ1 y1 hB1 F1 _ _ _ _
      have G1 : FQ FRo σ τ1 := FQ.tr F (FQ.up (G := []) rfl F1)
      refine Ok.ic rfl rfl (by omega) (by omega) (by omega) (by omega) (fun g => ?_) (fun g => ?_)
      · have g : (D : Int) ≤ (d : Int) := g
        exfalso
        omega
      refine tf_f20 s n k d hB1 ⟨by omega, by omega, by omega, by omega, trivial⟩ ?_
      intro τ2 y2 hB2 F2 _ _ _ _
      have G2 : FQ FRo σ τ2 := FQ.tr G1 (FQ.up (G := []) rfl F2)
      have g2 : FQ [] τ τ2 := FQ.tr F1 F2
      have E2 : ∀ R k d, cbm τ2 D s R n k d ↔ cbm σ D s R n k d := fun R k d => by
        unfold cbm
        rw [mE_fq G2 rfl rfl rfl rfl rfl, row_fq G2 (P := 101) rfl, row_fq G2 (P := 102) rfl]
      refine Ok.cv rfl rfl rfl rfl rfl rfl rfl ?_
      refine (x_cbn (σ := τ2) (D := D) (s := s) (n := n) (R := R) (k := k) (d := d) hs hD hn (by omega) hdD (fun j hj => (congrArg Int32.toInt (g2 124 j rfl)).trans (hr j hj)) (fun j hj => (hp j hj).1.1) hB2).use (by decide) (fun r τ3 q => ?_)
      obtain ⟨hB3, F3, ⟨rfl, q⟩ | ⟨rfl, q⟩⟩ := q
      · rw [E2] at q
        have G3 : FQ FRo σ τ3 := FQ.tr G2 (FQ.up (G := []) rfl F3)
        refine tf_f26 s n k d 1 hB3 ⟨by omega, by omega, by omega, by omega, by omega, trivial⟩ ?_ ?_
        · intro τ4 y4 hB4 F4 _ _ _ _
          have G4 : FQ FRo σ τ4 := FQ.tr G3 (FQ.up (G := []) rfl F4)
          refine tf_f32 s n k d D hB4 ⟨by omega, by omega, by omega, by omega, by omega, trivial⟩ ⟨(congrArg Int32.toInt (G4 93 11 rfl)).trans eD, trivial⟩ ?_
          intro τ5 y5 hB5 F5 _ _ _ _
          refine Ok.ic rfl rfl (by omega) (by omega) (by omega) (by omega) (fun w => ?_) (fun w => ?_)
          · refine tf_f41 s n k d hB5 ⟨by omega, by omega, by omega, by omega, trivial⟩ ?_
            intro τ6 y6 hB6 F6 _ _ _ _
            have G6 : FQ FRo σ τ6 := FQ.tr G4 (FQ.up (G := []) rfl (FQ.tr F5 F6))
            have g6 : FQ [] τ τ6 := FQ.tr g2 (FQ.tr F3 (FQ.tr F4 (FQ.tr F5 F6)))
            refine Ok.ast (n := 10) rfl rfl rfl (by decide) (by omega) (by omega) ?_
            rw [ek]
            have hB7 : an_GB pm_B (put τ6 124 k (Int32.ofInt (d : Int))) := put_GB hB6 (show (-1 : Int) ≤ (Int32.ofInt (d : Int)).toInt ∧ (Int32.ofInt (d : Int)).toInt ≤ 29 by rw [ti_of (by omega) (by omega)]; omega)
            have P7 : FQ [(124, 9999)] τ6 (put τ6 124 k (Int32.ofInt (d : Int))) := FQ.put rfl
            have v7 : ∀ j, sI (put τ6 124 k (Int32.ofInt (d : Int))) 124 j = if j = k then (d : Int) else sI τ6 124 j := fun j => by
              show ((put τ6 124 k (Int32.ofInt (d : Int))).1 124 j).toInt = _
              rw [put_get]
              by_cases e : j = k
              · rw [if_pos ⟨rfl, e⟩, if_pos e, ti_of (by omega) (by omega)]
              · rw [if_neg (fun z => e z.2), if_neg e]
            generalize put τ6 124 k (Int32.ofInt (d : Int)) = τ7 at hB7 P7 v7 ⊢
            refine tf_f46 s n k d hB7 ⟨by omega, by omega, by omega, by omega, trivial⟩ ?_
            intro τ8 y8 hB8 F8 _ _ _ _
            refine Ok.ic rfl rfl (by omega) (by omega) (by omega) (by omega) (fun x => ?_) (fun x => ?_)
            · have x : (k : Int) ≠ (n : Int) + (-1) := x
              exfalso
              omega
            · refine tf_f51 s n k d hB8 ⟨by omega, by omega, by omega, by omega, trivial⟩ ?_
              intro τ9 y9 hB9 F9 _ _ _ _
              have cn := cbm_n q h0
              refine hyes (fun i => if i = k then d else R i) τ9 hB9 (FQ.tr G6 (FQ.tr P7 (FQ.up (G := []) rfl (FQ.tr F8 F9)))) (fun j hj => ?_) (fun j hj => ?_) ⟨fun i hi => ?_, fun r' hr' i hi hj => ?_⟩
              · rw [show sI τ9 124 j = sI τ7 124 j from congrArg Int32.toInt ((FQ.tr F8 F9) 124 j rfl), v7 j]
                by_cases c : j = k
                · dsimp only
                  rw [if_pos c, if_pos c]
                · dsimp only
                  rw [if_neg c, if_neg c]
                  exact (congrArg Int32.toInt (g6 124 j rfl)).trans (hr j (by omega))
              · show (if j = k then d else R j) < D
                by_cases c : j = k
                · rw [if_pos c]
                  exact hdD
                · rw [if_neg c]
                  exact (hp j (by omega)).1.1
              · show cbn _ _ _ _ n i (if i = k then d else R i)
                by_cases c : i = k
                · rw [if_pos c, c]
                  exact cn.congr (fun j hj => (if_neg (by omega)).symm)
                · rw [if_neg c]
                  exact (hp i (by omega)).congr (fun j hj => (if_neg (by omega)).symm)
              · show (if i = k then d else R i) ≤ r' i
                have hj' : ∀ j, j < i → r' j = R j := fun j hji => by
                  have q : r' j = (if j = k then d else R j) := hj j hji
                  rw [if_neg (show ¬ j = k by omega)] at q
                  exact q
                by_cases c : i = k
                · rw [if_pos c, c]
                  rw [c] at hj'
                  exact (hR r' hr').2 hj'
                · rw [if_neg c]
                  exact (hR r' hr').1 i (by omega) hj'
          · have w : (d : Int) = (D : Int) := w
            exfalso
            omega
        · intro τ4 y4 _ _ f _ _ _
          have f4 := f.2.2.2.2.1
          exfalso
          omega
      · rw [E2] at q
        refine tf_f26 s n k d 0 hB3 ⟨by omega, by omega, by omega, by omega, by omega, trivial⟩ ?_ ?_
        · intro τ4 y4 _ _ f _ _ _
          have f4 := f.2.2.2.2.1
          exfalso
          omega
        · intro τ4 y4 hB4 F4 _ _ _ _
          have g4 : FQ [] τ τ4 := FQ.tr g2 (FQ.tr F3 F4)
          rw [show (d : Int) + 1 = ((d + 1 : Nat) : Int) by omega]
          refine ih (d + 1) R τ4 (by omega) (fun z => by have := h0 z; omega) hp (nR_n hR (fun r hr' hi z => q (cbn_m ?_))) (fun j hj => (congrArg Int32.toInt (g4 124 j rfl)).trans (hr j hj)) hB4 (FQ.tr F (FQ.up (G := []) rfl g4)) hb
          have := (hr' k (by omega)).congr (r' := R) hi
          rw [z] at this
          exact this
  | succ m IH =>
    intro k hk e
    induction e with
    | zero =>
      intro d R τ hd h0 hp hR hr hB F hb
      have e : d = D := by omega
      subst e
      refine tf_f16 s n k d d hB ⟨by omega, by omega, by omega, by omega, by omega, trivial⟩ ⟨(congrArg Int32.toInt (F 93 11 rfl)).trans eD, trivial⟩ ?_
      intro τ1 y1 hB1 F1 _ _ _ _
      have G1 : FQ FRo σ τ1 := FQ.tr F (FQ.up (G := []) rfl F1)
      refine Ok.ic rfl rfl (by omega) (by omega) (by omega) (by omega) (fun g => ?_) (fun g => ?_)
      · refine tf_f32 s n k d d hB1 ⟨by omega, by omega, by omega, by omega, by omega, trivial⟩ ⟨(congrArg Int32.toInt (G1 93 11 rfl)).trans eD, trivial⟩ ?_
        intro τ2 y2 hB2 F2 _ _ _ _
        refine Ok.ic rfl rfl (by omega) (by omega) (by omega) (by omega) (fun w => ?_) (fun w => ?_)
        · exact absurd rfl (show (d : Int) ≠ (d : Int) from w)
        · refine tf_f36 s n k d hB2 ⟨by omega, by omega, by omega, by omega, trivial⟩ ?_
          intro τ3 y3 hB3 F3 _ _ _ _
          exact hb τ3 (fun j hj => (congrArg Int32.toInt ((FQ.tr F1 (FQ.tr F2 F3)) 124 j rfl)).trans (hr j hj)) hR hB3 (FQ.tr G1 (FQ.up (G := []) rfl (FQ.tr F2 F3)))
      · have g : (d : Int) < (d : Int) := g
        exfalso
        omega
    | succ e ih =>
      intro d R τ hd h0 hp hR hr hB F hb
      have hdD : d < D := by omega
      have ek : ((k : Int)).toNat = k := by omega
      refine tf_f16 s n k d D hB ⟨by omega, by omega, by omega, by omega, by omega, trivial⟩ ⟨(congrArg Int32.toInt (F 93 11 rfl)).trans eD, trivial⟩ ?_
      intro τ1 y1 hB1 F1 _ _ _ _
      have G1 : FQ FRo σ τ1 := FQ.tr F (FQ.up (G := []) rfl F1)
      refine Ok.ic rfl rfl (by omega) (by omega) (by omega) (by omega) (fun g => ?_) (fun g => ?_)
      · have g : (D : Int) ≤ (d : Int) := g
        exfalso
        omega
      refine tf_f20 s n k d hB1 ⟨by omega, by omega, by omega, by omega, trivial⟩ ?_
      intro τ2 y2 hB2 F2 _ _ _ _
      have G2 : FQ FRo σ τ2 := FQ.tr G1 (FQ.up (G := []) rfl F2)
      have g2 : FQ [] τ τ2 := FQ.tr F1 F2
      have E2 : ∀ R k d, cbm τ2 D s R n k d ↔ cbm σ D s R n k d := fun R k d => by
        unfold cbm
        rw [mE_fq G2 rfl rfl rfl rfl rfl, row_fq G2 (P := 101) rfl, row_fq G2 (P := 102) rfl]
      refine Ok.cv rfl rfl rfl rfl rfl rfl rfl ?_
      refine (x_cbn (σ := τ2) (D := D) (s := s) (n := n) (R := R) (k := k) (d := d) hs hD hn (by omega) hdD (fun j hj => (congrArg Int32.toInt (g2 124 j rfl)).trans (hr j hj)) (fun j hj => (hp j hj).1.1) hB2).use (by decide) (fun r τ3 q => ?_)
      obtain ⟨hB3, F3, ⟨rfl, q⟩ | ⟨rfl, q⟩⟩ := q
      · rw [E2] at q
        have G3 : FQ FRo σ τ3 := FQ.tr G2 (FQ.up (G := []) rfl F3)
        refine tf_f26 s n k d 1 hB3 ⟨by omega, by omega, by omega, by omega, by omega, trivial⟩ ?_ ?_
        · intro τ4 y4 hB4 F4 _ _ _ _
          have G4 : FQ FRo σ τ4 := FQ.tr G3 (FQ.up (G := []) rfl F4)
          refine tf_f32 s n k d D hB4 ⟨by omega, by omega, by omega, by omega, by omega, trivial⟩ ⟨(congrArg Int32.toInt (G4 93 11 rfl)).trans eD, trivial⟩ ?_
          intro τ5 y5 hB5 F5 _ _ _ _
          refine Ok.ic rfl rfl (by omega) (by omega) (by omega) (by omega) (fun w => ?_) (fun w => ?_)
          · refine tf_f41 s n k d hB5 ⟨by omega, by omega, by omega, by omega, trivial⟩ ?_
            intro τ6 y6 hB6 F6 _ _ _ _
            have G6 : FQ FRo σ τ6 := FQ.tr G4 (FQ.up (G := []) rfl (FQ.tr F5 F6))
            have g6 : FQ [] τ τ6 := FQ.tr g2 (FQ.tr F3 (FQ.tr F4 (FQ.tr F5 F6)))
            refine Ok.ast (n := 10) rfl rfl rfl (by decide) (by omega) (by omega) ?_
            rw [ek]
            have hB7 : an_GB pm_B (put τ6 124 k (Int32.ofInt (d : Int))) := put_GB hB6 (show (-1 : Int) ≤ (Int32.ofInt (d : Int)).toInt ∧ (Int32.ofInt (d : Int)).toInt ≤ 29 by rw [ti_of (by omega) (by omega)]; omega)
            have P7 : FQ [(124, 9999)] τ6 (put τ6 124 k (Int32.ofInt (d : Int))) := FQ.put rfl
            have v7 : ∀ j, sI (put τ6 124 k (Int32.ofInt (d : Int))) 124 j = if j = k then (d : Int) else sI τ6 124 j := fun j => by
              show ((put τ6 124 k (Int32.ofInt (d : Int))).1 124 j).toInt = _
              rw [put_get]
              by_cases e : j = k
              · rw [if_pos ⟨rfl, e⟩, if_pos e, ti_of (by omega) (by omega)]
              · rw [if_neg (fun z => e z.2), if_neg e]
            generalize put τ6 124 k (Int32.ofInt (d : Int)) = τ7 at hB7 P7 v7 ⊢
            -- the row with d
            have r7 : rwR (fun i => if i = k then d else R i) (k + 1) (sI τ7 124) := fun j hj => by
              rw [v7 j]
              by_cases c : j = k
              · dsimp only
                rw [if_pos c, if_pos c]
              · dsimp only
                rw [if_neg c, if_neg c]
                exact (congrArg Int32.toInt (g6 124 j rfl)).trans (hr j (by omega))
            have h00 : (if 0 = k then d else R 0) < D := by
              by_cases c : 0 = k
              · rw [if_pos c]
                exact hdD
              · rw [if_neg c]
                exact (hp 0 (by omega)).1.1
            refine tf_f46 s n k d hB7 ⟨by omega, by omega, by omega, by omega, trivial⟩ ?_
            intro τ8 y8 hB8 F8 _ _ _ _
            refine Ok.ic rfl rfl (by omega) (by omega) (by omega) (by omega) (fun x => ?_) (fun x => ?_)
            · refine tf_f53 s n k d (((if 0 = k then d else R 0 : Nat)) : Int) hB8 ⟨by omega, by omega, by omega, by omega, by omega, trivial⟩ ⟨(congrArg Int32.toInt (F8 124 0 rfl)).trans (r7 0 (by omega)), trivial⟩ ?_
              intro τ9 y9 hB9 F9 _ _ _ _
              have ek1 : ((k : Int) + 1).toNat = k + 1 := by omega
              refine Ok.ast (n := 10) rfl rfl rfl (by decide) (by omega) (by omega) ?_
              rw [ek1]
              have hBa : an_GB pm_B (put τ9 124 (k + 1) (Int32.ofInt (((if 0 = k then d else R 0 : Nat)) : Int))) := put_GB hB9 (show (-1 : Int) ≤ (Int32.ofInt (((if 0 = k then d else R 0 : Nat)) : Int)).toInt ∧ (Int32.ofInt (((if 0 = k then d else R 0 : Nat)) : Int)).toInt ≤ 29 by rw [ti_of (by omega) (by omega)]; omega)
              have Pa : FQ [(124, 9999)] τ9 (put τ9 124 (k + 1) (Int32.ofInt (((if 0 = k then d else R 0 : Nat)) : Int))) := FQ.put rfl
              have va : ∀ j, sI (put τ9 124 (k + 1) (Int32.ofInt (((if 0 = k then d else R 0 : Nat)) : Int))) 124 j = if j = k + 1 then (((if 0 = k then d else R 0 : Nat)) : Int) else sI τ9 124 j := fun j => by
                show ((put τ9 124 (k + 1) (Int32.ofInt (((if 0 = k then d else R 0 : Nat)) : Int))).1 124 j).toInt = _
                rw [put_get]
                by_cases e : j = k + 1
                · rw [if_pos ⟨rfl, e⟩, if_pos e, ti_of (by omega) (by omega)]
                · rw [if_neg (fun z => e z.2), if_neg e]
              generalize put τ9 124 (k + 1) (Int32.ofInt (((if 0 = k then d else R 0 : Nat)) : Int)) = τa at hBa Pa va ⊢
              have ra : rwR (fun i => if i = k then d else R i) (k + 1) (sI τa 124) := fun j hj => by
                rw [va j, if_neg (by omega)]
                exact (congrArg Int32.toInt ((FQ.tr F8 F9) 124 j rfl)).trans (r7 j hj)
              have Ga : FQ FRo σ τa := FQ.tr G6 (FQ.tr P7 (FQ.tr (FQ.up (G := []) rfl (FQ.tr F8 F9)) Pa))
              refine tf_f65 s n ((k : Int) + 1) d hBa ⟨by omega, by omega, by omega, by omega, trivial⟩ ?_
              intro τb yb hBb Fb _ _ _ _
              refine tf_f7 s n ((k : Int) + 1) (((if 0 = k then d else R 0 : Nat)) : Int) _ rfl hBb ⟨by omega, by omega, by omega, by omega, trivial⟩ ⟨by rw [ek1]; exact (congrArg Int32.toInt (Fb 124 (k + 1) rfl)).trans ((va (k + 1)).trans (if_pos rfl)), trivial⟩ ?_
              intro τc yc hBc Fc _ _ _ _
              rw [show (k : Int) + 1 = ((k + 1 : Nat) : Int) by omega, show (((if 0 = k then d else R 0 : Nat)) : Int) + 1 = (((if 0 = k then d else R 0) + 1 : Nat) : Int) by omega]
              have cn := cbm_n q h0
              refine IH (k + 1) (by omega) (D - ((if 0 = k then d else R 0) + 1)) ((if 0 = k then d else R 0) + 1) (fun i => if i = k then d else R i) τc (by omega) (fun _ => Nat.lt_succ_self _) (fun i hi => ?_) (nR_u hR (by omega)) (fun j hj => (congrArg Int32.toInt ((FQ.tr Fb Fc) 124 j rfl)).trans (ra j hj)) hBc (FQ.tr Ga (FQ.up (G := []) rfl (FQ.tr Fb Fc))) (fun τ' hr' hR' hB' F' => ?_)
              · show cbn _ _ _ _ n i (if i = k then d else R i)
                by_cases c : i = k
                · rw [if_pos c, c]
                  exact cn.congr (fun j hj => (if_neg (by omega)).symm)
                · rw [if_neg c]
                  exact (hp i (by omega)).congr (fun j hj => (if_neg (by omega)).symm)
              · -- back here: the next d
                rw [show ((k + 1 : Nat) : Int) + (-1) = (k : Int) by omega]
                have rk := hr' k (Nat.lt_succ_self k)
                dsimp only at rk
                rw [if_pos rfl] at rk
                refine tf_f7 s n k d _ rfl hB' ⟨by omega, by omega, by omega, by omega, trivial⟩ ⟨by rw [ek]; exact rk, trivial⟩ ?_
                intro τd yd hBd Fd _ _ _ _
                rw [show (d : Int) + 1 = ((d + 1 : Nat) : Int) by omega]
                have b := nR_d hR' (fun r hr'' => ((hr'' (k + 1) (by omega)).1).1)
                have b2 : nR (mE σ D s) (nt (σ.1 101)) (nt (σ.1 102)) n R k (d + 1) := by
                  have z := nR_c (R' := R) b (fun i hi => if_neg (by omega))
                  rw [if_pos rfl] at z
                  exact z
                refine ih (d + 1) R τd (by omega) (fun z => by have := h0 z; omega) hp b2 (fun j hj => ?_) hBd (FQ.tr F' (FQ.up (G := []) rfl Fd)) hb
                have z := hr' j (by omega)
                dsimp only at z
                rw [if_neg (show ¬ j = k by omega)] at z
                exact (congrArg Int32.toInt (Fd 124 j rfl)).trans z
            · have x : (k : Int) = (n : Int) + (-1) := x
              exfalso
              omega
          · have w : (d : Int) = (D : Int) := w
            exfalso
            omega
        · intro τ4 y4 _ _ f _ _ _
          have f4 := f.2.2.2.2.1
          exfalso
          omega
      · rw [E2] at q
        refine tf_f26 s n k d 0 hB3 ⟨by omega, by omega, by omega, by omega, by omega, trivial⟩ ?_ ?_
        · intro τ4 y4 _ _ f _ _ _
          have f4 := f.2.2.2.2.1
          exfalso
          omega
        · intro τ4 y4 hB4 F4 _ _ _ _
          have g4 : FQ [] τ τ4 := FQ.tr g2 (FQ.tr F3 F4)
          rw [show (d : Int) + 1 = ((d + 1 : Nat) : Int) by omega]
          refine ih (d + 1) R τ4 (by omega) (fun z => by have := h0 z; omega) hp (nR_n hR (fun r hr' hi z => q (cbn_m ?_))) (fun j hj => (congrArg Int32.toInt (g4 124 j rfl)).trans (hr j hj)) hB4 (FQ.tr F (FQ.up (G := []) rfl g4)) hb
          have := (hr' k (by omega)).congr (r' := R) hi
          rw [z] at this
          exact this
theorem x_mfr (hs : s < 10) (hD : D ≤ 30) (eD : sI σ 93 11 = (D : Int)) (hn : 2 ≤ n ∧ n ≤ 10) (hB0 : an_GB pm_B σ) : Sp 204 6 [.ref 93, .int (Int32.ofInt (s : Int)), .int (Int32.ofInt (n : Int))] σ (fun r τ => an_GB pm_B τ ∧ FQ FRo σ τ ∧ ((r = some (.int (Int32.ofInt 0)) ∧ ∀ R, ¬ rnd (mE σ D s) (nt (σ.1 101)) (nt (σ.1 102)) R n) ∨ (r = some (.int (Int32.ofInt 1)) ∧ ∃ R, rwR R n (sI τ 124) ∧ (∀ j, j < n → R j < D) ∧ lxF (mE σ D s) (nt (σ.1 101)) (nt (σ.1 102)) R n))) := by
  refine Sp.at rfl rfl ?_
  refine tf_f0 s n _ _ rfl rfl hB0 ⟨by omega, by omega, trivial⟩ ?_
  intro τ1 y1 v4 c4 hB1 F1 _ _ _ _
  refine Ok.ast (n := 10) rfl rfl rfl (by decide) (by omega) (by omega) ?_
  have hB2 : an_GB pm_B (put τ1 124 (0 : Int).toNat (Int32.ofInt (-1))) := put_GB hB1 (by decide)
  have P2 : FQ [(124, 9999)] τ1 (put τ1 124 (0 : Int).toNat (Int32.ofInt (-1))) := FQ.put rfl
  have v2 : sI (put τ1 124 (0 : Int).toNat (Int32.ofInt (-1))) 124 0 = -1 := by
    show ((put τ1 124 0 (Int32.ofInt (-1))).1 124 0).toInt = _
    rw [put_eq]
    rfl
  generalize put τ1 124 (0 : Int).toNat (Int32.ofInt (-1)) = τ2 at hB2 P2 v2 ⊢
  refine tf_f7 s n ((0 : Nat) : Int) (-1) v4 c4 hB2 ⟨by omega, by omega, by omega, by omega, trivial⟩ ⟨v2, trivial⟩ ?_
  intro τ3 y3 hB3 F3 _ _ _ _
  have G3 : FQ FRo σ τ3 := FQ.tr (FQ.up (G := []) rfl F1) (FQ.tr P2 (FQ.up (G := []) rfl F3))
  rw [show (-1 : Int) + 1 = ((0 : Nat) : Int) from rfl]
  refine x_srch (σ := σ) (D := D) (s := s) (n := n) hs hD eD hn (fun R τ hB F hr hl hx => ⟨hB, F, Or.inr ⟨rfl, R, hr, hl, hx⟩⟩) (n - 1) 0 (by omega) D 0 (fun _ => 0) τ3 (Nat.zero_add _) (fun z => absurd z (Nat.lt_irrefl _)) (fun i hi => absurd hi (Nat.not_lt_zero _)) (nR_0 _) (fun j hj => absurd hj (Nat.not_lt_zero _)) hB3 G3 (fun τ' _ hR hB' F' => ?_)
  rw [show ((0 : Nat) : Int) + (-1) = -1 from rfl]
  refine tf_f7m s n _ rfl hB' ⟨by omega, by omega, trivial⟩ ?_
  intro τ4 y4 hB4 F4 _ _ _ _
  refine ⟨hB4, FQ.tr F' (FQ.up (G := []) rfl F4), Or.inl ⟨rfl, fun r hr => ?_⟩⟩
  have a := (hR r hr).2 (fun i hi => absurd hi (Nat.not_lt_zero _))
  have b := ((hr 0 (by omega)).1).1
  omega
end MFR
