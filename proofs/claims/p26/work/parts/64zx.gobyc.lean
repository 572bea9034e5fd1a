/-! a Sunday goes by, the class -/
/-- who goes where: the state behind, the footprint's rows -/
abbrev soP (σ τ : pm_S) (N : Nat) : Prop := FQ FSo σ τ ∧ τ.1 1 0 = fogS (σ.1 2 0) (σ.1 1 0) ∧ sI τ 1 3 = (if fogB (σ.1 2 0) (σ.1 1 0) = true then 1 else 0) ∧ τ.1 9 = cnS (awC σ (fogB (σ.1 2 0) (σ.1 1 0))) (σ.1 4) (σ.1 11) (σ.1 9) N ∧ τ.1 12 = stS (awC σ (fogB (σ.1 2 0) (σ.1 1 0))) (σ.1 8) (σ.1 11) (σ.1 12) N ∧ τ.1 1 2 = mlS (σ.1 1 2) (awC σ (fogB (σ.1 2 0) (σ.1 1 0))) (wC σ) N
/-- rounds, where they are cancelled -/
abbrev caP (σ τ : pm_S) (D S : Nat) (b : P3) : Prop := FQ FCa σ τ ∧ rwC b τ ∧ ((sI σ 2 2 = 1 ∧ rdsC (cC σ D) S (tC σ) b) ∨ (sI σ 2 2 = 0 ∧ b = tC σ))
/-- what is paid -/
abbrev paP (σ τ : pm_S) (D : Nat) (ls : List (List Int)) : Prop := FQ FPay σ τ ∧ τ.1 9 = (pyK σ ls D).1 ∧ τ.1 19 = (pyK σ ls D).2.1 ∧ τ.1 20 = (pyK σ ls D).2.2.1
abbrev FIn : List (Nat × Nat) := [(1, 1), (11, 9999), (16, 9999)]
/-- the next Sunday, interest, home again -/
abbrev inP (σ τ : pm_S) (D : Nat) : Prop := FQ FIn σ τ ∧ sI τ 1 1 = sI σ 1 1 + 1 ∧ τ.1 16 = inS (inC (Int32.ofInt (sI σ 1 1 + 1)) (σ.1 2 3) (σ.1 2 1) (σ.1 20) (σ.1 18) (σ.1 16)) (σ.1 16) D ∧ ∀ j, j < 10 → τ.1 11 j = σ.1 8 j
section GBC
variable {σ : pm_S} {ls : List (List Int)} {D N S : Nat}
set_option maxRecDepth 20000 in
theorem x_gbC (hw : ∀ l ∈ ls, lnW l) (H : caH σ D N S) (hh : ∀ p, p < N → sI σ 8 p < (S : Int) ∧ sI σ 11 p < (S : Int)) (hc : ∀ d, d < D → 0 ≤ sI σ 16 d ∧ sI σ 16 d ≤ 99999) (hsu : 0 ≤ sI σ 1 1 ∧ sI σ 1 1 ≤ 9998) (hL : cw_R σ ls.flatten) (hB0 : an_GB pm_B σ) : Sp 90 60 [.ref 74] σ (fun r τ => an_GB pm_B τ ∧ ∃ (τ1 τ2 τ3 : pm_S) (b : P3), soP σ τ1 N ∧ caP τ1 τ2 D S b ∧ tkR D b ∧ paP τ2 τ3 D ls ∧ inP τ3 τ D ∧ b.2.2.2 ≤ 300 ∧ r = some (.int (Int32.ofInt (((b.2.2.2 + (pyK τ2 ls D).2.2.2 : Nat)) : Int)))) := by
  have H0 := H
  obtain ⟨hD, hN, hS, eD, eN, eS, hpp, hu⟩ := H
  have b22 : 0 ≤ sI σ 2 2 ∧ sI σ 2 2 ≤ 1 := hB0 2 2 (by decide)
  have b23 : 1 ≤ sI σ 2 3 ∧ sI σ 2 3 ≤ 52 := hB0 2 3 (by decide)
  have b21 : 0 ≤ sI σ 2 1 ∧ sI σ 2 1 ≤ 99 := hB0 2 1 (by decide)
  refine Sp.at rfl rfl ?_
  refine pf_g0 _ rfl hB0 ?_
  intro τa ya va ka hBa Fa _ _ _ _
  have ez : ∀ {P : Nat}, τa.1 P = σ.1 P := fun {P} => row_fq Fa rfl
  refine Ok.cv rfl rfl rfl rfl rfl rfl rfl ?_
  refine (x_sot (σ := τa) (N := N) (S := S) hN hS ((congrArg Int32.toInt (Fa 7 0 rfl)).trans eN) ((congrArg Int32.toInt (Fa 3 0 rfl)).trans eS) (fun p hp => by
    rw [show sI τa 8 p = sI σ 8 p from congrArg Int32.toInt (Fa 8 p rfl), show sI τa 11 p = sI σ 11 p from congrArg Int32.toInt (Fa 11 p rfl)]
    exact hh p hp) hBa).use (by decide) (fun r τ1 q => ?_)
  obtain ⟨rfl, hB1, F1, q1, q2, q3, q4, q5⟩ := q
  have G1 : FQ FSo σ τ1 := FQ.tr (FQ.up (G := []) rfl Fa) F1
  have so : soP σ τ1 N := by
    have ea : awC τa = awC σ := by
      unfold awC
      rw [ez (P := 8), ez (P := 11), ez (P := 4), ez (P := 9)]
    have ew : wC τa = wC σ := funext fun p => by
      show τa.1 5 ((τa.1 8 p).toInt.toNat * 10 + (τa.1 11 p).toInt.toNat) = σ.1 5 ((σ.1 8 p).toInt.toNat * 10 + (σ.1 11 p).toInt.toNat)
      rw [ez (P := 5), ez (P := 8), ez (P := 11)]
    rw [ez (P := 2), ez (P := 1)] at q1 q2
    rw [ea, ez (P := 2), ez (P := 1), ez (P := 4), ez (P := 11), ez (P := 9)] at q3
    rw [ea, ez (P := 2), ez (P := 1), ez (P := 8), ez (P := 11), ez (P := 12)] at q4
    rw [ea, ew, ez (P := 2), ez (P := 1)] at q5
    exact ⟨G1, q1, q2, q3, q4, q5⟩
  -- behind the rounds
  have rest : ∀ (b : P3) (τ τ2 : pm_S) (v : Value), v.category = 1 → FQ [] τ1 τ → FQ FCa τ1 τ2 → rwC b τ2 → tkR D b → b.2.2.2 ≤ 300 → ((sI τ1 2 2 = 1 ∧ rdsC (cC τ1 D) S (tC τ1) b) ∨ (sI τ1 2 2 = 0 ∧ b = tC τ1)) → an_GB pm_B τ2 → Ok 90 60 16 [.ref 74, v] [.ref 74, .int (Int32.ofInt ((b.2.2.2 : Nat) : Int))] τ2 (fun r τ => an_GB pm_B τ ∧ ∃ (τ1 τ2 τ3 : pm_S) (b : P3), soP σ τ1 N ∧ caP τ1 τ2 D S b ∧ tkR D b ∧ paP τ2 τ3 D ls ∧ inP τ3 τ D ∧ b.2.2.2 ≤ 300 ∧ r = some (.int (Int32.ofInt (((b.2.2.2 + (pyK τ2 ls D).2.2.2 : Nat)) : Int)))) := by
    intro b _ τ2 v hv _ F2 r2 t2 n2 c2 hB2
    have L2 : cw_R τ2 ls.flatten := (hL.fq (G := FSo) rfl G1).fq (G := FCa) rfl F2
    have eD2 : sI τ2 13 0 = (D : Int) := (congrArg Int32.toInt (F2 13 0 rfl)).trans ((congrArg Int32.toInt (G1 13 0 rfl)).trans eD)
    refine Ok.cv rfl rfl rfl rfl rfl rfl rfl ?_
    refine (x_pac (σ := τ2) (ls := ls) (D := D) hw hD eD2 L2 hB2).use (by decide) (fun r τ3 q => ?_)
    obtain ⟨rfl, hB3, F3, p1, p2, p3⟩ := q
    have pn : (pyK τ2 ls D).2.2.2 ≤ 0 + D := pyF_n _ _ _ _ _ _ _ D
    have s3 : ∀ {P j : Nat}, FQ FPay τ2 τ3 → an_inF FPay P j = false → an_inF FCa P j = false → an_inF FSo P j = false → sI τ3 P j = sI σ P j := fun {P j} _ a b c => congrArg Int32.toInt ((F3 P j a).trans ((F2 P j b).trans (G1 P j c)))
    have s11 : sI τ3 1 1 = sI σ 1 1 := s3 F3 rfl rfl rfl
    have s23 : sI τ3 2 3 = sI σ 2 3 := s3 F3 rfl rfl rfl
    have s21 : sI τ3 2 1 = sI σ 2 1 := s3 F3 rfl rfl rfl
    refine pf_g17 ((b.2.2.2 : Nat) : Int) (((pyK τ2 ls D).2.2.2 : Nat) : Int) (sI τ3 1 1) (sI τ3 2 3) (sI τ3 2 1) v hv hB3 ⟨by omega, by omega, by omega, by omega, by omega, trivial⟩ ⟨rfl, rfl, rfl, trivial⟩ ?_
    intro τ4 y4 hB4 F4 _ _ d4 c4
    have e5 : y4 5 = (((b.2.2.2 + (pyK τ2 ls D).2.2.2 : Nat)) : Int) := by
      have z := d4.1
      rw [sum0 (by omega) (by omega) (by omega) (by omega) (by omega) (by omega)] at z
      omega
    rw [e5]
    have c16 : ∀ d, d < D → 0 ≤ sI τ4 16 d ∧ sI τ4 16 d ≤ 99999 := fun d hd => by
      have e : sI τ4 16 d = (b.1 d).toInt := by
        show (τ4.1 16 d).toInt = _
        rw [row_fq F4 (P := 16) rfl, row_fq F3 (P := 16) rfl, r2.1]
      rw [e]
      exact t2 d hd
    refine Ok.cv rfl rfl rfl rfl rfl rfl rfl ?_
    refine (x_aic (σ := τ4) (D := D) (su := sI τ3 1 1 + 1) (tu := sI τ3 2 3) (ra := sI τ3 2 1) hD ((congrArg Int32.toInt (F4 13 0 rfl)).trans ((congrArg Int32.toInt (F3 13 0 rfl)).trans eD2)) (by omega) (by omega) (by omega) c16 hB4).use (by decide) (fun r τ5 q => ?_)
    obtain ⟨rfl, hB5, F5, i5⟩ := q
    refine pf_g43 (((b.2.2.2 + (pyK τ2 ls D).2.2.2 : Nat)) : Int) hB5 ⟨by omega, trivial⟩ ?_
    intro τ6 y6 hB6 F6 _ _ _ _
    refine Ok.cv rfl rfl rfl rfl rfl rfl rfl ?_
    refine (x_aim (σ := τ6) hB6).use (by decide) (fun r τ7 q => ?_)
    obtain ⟨rfl, hB7, F7, h7⟩ := q
    refine pf_g47 (((b.2.2.2 + (pyK τ2 ls D).2.2.2 : Nat)) : Int) hB7 ⟨by omega, trivial⟩ ?_
    intro τ8 y8 hB8 F8 _ _ _ _
    have G8 : FQ FIn τ3 τ8 := FQ.tr (FQ.up (G := [(1, 1)]) rfl F4) (FQ.tr (FQ.up (G := [(16, 9999)]) rfl F5) (FQ.tr (FQ.up (G := []) rfl F6) (FQ.tr (FQ.up (G := [(11, 9999)]) rfl F7) (FQ.up (G := []) rfl F8))))
    refine ⟨hB8, τ1, τ2, τ3, b, so, ⟨F2, r2, c2⟩, t2, ⟨F3, p1, p2, p3⟩, ⟨G8, ?_, ?_, fun j hj => ?_⟩, n2, rfl⟩
    · have z := c4.1
      rw [show sI τ8 1 1 = sI τ4 1 1 from congrArg Int32.toInt ((F8 1 1 rfl).trans ((F7 1 1 rfl).trans ((F6 1 1 rfl).trans (F5 1 1 rfl))))]
      exact z
    · rw [row_fq F8 (P := 16) rfl, row_fq F7 (P := 16) rfl, row_fq F6 (P := 16) rfl, i5]
      unfold inKs
      rw [oI, oI, row_fq F4 (P := 20) rfl, row_fq F4 (P := 18) rfl, row_fq F4 (P := 16) rfl]
    · rw [F8 11 j rfl, h7 j hj, F6 8 j rfl, F5 8 j rfl, F4 8 j rfl]
  refine pf_g2 (sI σ 2 2) va ka hB1 ⟨b22, trivial⟩ ⟨congrArg Int32.toInt (G1 2 2 rfl), trivial⟩ ?_ ?_
  · intro τb yb hBb Fb f _ _ _
    have f1 := f.1
    have e0 : sI τ1 2 2 = 0 := by
      rw [show sI τ1 2 2 = sI σ 2 2 from congrArg Int32.toInt (G1 2 2 rfl)]
      omega
    refine rest (tC τ1) τ1 τb _ rfl (FQ.rf _ _) (FQ.up (G := []) rfl Fb) ⟨row_fq Fb rfl, row_fq Fb rfl, row_fq Fb rfl⟩ (fun d hd => ?_) (Nat.zero_le _) (Or.inr ⟨e0, rfl⟩) hBb
    show 0 ≤ sI τ1 16 d ∧ sI τ1 16 d ≤ 99999
    rw [show sI τ1 16 d = sI σ 16 d from congrArg Int32.toInt (G1 16 d rfl)]
    exact hc d hd
  · intro τb yb vb kb hBb Fb f _ _ _
    have f1 := f.1
    have e1 : sI τ1 2 2 = 1 := by
      rw [show sI τ1 2 2 = sI σ 2 2 from congrArg Int32.toInt (G1 2 2 rfl)]
      omega
    have Gb : FQ FSo σ τb := FQ.tr G1 (FQ.up (G := []) rfl Fb)
    have eb : ∀ {P : Nat}, τb.1 P = τ1.1 P := fun {P} => row_fq Fb rfl
    have Hb : caH τb D N S := by
      refine ⟨hD, hN, hS, (congrArg Int32.toInt (Gb 13 0 rfl)).trans eD, (congrArg Int32.toInt (Gb 7 0 rfl)).trans eN, (congrArg Int32.toInt (Gb 3 0 rfl)).trans eS, ?_, ?_⟩
      · rw [row_fq Gb (P := 14) rfl, row_fq Gb (P := 15) rfl]
        exact hpp
      · rw [row_fq Gb (P := 14) rfl, row_fq Gb (P := 15) rfl]
        exact hu
    refine Ok.cv rfl rfl rfl rfl rfl rfl rfl ?_
    refine (x_cal (σ := τb) (D := D) (P := N) (S := S) Hb (fun d hd => by
      rw [show sI τb 16 d = sI σ 16 d from congrArg Int32.toInt (Gb 16 d rfl)]
      exact hc d hd) hBb).use (by decide) (fun r τc q => ?_)
    obtain ⟨b, rfl, n2, q, t2, r2, hBc, Fc⟩ := q
    refine pf_g11 ((b.2.2.2 : Nat) : Int) vb kb hBc ⟨by omega, trivial⟩ ?_
    intro τd yd hBd Fd _ _ _ _
    have ecC : cC τb D = cC τ1 D := by
      show (bsC τb, τb.1 17, τb.1 14, τb.1 15, τb.1 1 1, D) = (bsC τ1, τ1.1 17, τ1.1 14, τ1.1 15, τ1.1 1 1, D)
      rw [bsC_fq Fb rfl rfl rfl rfl, eb (P := 17), eb (P := 14), eb (P := 15), eb (P := 1)]
    have etC : tC τb = tC τ1 := by
      show (τb.1 16, τb.1 19, τb.1 20, 0) = (τ1.1 16, τ1.1 19, τ1.1 20, 0)
      rw [eb (P := 16), eb (P := 19), eb (P := 20)]
    rw [ecC, etC] at q
    exact rest b τ1 τd _ rfl (FQ.rf _ _) (FQ.tr (FQ.up (G := []) rfl Fb) (FQ.tr Fc (FQ.up (G := []) rfl Fd))) (r2.fq Fd rfl rfl rfl) t2 n2 (Or.inl ⟨e1, q⟩) hBd
end GBC
