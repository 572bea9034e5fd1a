/-! shares: the model's call whole -/
theorem negC {s y : Int} (hs : (-2000000000) ≤ s ∧ s ≤ 2000000000) (h : (an_f 15 (Int32.ofInt s) (Int32.ofInt 0)).toInt = y) : y = -s := by
  rw [← h]
  show (-(Int32.ofInt s)).toInt = _
  have e1 := ti_of (z := s) (by omega) (by omega)
  rw [Int32.toInt_neg, e1, Int.bmod_eq_of_le (by omega) (by omega)]
section SHAREM
variable {W : Nat → Nat → Int}
abbrev FMh : List (Nat × Nat) := [(93, 0), (129, 9999)]
set_option maxRecDepth 20000 in
theorem xm_share {σ : pm_S} (f r p w S P : Int) (hB : an_GB pm_B σ) (rf : (-2147483648) ≤ f ∧ f ≤ 2147483647) (rr : (-2147483648) ≤ r ∧ r ≤ 2147483647) (rp : (-2147483648) ≤ p ∧ p ≤ 2147483647) (rw' : (-2147483648) ≤ w ∧ w ≤ 2147483647) (hS : 0 ≤ S ∧ S ≤ 10) (hP : 0 ≤ P ∧ P ≤ 10) (eS : cI σ 2 = S) (eP : cI σ 5 = P) (hh : ∀ i, i < P.toNat → (hoM σ i : Int) < S) (hW : ∀ a b, 0 ≤ W a b ∧ W a b ≤ 99) (hr9 : ∀ a c : Nat, a < 10 → c < 10 → W a c = if a = c then 0 else 9 + (σ.1 95 (a * 10 + c)).toInt) : Sp 229 25 [.ref 93, .int (Int32.ofInt f), .int (Int32.ofInt r), .int (Int32.ofInt p), .int (Int32.ofInt w)] σ (fun v τ => an_GB pm_B τ ∧ FQ FMh σ τ ∧ ((¬ PSh f r p w S P ∧ v = some (.int (Int32.ofInt (-1)))) ∨ (PSh f r p w S P ∧ v = some (.int (Int32.ofInt (shA (fun a => On W f.toNat S.toNat (clrN (img (hoM σ) P.toNat a) f.toNat) f.toNat) r.toNat p.toNat (decide (w = 0)))))))) := by
  refine Sp.at rfl rfl ?_
  refine sq_m0 f r p w S P _ _ _ _ _ _ _ _ rfl rfl rfl rfl rfl rfl rfl rfl hB ⟨rf, rr, rp, rw', hS, hP, trivial⟩ ⟨eS, eP, trivial⟩ ?_
  intro τ y v5 v6 v7 v8 v9 v10 v11 v12 k5 k6 k7 k8 k9 k10 k11 k12 hB1 F1 _ _ _ c1
  have T1 : FQ FMh σ τ := FQ.up (G := [(93, 0)]) rfl F1
  refine Ok.cv rfl rfl rfl rfl rfl rfl rfl ?_
  refine (x_h163 f S hB1 rf c1.1).use (by decide) (fun r0 τ2 q => ?_)
  obtain ⟨hB2, F2, ⟨q, rfl, -⟩ | ⟨q, rfl, -⟩⟩ := q
  · refine sq_m6n _ _ _ _ v5 v6 v7 v8 v9 v10 v11 v12 rfl rfl rfl rfl k5 k6 k7 k8 k9 k10 k11 k12 hB2 ?_
    intro τ3 y3 hB3 F3 _ _ _ _
    exact ⟨hB3, FQ.tr T1 (FQ.up (G := []) rfl (FQ.tr F2 F3)), Or.inl ⟨(fun z => absurd z.1 q), rfl⟩⟩
  refine sq_m6 f r p w P v5 v6 v7 v8 v9 v10 v11 v12 k5 k6 k7 k8 k9 k10 k11 k12 hB2 ⟨by omega, rr, rp, rw', hP, trivial⟩ ⟨(F2.c 5 rfl).trans c1.2.1, trivial⟩ ?_
  intro τ3 y3 v5 v6 v7 v8 v9 v10 v11 v12 k5 k6 k7 k8 k9 k10 k11 k12 hB3 F3 g3 _ d3 _
  have e5 := shlI hP d3.1
  have g5 := g3.2.2.2.2.2.1
  have T3 : FQ FMh σ τ3 := FQ.tr T1 (FQ.up (G := []) rfl (FQ.tr F2 F3))
  refine Ok.cv rfl rfl rfl rfl rfl rfl rfl ?_
  refine (x_isIn (v := r) (l := 1) (h := y3 5 + (-1)) rr (by decide) (by omega)).use (by decide) (fun r0 τ4 q2 => ?_)
  rw [o0, o1] at q2
  obtain ⟨rfl, ⟨q2, rfl⟩ | ⟨q2, rfl⟩⟩ := q2
  · refine sq_m17n _ _ _ _ v5 v6 v7 v8 v9 v10 v11 v12 rfl rfl rfl rfl k5 k6 k7 k8 k9 k10 k11 k12 hB3 ?_
    intro τ5 y5 hB5 F5 _ _ _ _
    refine ⟨hB5, FQ.tr T3 (FQ.up (G := []) rfl F5), Or.inl ⟨(fun z => ?_), rfl⟩⟩
    have z1 := z.2.1
    have z2 := z.2.2.2.2.1
    have r0 : r.toNat = 0 := by omega
    rw [r0, Nat.zero_testBit] at z2
    cases z2
  have pp10 : P.toNat ≤ 10 := by omega
  have p10 : 2 ^ P.toNat ≤ 1024 := Nat.pow_le_pow_right (by decide) pp10
  have hr : 0 ≤ r ∧ r ≤ 1023 := by omega
  have bcr : ∀ y : Int, (an_f 16 (Int32.ofInt r) (Int32.ofInt 0)).toInt = y → y = bcI r.toNat := fun y h => by
    rw [← h]
    unfold bcI
    rw [nOf hr.1]
  refine sq_m17 f r p w v5 v6 v7 v8 v9 v10 v11 v12 k5 k6 k7 k8 k9 k10 k11 k12 hB3 ⟨by omega, by omega, rp, rw', trivial⟩ ?_ ?_
  · intro τ5 y5 hB5 F5 g _ d _
    have g4 := g.2.2.2.2.1
    have b := bcr _ d.1
    exact ⟨hB5, FQ.tr T3 (FQ.up (G := []) rfl F5), Or.inl ⟨(fun z => absurd z.2.2.2.2.2 (by omega)), rfl⟩⟩
  intro τ5 y5 v5 v6 v7 v8 v9 v10 v11 v12 k5 k6 k7 k8 k9 k10 k11 k12 hB5 F5 g5' _ d5 _
  have g54 := g5'.2.2.2.2.1
  have b6 : bcI r.toNat ≤ 6 := by
    have := bcr _ d5.1
    omega
  have T5 : FQ FMh σ τ5 := FQ.tr T3 (FQ.up (G := []) rfl F5)
  refine Ok.cv rfl rfl rfl rfl rfl rfl rfl ?_
  refine (x_h164 p P hB5 rp ((T5.c 5 rfl).trans eP)).use (by decide) (fun r0 τ6 q3 => ?_)
  obtain ⟨hB6, F6, ⟨q3, rfl, -⟩ | ⟨q3, rfl, -⟩⟩ := q3
  · refine sq_m26n _ _ _ _ v5 v6 v7 v8 v9 v10 v11 v12 rfl rfl rfl rfl k5 k6 k7 k8 k9 k10 k11 k12 hB6 ?_
    intro τ7 y7 hB7 F7 _ _ _ _
    exact ⟨hB7, FQ.tr T5 (FQ.up (G := []) rfl (FQ.tr F6 F7)), Or.inl ⟨(fun z => absurd z.2.2.1 q3), rfl⟩⟩
  have T6 : FQ FMh σ τ6 := FQ.tr T5 (FQ.up (G := []) rfl F6)
  have hp : 0 ≤ p ∧ p ≤ 9 := by omega
  refine sq_m26 f r p w v5 v6 v7 v8 v9 v10 v11 v12 k5 k6 k7 k8 k9 k10 k11 k12 hB6 ⟨by omega, by omega, hp, rw', trivial⟩ ?_ ?_ ?_ ?_
  · intro τ7 y7 hB7 F7 g _ d _
    have bf := bitF hr hp d.1 d.2.1 g.2.2.2.2.2.1.2
    exact ⟨hB7, FQ.tr T6 (FQ.up (G := []) rfl F7), Or.inl ⟨(fun z => Bool.noConfusion (bf.symm.trans z.2.2.2.2.1)), rfl⟩⟩
  · intro τ7 y7 hB7 F7 g _ d _
    have g3 := g.2.2.2.1
    exact ⟨hB7, FQ.tr T6 (FQ.up (G := []) rfl F7), Or.inl ⟨(fun z => by have := z.2.2.2.1; omega), rfl⟩⟩
  · intro τ7 y7 hB7 F7 g _ d _
    have g3 := g.2.2.2.1
    exact ⟨hB7, FQ.tr T6 (FQ.up (G := []) rfl F7), Or.inl ⟨(fun z => by have := z.2.2.2.1; omega), rfl⟩⟩
  intro τ7 y7 v10 v11 v12 k10 k11 k12 hB7 F7 g7 _ d7 _
  have hw : 0 ≤ w ∧ w ≤ 1 := g7.2.2.2.1
  have bt := bitT hr hp d7.1 d7.2.1 g7.2.2.2.2.2.1.1
  have g8 := g7.2.2.2.2.2.2.2.2.1
  have T7 : FQ FMh σ τ7 := FQ.tr T6 (FQ.up (G := []) rfl F7)
  have psh : PSh f r p w S P := ⟨q, by omega, q3, by omega, bt, b6⟩
  have ac := clrI hr hp d7.2.2.1 d7.2.2.2.1 d7.2.2.2.2.1
  have cn : y7 8 = ((clrN r.toNat p.toNat : Nat) : Int) := by
    rw [ac]
    unfold clrN
    rw [if_pos bt, if_pos bt]
  have b9 := bcr _ d7.2.2.2.2.2.1
  have n0 : 0 ≤ bcI r.toNat := by
    have := bc_pcn r.toNat (by omega)
    omega
  have s10 : S.toNat ≤ 10 := by omega
  have ps10 : 2 ^ S.toNat ≤ 1024 := Nat.pow_le_pow_right (by decide) s10
  have il : ∀ a, img (hoM σ) P.toNat a < 2 ^ S.toNat := fun a => img_lt _ (fun i hi => by have := hh i hi; omega)
  have cl : ∀ a, clrN (img (hoM σ) P.toNat a) f.toNat < 2 ^ S.toNat := fun a => by
    have := il a
    unfold clrN
    split
    · rename_i hb
      have := x2p (img (hoM σ) P.toNat a) (by omega) f.toNat (by omega) hb
      have z2 : 0 < 2 ^ f.toNat := Nat.two_pow_pos _
      omega
    · exact il a
  have cb : ∀ a, 0 ≤ On W f.toNat S.toNat (clrN (img (hoM σ) P.toNat a) f.toNat) f.toNat ∧ On W f.toNat S.toNat (clrN (img (hoM σ) P.toNat a) f.toNat) f.toNat ≤ 1089 := fun a => by
    have l := cl a
    have q := On_c (W := W) (fr := f.toNat) s10 hW 1024 (clrN (img (hoM σ) P.toNat a) f.toNat) (by omega) (by omega) l f.toNat
    have q2 := pcn_10 (clrN (img (hoM σ) P.toNat a) f.toNat) (by omega)
    omega
  have sb := shT_b (c := fun a => On W f.toNat S.toNat (clrN (img (hoM σ) P.toNat a) f.toNat) f.toNat) (r := r.toNat) (p := p.toNat) (by omega) (by omega) bt b6 cb
  have fb : 1 ≤ fctI (bcI r.toNat) ∧ fctI (bcI r.toNat) ≤ 720 := by
    have t : ∀ n : Nat, n < 7 → 1 ≤ fctI (n : Int) ∧ fctI (n : Int) ≤ 720 := by decide +kernel
    have q := t (bcI r.toNat).toNat (by omega)
    rw [nOf n0] at q
    exact q
  have of : 0 ≤ ((clrN r.toNat p.toNat : Nat) : Int) ∧ ((clrN r.toNat p.toNat : Nat) : Int) ≤ 1023 := by omega
  have f9 : 0 ≤ f ∧ f ≤ 9 := by omega
  rw [b9, cn]
  refine x_sumM (σ := τ7) (c := fun a => On W f.toNat S.toNat (clrN (img (hoM σ) P.toNat a) f.toNat) f.toNat) f r p w ((clrN r.toNat p.toNat : Nat) : Int) (bcI r.toNat) (shT (fun a => On W f.toNat S.toNat (clrN (img (hoM σ) P.toNat a) f.toNat) f.toNat) r.toNat p.toNat) f9 hr hp hw of (by omega) (fun a => by have := cb a; omega) (fun τ8 a hB8 F8 ha => ?_) ?_ (clrN r.toNat p.toNat) (clrN r.toNat p.toNat) (Nat.le_refl _) (by rw [Int.toNat_natCast]; exact fun t h => h) τ7 0 v10 v11 v12 k10 k11 k12 (by decide) hB7 (FQ.rf _ _) (by rw [Int.toNat_natCast]; rfl)
  · rw [Int.toNat_natCast] at ha
    have T8 : FQ FMh σ τ8 := FQ.tr T7 (FQ.up (G := FOn) rfl F8)
    have ra : sbs a r.toNat := sbs_tr ha clrN_sbs
    have rb : sbs (a ||| 2 ^ p.toNat) r.toNat := or_sbs ra bt
    have e9 : ∀ b, img (hoM τ8) P.toNat b = img (hoM σ) P.toNat b := fun b => img_cg (fun i hi => by show (τ8.1 96 i).toInt.toNat = _; rw [T8 96 i rfl])
    have one : ∀ b : Nat, sbs b r.toNat → Sp 228 23 [.ref 93, .int (Int32.ofInt f), .int (Int32.ofInt (b : Int))] τ8 (fun v τ' => v = some (.int (Int32.ofInt (On W f.toNat S.toNat (clrN (img (hoM σ) P.toNat b) f.toNat) f.toNat))) ∧ an_GB pm_B τ' ∧ FQ FOn τ8 τ') := fun b hb => by
      have bl : b ≤ r.toNat := by
        have := sbs_and hb
        have l2 : b &&& r.toNat ≤ r.toNat := Nat.and_le_right
        omega
      have q := x_coM (W := W) (σ := τ8) f (b : Int) S P hB8 q hS.2 (by omega) hP ((T8.c 2 rfl).trans eS) ((T8.c 5 rfl).trans eP) (fun i hi => by show (((τ8.1 96 i).toInt.toNat : Nat) : Int) < S; rw [T8 96 i rfl]; exact hh i hi) hW (fun a c ha hc => by rw [T8 95 _ rfl]; exact hr9 a c ha hc)
      rw [Int.toNat_natCast, e9] at q
      exact q
    exact ⟨one a ra, one _ rb⟩
  · intro τ8 pt v10 v11 v12 k10 k11 k12 hpt hB8 F8
    have T8 : FQ FMh σ τ8 := FQ.tr T7 (FQ.up (G := FOn) rfl F8)
    unfold shA
    generalize shT (fun a => On W f.toNat S.toNat (clrN (img (hoM σ) P.toNat a) f.toNat) f.toNat) r.toNat p.toNat = tot at sb ⊢
    have rest : ∀ (τ9 : pm_S) (ab : Int) (v11 v12 : Value), v11.category = 1 → v12.category = 1 → ab = (tot.natAbs : Int) → an_GB pm_B τ9 → FQ FMh σ τ9 → Ok 229 25 115 [.ref 93, .int (Int32.ofInt f), .int (Int32.ofInt r), .int (Int32.ofInt p), .int (Int32.ofInt w), .int (Int32.ofInt ((clrN r.toNat p.toNat : Nat) : Int)), .int (Int32.ofInt (bcI r.toNat)), .int (Int32.ofInt tot), .int (Int32.ofInt pt), .int (Int32.ofInt 0), .int (Int32.ofInt ab), v11, v12] [.int (Int32.ofInt (bcI r.toNat)), .ref 93] τ9 (fun v τ => an_GB pm_B τ ∧ FQ FMh σ τ ∧ ((¬ PSh f r p w S P ∧ v = some (.int (Int32.ofInt (-1)))) ∨ (PSh f r p w S P ∧ v = some (.int (Int32.ofInt (an_f 9 (Int32.ofInt (if decide (w = 0) = true then tot else fctI (bcI r.toNat))) (Int32.ofInt (((euk 100 tot.natAbs (fctI (bcI r.toNat)).toNat).1 : Nat) : Int))).toInt))))) := by
      intro τ9 ab v11 v12 k11 k12 eab hB9 T9
      refine Ok.cv rfl rfl rfl rfl rfl rfl rfl ?_
      refine (x_fct (bcI r.toNat) hB9 (by omega)).use (by decide) (fun r0 τa qa => ?_)
      obtain ⟨rfl, hBa, Fa⟩ := qa
      have e0 : (euk 100 tot.natAbs (fctI (bcI r.toNat)).toNat).2 = 0 := euk_end 50 _ _ (by
        have : (1024 : Nat) ≤ 2 ^ 50 := by decide
        omega)
      have ep := euk_pos 100 tot.natAbs (fctI (bcI r.toNat)).toNat (Or.inr (by omega))
      refine sz_m116 f r p w ((clrN r.toNat p.toNat : Nat) : Int) (bcI r.toNat) tot pt 0 ab (fctI (bcI r.toNat)) v11 v12 k11 k12 hBa ⟨f9, hr, hp, hw, of, by omega, sb, hpt, by decide, by omega, by omega, trivial⟩ ?_
      intro τb yb v12 k12 hBb Fb _ _ _ _
      have Tb : FQ FMh σ τb := FQ.tr T9 (FQ.up (G := []) rfl (FQ.tr Fa Fb))
      refine x_gcdM (σ := τb) f r p w ((clrN r.toNat p.toNat : Nat) : Int) (bcI r.toNat) tot pt (euk 100 tot.natAbs (fctI (bcI r.toNat)).toNat) f9 hr hp hw of (by omega) sb hpt e0 ?_ 100 ab (fctI (bcI r.toNat)) τb v12 k12 (by omega) (by omega) (by rw [eab, Int.toNat_natCast]) hBb (FQ.rf _ _)
      intro τc v12 k12 hBc Fc el
      have Tc : FQ FMh σ τc := FQ.tr Tb (FQ.up (G := []) rfl Fc)
      generalize (euk 100 tot.natAbs (fctI (bcI r.toNat)).toNat).1 = gg at ep el ⊢
      refine sq_m128 f r p w ((clrN r.toNat p.toNat : Nat) : Int) (bcI r.toNat) tot pt 0 (gg : Int) 0 v12 k12 hBc ⟨f9, hr, hp, hw, of, by omega, sb, hpt, by decide, by omega, by decide, trivial⟩ ?_ ?_
      · intro τd yd v12 k12 hBd Fd gd _ dd _
        have w1 := gd.2.2.2.1
        refine Ok.cv rfl rfl rfl rfl rfl rfl rfl ?_
        refine (x_fct (bcI r.toNat) hBd (by omega)).use (by decide) (fun r0 τe qe => ?_)
        obtain ⟨rfl, hBe, Fe⟩ := qe
        refine sq_m137 f r p w ((clrN r.toNat p.toNat : Nat) : Int) (bcI r.toNat) tot pt 0 (gg : Int) 0 (fctI (bcI r.toNat)) v12 k12 hBe ⟨f9, hr, hp, hw, of, by omega, sb, hpt, by decide, by omega, by decide, by omega, trivial⟩ ?_
        intro τf yf hBf Ff _ _ df _
        refine ⟨hBf, FQ.tr Tc (FQ.up (G := []) rfl (FQ.tr (FQ.tr Fd Fe) Ff)), Or.inr ⟨psh, ?_⟩⟩
        have e : decide (w = 0) = false := decide_eq_false (by omega)
        rw [e, ← df.1]
        rfl
      · intro τd yd hBd Fd gd _ dd _
        have w1 := gd.2.2.2.1
        refine ⟨hBd, FQ.tr Tc (FQ.up (G := []) rfl Fd), Or.inr ⟨psh, ?_⟩⟩
        have e : decide (w = 0) = true := decide_eq_true (by omega)
        rw [e, ← dd.1]
        rfl
    refine sz_m106 f r p w ((clrN r.toNat p.toNat : Nat) : Int) (bcI r.toNat) tot pt 0 v10 v11 v12 k10 k11 k12 hB8 ⟨f9, hr, hp, hw, of, by omega, sb, hpt, by decide, trivial⟩ ?_ ?_
    · intro τ9 y9 v11 v12 k11 k12 hB9 F9 g9 _ _ _
      have t6 := g9.2.2.2.2.2.2.1
      exact rest τ9 tot v11 v12 k11 k12 (by omega) hB9 (FQ.tr T8 (FQ.up (G := []) rfl F9))
    · intro τ9 y9 v11 v12 k11 k12 hB9 F9 g9 _ d9 _
      have t6 := g9.2.2.2.2.2.2.1
      have yn := negC sb d9.1
      exact rest τ9 (y9 9) v11 v12 k11 k12 (by omega) hB9 (FQ.tr T8 (FQ.up (G := []) rfl F9))
end SHAREM
