/-! a call that both sides do exactly; share jointly -/
def cE (CT : List (Nat × Nat)) (CI : List Nat) (GC GM : List (Nat × Nat)) : Bool :=
  CT.all (fun q => !an_inF GC (q.1 + 33) q.2 && !an_inF GM (q.1 + 33) q.2) && CI.all (fun i => !an_inF GC 133 i && !an_inF GM 133 i) && !an_inF GC 0 2 && !an_inF GM 0 2 && !an_inF GC 93 64 && !an_inF GM 93 64
theorem two_E {R : RL} {CT : List (Nat × Nat)} {CI : List Nat} (hR : RD R CT CI) {kC kM : Nat} {as : List Value} {GC GM : List (Nat × Nat)} (hc : cE CT CI GC GM = true) (hf : GC.all (fun q => Nat.ble q.1 92) = true) (XC : pm_S → Int → pm_S → Prop)
    (hC : ∀ σ, IR R σ → Sp kC 1200 (.ref 0 :: as) σ (fun r τ => ∃ v : Int, r = some (.int (Int32.ofInt v)) ∧ an_GB pm_B τ ∧ FQ GC σ τ ∧ XC σ v τ))
    (hM : ∀ σ τ v, IR R σ → XC σ v τ → FQ GC σ τ → an_GB pm_B τ → mP τ → Sp kM 1200 (.ref 93 :: as) τ (fun r τ2 => r = some (.int (Int32.ofInt v)) ∧ an_GB pm_B τ2 ∧ mP τ2 ∧ FQ GM τ τ2 ∧ R (tS τ2) (uS τ2))) : Two 1 true (IR R) (IR R) kC kM as := by
  intro σ hI
  unfold cE at hc
  simp only [Bool.and_eq_true, Bool.not_eq_true'] at hc
  obtain ⟨⟨⟨⟨⟨h1, h2⟩, h3⟩, h4⟩, h5⟩, h6⟩ := hc
  refine (hC σ hI).mono (fun r τ q => ?_)
  obtain ⟨v, rfl, hB1, F1, x⟩ := q
  have hPτ : mP τ := mP93 σ τ (fun p j hp => F1 p j (an_foot93 hf hp)) hI.2.1
  refine ⟨⟨_, rfl⟩, (hM σ τ v hI x F1 hB1 hPτ).mono (fun r2 τ2 q => ?_)⟩
  obtain ⟨rfl, hB2, hP2, F2, r2⟩ := q
  refine ⟨⟨_, rfl⟩, fun _ => rfl, hB2, hP2, ?_, r2, hR _ _ _ _ (fun q hq => ?_) (fun i hi => ?_) hI.2.2.2.2⟩
  · rw [F2 0 2 h4, F1 0 2 h3, F2 93 64 h6, F1 93 64 h5]
    exact hI.2.2.1
  · have z := List.all_eq_true.mp h1 q hq
    rw [Bool.and_eq_true, Bool.not_eq_true', Bool.not_eq_true'] at z
    exact (F2 _ _ z.2).trans (F1 _ _ z.1)
  · have z := List.all_eq_true.mp h2 i hi
    rw [Bool.and_eq_true, Bool.not_eq_true', Bool.not_eq_true'] at z
    exact (F2 _ _ z.2).trans (F1 _ _ z.1)
abbrev PPer (h c a S P : Int) : Prop := 0 ≤ h ∧ h < S ∧ 0 ≤ c ∧ c ≤ 99999 ∧ 0 ≤ a ∧ a ≤ 99 ∧ P ≤ 9
theorem PPn {F : List (Nat × Nat)} {σ τ : pm_S} (h : puF F [] σ τ) : FQ F σ τ := h
def R20 : RL := fun t u => R19 t u ∧ t 7 0 = u 192 ∧ (∀ i, i < 10 → t 8 i = u (193 + 5 * i)) ∧ (∀ i, i < 10 → i < (u 192).toInt.toNat → (u (193 + 5 * i)).toInt < (u 1).toInt)
abbrev C20 : List (Nat × Nat) := C19 ++ (7, 0) :: (List.range 10).map (fun j => (8, j))
abbrev D20 : List Nat := D19 ++ 192 :: (List.range 10).map (fun j => 193 + 5 * j)
theorem R20.d : RD R20 C20 D20 := fun t t' u u' h1 h2 h => by
  have a0 := R19.d t t' u u' (fun q hq => h1 q (List.mem_append_left _ hq)) (fun i hi => h2 i (List.mem_append_left _ hi)) h.1
  have a1 : ∀ j, j < 10 → t' 8 j = t 8 j := fun j hj => h1 (8, j) (List.mem_append_right _ (List.mem_cons_of_mem _ (List.mem_map.mpr ⟨j, List.mem_range.mpr hj, rfl⟩)))
  have a2 : ∀ j, j < 10 → u' (193 + 5 * j) = u (193 + 5 * j) := fun j hj => h2 (193 + 5 * j) (List.mem_append_right _ (List.mem_cons_of_mem _ (List.mem_map.mpr ⟨j, List.mem_range.mpr hj, rfl⟩)))
  have a3 : t' 7 0 = t 7 0 := h1 (7, 0) (List.mem_append_right _ List.mem_cons_self)
  have a4 : u' 192 = u 192 := h2 192 (List.mem_append_right _ List.mem_cons_self)
  have a5 : u' 1 = u 1 := h2 1 (List.mem_append_left _ List.mem_cons_self)
  refine ⟨a0, by rw [a3, a4]; exact h.2.1, fun i hi => by rw [a1 i hi, a2 i hi]; exact h.2.2.1 i hi, fun i hi => ?_⟩
  rw [a4, a5, a2 i hi]
  exact h.2.2.2 i hi
theorem qs96 : ∀ j, j < 10 → qsI (193 + 5 * j) = (96, j) := by decide +kernel
theorem u96 {σ : pm_S} {j : Nat} (h : j < 10) : uS σ (193 + 5 * j) = σ.1 96 j := by
  show σ.1 (qsI (193 + 5 * j)).1 (qsI (193 + 5 * j)).2 = _
  rw [qs96 j h]
/-- said of cells: what is behind R19 -/
abbrev R20x (σ : pm_S) : Prop := σ.1 7 0 = σ.1 93 5 ∧ (∀ i, i < 10 → σ.1 8 i = σ.1 96 i) ∧ (∀ i, i < 10 → i < (cI σ 5).toNat → (σ.1 96 i).toInt < cI σ 2)
theorem R20.s {σ : pm_S} (h : R20 (tS σ) (uS σ)) : R20x σ := ⟨h.2.1, fun i hi => by
  have q := h.2.2.1 i hi
  rw [u96 hi] at q
  exact q, fun i hi hl => by
  have q := h.2.2.2 i hi hl
  rw [u96 hi] at q
  exact q⟩
theorem R20.m {σ : pm_S} (h : R19 (tS σ) (uS σ)) (h2 : R20x σ) : R20 (tS σ) (uS σ) := ⟨h, h2.1, fun i hi => by
  rw [u96 hi]
  exact h2.2.1 i hi, fun i hi hl => by
  rw [u96 hi]
  exact h2.2.2 i hi hl⟩
/-- where neither footprint touches the relation -/
theorem RD.fq {R : RL} {CT : List (Nat × Nat)} {CI : List Nat} (hR : RD R CT CI) {G1 G2 : List (Nat × Nat)} {σ τ υ : pm_S} (hc : (CT.all (fun q => !an_inF G1 q.1 q.2 && !an_inF G2 q.1 q.2) && CI.all (fun i => !an_inF G1 (qsI i).1 (qsI i).2 && !an_inF G2 (qsI i).1 (qsI i).2)) = true) (F1 : FQ G1 σ τ) (F2 : FQ G2 τ υ) (h : R (tS σ) (uS σ)) : R (tS υ) (uS υ) := by
  rw [Bool.and_eq_true] at hc
  refine hR _ _ _ _ (fun q hq => ?_) (fun i hi => ?_) h
  · have z := List.all_eq_true.mp hc.1 q hq
    rw [Bool.and_eq_true, Bool.not_eq_true', Bool.not_eq_true'] at z
    exact (F2 _ _ z.2).trans (F1 _ _ z.1)
  · have z := List.all_eq_true.mp hc.2 i hi
    rw [Bool.and_eq_true, Bool.not_eq_true', Bool.not_eq_true'] at z
    exact (F2 _ _ z.2).trans (F1 _ _ z.1)
set_option maxRecDepth 20000 in
theorem t20_share (a1 a2 a3 a4 : Int32) : Two 1 true (IR R20) (IR R20) 146 229 [.int a1, .int a2, .int a3, .int a4] := by
  rw [← oI a1, ← oI a2, ← oI a3, ← oI a4]
  refine two_E R20.d (GC := FPr) (GM := FMh) (by decide +kernel) rfl (fun σ v τ => (¬ PSh a1.toInt a2.toInt a3.toInt a4.toInt (cI σ 2) (cI σ 5) ∧ v = -1) ∨ (PSh a1.toInt a2.toInt a3.toInt a4.toInt (cI σ 2) (cI σ 5) ∧ v = shA (fun a => On (Wf σ) a1.toInt.toNat (cI σ 2).toNat (clrN (img (hoM σ) (cI σ 5).toNat a) a1.toInt.toNat) a1.toInt.toNat) a2.toInt.toNat a3.toInt.toNat (decide (a4.toInt = 0)))) (fun σ hI => ?_) (fun σ τ v hI x F1 hB1 hPτ => ?_)
  · have hR := hI.2.2.2.1
    have h19 := R19.s hR.1
    have h20 := R20.s hR
    have k2 : (σ.1 3 0).toInt = cI σ 2 := congrArg Int32.toInt h19.1
    have k5 : (σ.1 7 0).toInt = cI σ 5 := congrArg Int32.toInt h20.1
    have g2 : 0 ≤ cI σ 2 ∧ cI σ 2 ≤ 10 := hI.1 93 2 (by decide)
    have g5 : 0 ≤ cI σ 5 ∧ cI σ 5 ≤ 10 := hI.1 93 5 (by decide)
    have e8 : ∀ b, img (hoC σ) (cI σ 5).toNat b = img (hoM σ) (cI σ 5).toNat b := fun b => img_cg (fun i hi => by
      show (σ.1 8 i).toInt.toNat = (σ.1 96 i).toInt.toNat
      rw [h20.2.1 i (by omega)])
    refine (xc_share (W := Wf σ) a1.toInt a2.toInt a3.toInt a4.toInt (cI σ 2) (cI σ 5) hI.1 (ai_rng a1) (ai_rng a2) (ai_rng a3) (ai_rng a4) g2 g5 k2 k5 (fun i hi => ?_) (Wf_b hI.1) Wf_0 (Wf_s hR.1) (fun a c ha hc hne => ?_)).use (by decide) (fun r τ q => ?_)
    · have q := h20.2.2 i (by omega) hi
      have q2 : (0 : Int) ≤ (σ.1 96 i).toInt ∧ (σ.1 96 i).toInt ≤ 9 := hI.1 96 i (show i < 10 by omega)
      show (((σ.1 8 i).toInt.toNat : Nat) : Int) < _
      rw [h20.2.1 i (by omega)]
      omega
    · have e : ((a : Int) * 10 + c).toNat = a * 10 + c := by omega
      rw [e, (h19.2 a c (by omega) (by omega) hne).1]
      unfold Wf
      rw [if_neg (by omega)]
      omega
    · obtain ⟨hB1, F1, q⟩ := q
      rcases q with ⟨q, rfl⟩ | ⟨q, rfl⟩
      · exact ⟨-1, rfl, hB1, F1, Or.inl ⟨q, rfl⟩⟩
      · refine ⟨_, rfl, hB1, F1, Or.inr ⟨q, ?_⟩⟩
        have ec : (fun a => On (Wf σ) a1.toInt.toNat (cI σ 2).toNat (clrN (img (hoC σ) (cI σ 5).toNat a) a1.toInt.toNat) a1.toInt.toNat) = (fun a => On (Wf σ) a1.toInt.toNat (cI σ 2).toNat (clrN (img (hoM σ) (cI σ 5).toNat a) a1.toInt.toNat) a1.toInt.toNat) := funext (fun a => by rw [e8])
        rw [ec]
  · have hR := hI.2.2.2.1
    have h19 := R19.s hR.1
    have h20 := R20.s hR
    have g2 : 0 ≤ cI σ 2 ∧ cI σ 2 ≤ 10 := hI.1 93 2 (by decide)
    have g5 : 0 ≤ cI σ 5 ∧ cI σ 5 ≤ 10 := hI.1 93 5 (by decide)
    have e9 : ∀ i, hoM τ i = hoM σ i := fun i => by
      show (τ.1 96 i).toInt.toNat = (σ.1 96 i).toInt.toNat
      rw [F1 96 i rfl]
    have e8 : hoM τ = hoM σ := funext e9
    have q := xm_share (σ := τ) (W := Wf σ) a1.toInt a2.toInt a3.toInt a4.toInt (cI σ 2) (cI σ 5) hB1 (ai_rng a1) (ai_rng a2) (ai_rng a3) (ai_rng a4) g2 g5 (F1.c 2 rfl) (F1.c 5 rfl) (fun i hi => by
      have q := h20.2.2 i (by omega) hi
      have q2 : (0 : Int) ≤ (σ.1 96 i).toInt ∧ (σ.1 96 i).toInt ≤ 9 := hI.1 96 i (show i < 10 by omega)
      rw [e9]
      show (((σ.1 96 i).toInt.toNat : Nat) : Int) < _
      omega) (Wf_b hI.1) (fun a c ha hc => by
      rw [F1 95 _ rfl]
      unfold Wf
      by_cases e : a = c
      · rw [if_pos (Or.inl e), if_pos e]
      · rw [if_neg (by omega), if_neg e])
    rw [e8] at q
    refine q.use (by decide) (fun r2 τ2 p => ?_)
    obtain ⟨hB2, F2, p⟩ := p
    have fin : IR R20 τ2 → an_GB pm_B τ2 ∧ mP τ2 ∧ FQ FMh τ τ2 ∧ R20 (tS τ2) (uS τ2) := fun z => ⟨hB2, z.2.1, F2, z.2.2.2.1⟩
    have rr : R20 (tS τ2) (uS τ2) := RD.fq R20.d (by decide +kernel) F1 F2 hR
    have hp2 : mP τ2 := mP.fr _ rfl rfl rfl rfl rfl rfl rfl rfl rfl rfl rfl rfl F2 hPτ
    rcases p with ⟨p, rfl⟩ | ⟨p, rfl⟩
    · rcases x with ⟨x, rfl⟩ | ⟨x, rfl⟩
      · exact ⟨rfl, hB2, hp2, F2, rr⟩
      · exact absurd x p
    · rcases x with ⟨x, rfl⟩ | ⟨x, rfl⟩
      · exact absurd p x
      · exact ⟨rfl, hB2, hp2, F2, rr⟩
set_option maxRecDepth 20000 in
theorem t20_person (a1 a2 a3 : Int32) : Two 1 true (IR R20) (IR R20) 131 168 [.int a1, .int a2, .int a3] := by
  rw [← oI a1, ← oI a2, ← oI a3]
  refine two_E R20.d (GC := [(7, 0), (8, 9999), (9, 9999), (10, 9999), (11, 9999), (12, 9999)]) (GM := [(93, 0), (93, 5), (96, 9999), (97, 9999), (98, 9999), (99, 9999)]) (by decide +kernel) rfl (fun σ v τ => (¬ PPer a1.toInt a2.toInt a3.toInt (cI σ 2) (cI σ 5) ∧ v = -1 ∧ (τ.1 7 0).toInt = cI σ 5 ∧ ∀ j, τ.1 8 j = σ.1 8 j) ∨ (PPer a1.toInt a2.toInt a3.toInt (cI σ 2) (cI σ 5) ∧ v = cI σ 5 ∧ (τ.1 7 0).toInt = cI σ 5 + 1 ∧ ∀ j, τ.1 8 j = if j = (cI σ 5).toNat then Int32.ofInt a1.toInt else σ.1 8 j)) (fun σ hI => ?_) (fun σ τ v hI x F1 hB1 hPτ => ?_)
  · have hR := hI.2.2.2.1
    have k2 : (σ.1 3 0).toInt = cI σ 2 := congrArg Int32.toInt (R19.s hR.1).1
    have k5 : (σ.1 7 0).toInt = cI σ 5 := congrArg Int32.toInt (R20.s hR).1
    refine (xc_personE a1.toInt a2.toInt a3.toInt (cI σ 2) (cI σ 5) hI.1 (ai_rng a1) (ai_rng a2) (ai_rng a3) (hI.1 93 2 (by decide)) (hI.1 93 5 (by decide)) k2 k5).use (by decide) (fun r τ q => ?_)
    obtain ⟨hB1, ⟨q, rfl, d, F⟩ | ⟨q, rfl, d, F⟩⟩ := q
    · exact ⟨-1, rfl, hB1, FQ.up rfl (PPn F), Or.inl ⟨q, rfl, d, fun j => F 8 j rfl⟩⟩
    · exact ⟨_, rfl, hB1, puF.ft rfl rfl F, Or.inr ⟨q, rfl, d, fun j => F 8 j rfl⟩⟩
  · have hR := hI.2.2.2.1
    have h19 := R19.s hR.1
    have h20 := R20.s hR
    have g2 : 0 ≤ cI σ 2 ∧ cI σ 2 ≤ 10 := hI.1 93 2 (by decide)
    have g5 : 0 ≤ cI σ 5 ∧ cI σ 5 ≤ 10 := hI.1 93 5 (by decide)
    have o1 := ai_rng a1
    refine (xm_personE a1.toInt a2.toInt a3.toInt (cI σ 2) (cI σ 5) hB1 (ai_rng a1) (ai_rng a2) (ai_rng a3) g2 g5 (F1.c 2 rfl) (F1.c 5 rfl)).use (by decide) (fun r2 τ2 p => ?_)
    obtain ⟨hB2, p⟩ := p
    have ft : FQ [(93, 0), (93, 5), (96, 9999), (97, 9999), (98, 9999), (99, 9999)] τ τ2 := by
      rcases p with ⟨-, -, -, F⟩ | ⟨-, -, -, F⟩
      · exact FQ.up rfl (PPn F)
      · exact puF.ft rfl rfl F
    have z2 : cI τ2 2 = cI σ 2 := (ft.c 2 rfl).trans (F1.c 2 rfl)
    have zm : 1 ≤ cI τ2 2 ∨ cI τ2 5 = 0 → mP τ2 := fun z => ⟨⟨pPP.fr _ rfl rfl rfl rfl rfl rfl rfl rfl ft hPτ.1.1, z⟩, mP_img (ft.c 64 rfl) (fun i => ft 133 i rfl) hPτ⟩
    have zs : 1 ≤ cI τ 2 ∨ cI τ 5 = 0 := hPτ.1.2
    have f2 : cI τ 2 = cI σ 2 := F1.c 2 rfl
    have f5 : cI τ 5 = cI σ 5 := F1.c 5 rfl
    have r19 : R19 (tS τ2) (uS τ2) := RD.fq R19.d (by decide +kernel) F1 ft hR.1
    rcases p with ⟨p, rfl, d, F⟩ | ⟨p, rfl, d, F⟩
    · rcases x with ⟨x, rfl, x7, x8⟩ | ⟨x, rfl, x7, x8⟩
      · have d : cI τ2 5 = cI σ 5 := d
        refine ⟨rfl, hB2, zm (by omega), ft, R20.m r19 ⟨Int32.toInt_inj.mp ?_, fun i hi => ?_, fun i hi hl => ?_⟩⟩
        · rw [ft 7 0 rfl, x7]
          exact d.symm
        · rw [ft 8 i rfl, x8, F 96 i rfl]
          show σ.1 8 i = τ.1 96 i
          rw [F1 96 i rfl]
          exact h20.2.1 i hi
        · rw [F 96 i rfl, z2]
          show (τ.1 96 i).toInt < _
          rw [F1 96 i rfl]
          exact h20.2.2 i hi (by omega)
      · exact absurd x p
    · rcases x with ⟨x, rfl, x7, x8⟩ | ⟨x, rfl, x7, x8⟩
      · exact absurd p x
      · have d : cI τ2 5 = cI σ 5 + 1 := d
        have c96 : ∀ i, τ2.1 96 i = if i = (cI σ 5).toNat then Int32.ofInt a1.toInt else τ.1 96 i := fun i => F 96 i rfl
        have oa : (Int32.ofInt a1.toInt).toInt = a1.toInt := ti_of o1.1 o1.2
        have pp := p.1
        have pp2 := p.2.1
        refine ⟨rfl, hB2, zm (by omega), ft, R20.m r19 ⟨Int32.toInt_inj.mp ?_, fun i hi => ?_, fun i hi hl => ?_⟩⟩
        · rw [ft 7 0 rfl, x7]
          exact d.symm
        · rw [ft 8 i rfl, x8, c96, F1 96 i rfl]
          by_cases e : i = (cI σ 5).toNat
          · rw [if_pos e, if_pos e]
          · rw [if_neg e, if_neg e]
            exact h20.2.1 i hi
        · rw [c96, z2, F1 96 i rfl]
          by_cases e : i = (cI σ 5).toNat
          · rw [if_pos e, oa]
            exact pp2
          · rw [if_neg e]
            exact h20.2.2 i hi (by omega)
set_option maxRecDepth 20000 in
theorem t20_way (a1 a2 a3 : Int32) : Two 1 true (IR R20) (IR R20) 130 167 [.int a1, .int a2, .int a3] := by
  rw [← oI a1, ← oI a2, ← oI a3]
  refine two_E R20.d (GC := [(5, 9999)]) (GM := [(95, 9999), (93, 0)]) (by decide +kernel) rfl (fun σ v τ => (¬ PWy a1.toInt a2.toInt a3.toInt (cI σ 2) ∧ v = 0 ∧ FQ [] σ τ) ∨ (PWy a1.toInt a2.toInt a3.toInt (cI σ 2) ∧ v = 1 ∧ ∀ j, τ.1 5 j = if j = (a1.toInt * 10 + a2.toInt).toNat ∨ j = (a2.toInt * 10 + a1.toInt).toNat then Int32.ofInt a3.toInt else σ.1 5 j)) (fun σ hI => ?_) (fun σ τ v hI x F1 hB1 hPτ => ?_)
  · have hR := R19.s hI.2.2.2.1.1
    have k2 : (σ.1 3 0).toInt = cI σ 2 := congrArg Int32.toInt hR.1
    refine (xc_wayE a1.toInt a2.toInt a3.toInt (cI σ 2) hI.1 (ai_rng a1) (ai_rng a2) (ai_rng a3) (hI.1 93 2 (by decide)) k2).use (by decide) (fun r τ q => ?_)
    obtain ⟨hB1, ⟨q, rfl, F⟩ | ⟨q, rfl, F, q2⟩⟩ := q
    · exact ⟨0, rfl, hB1, FQ.up (G := []) rfl F, Or.inl ⟨q, rfl, F⟩⟩
    · exact ⟨1, rfl, hB1, F, Or.inr ⟨q, rfl, q2⟩⟩
  · have hR := hI.2.2.2.1
    have h19 := R19.s hR.1
    have h20 := R20.s hR
    have g2 : 0 ≤ cI σ 2 ∧ cI σ 2 ≤ 10 := hI.1 93 2 (by decide)
    refine (xm_wayE a1.toInt a2.toInt a3.toInt (cI σ 2) hB1 (ai_rng a1) (ai_rng a2) (ai_rng a3) g2 (F1.c 2 rfl)).use (by decide) (fun r2 τ2 p => ?_)
    obtain ⟨hB2, p⟩ := p
    have ft : FQ [(95, 9999), (93, 0)] τ τ2 := by
      rcases p with ⟨-, -, F⟩ | ⟨-, -, F, -⟩
      · exact FQ.up (G := [(93, 0)]) rfl F
      · exact F
    have hp2 : mP τ2 := mP.fr _ rfl rfl rfl rfl rfl rfl rfl rfl rfl rfl rfl rfl ft hPτ
    have r20 : R20x τ2 := ⟨by rw [ft 7 0 rfl, F1 7 0 rfl, ft 93 5 rfl, F1 93 5 rfl]; exact h20.1, fun i hi => by rw [ft 8 i rfl, F1 8 i rfl, ft 96 i rfl, F1 96 i rfl]; exact h20.2.1 i hi, fun i hi hl => by
      rw [ft 96 i rfl, F1 96 i rfl, ft.c 2 rfl, F1.c 2 rfl]
      rw [ft.c 5 rfl, F1.c 5 rfl] at hl
      exact h20.2.2 i hi hl⟩
    rcases p with ⟨p, rfl, F2⟩ | ⟨p, rfl, F2, p2⟩
    · rcases x with ⟨x, rfl, F0⟩ | ⟨x, rfl, q2⟩
      · exact ⟨rfl, hB2, hp2, ft, R20.m (RD.fq R19.d (by decide +kernel) F0 F2 hR.1) r20⟩
      · exact absurd x p
    · rcases x with ⟨x, rfl, F0⟩ | ⟨x, rfl, q2⟩
      · exact absurd p x
      · have c5 : ∀ j, τ2.1 5 j = τ.1 5 j := fun j => ft 5 j rfl
        have c95 : ∀ j, τ.1 95 j = σ.1 95 j := fun j => F1 95 j rfl
        obtain ⟨qa, qb, qn, qm⟩ := p
        have ea : (Int32.ofInt a3.toInt).toInt = a3.toInt := ti_of (by omega) (by omega)
        have eb : (Int32.ofInt (a3.toInt + (-9))).toInt = a3.toInt + (-9) := ti_of (by omega) (by omega)
        refine ⟨rfl, hB2, hp2, ft, R20.m (R19.m ⟨?_, fun a b ha hb hne => ?_⟩) r20⟩
        · rw [ft 3 0 rfl, F1 3 0 rfl, ft 93 2 rfl, F1 93 2 rfl]
          exact h19.1
        · rw [c5, q2, p2, p2, c95, c95]
          by_cases e : a * 10 + b = (a1.toInt * 10 + a2.toInt).toNat ∨ a * 10 + b = (a2.toInt * 10 + a1.toInt).toNat
          · rw [if_pos e, if_pos e, if_pos (by omega), ea, eb]
            exact ⟨by omega, rfl⟩
          · rw [if_neg e, if_neg e, if_neg (by omega)]
            exact h19.2 a b ha hb hne
theorem t20_image (a1 : Int32) (hw : a1 = 0 ∨ a1 = 1) : Two 1 true (IR R20) (IR R20) 151 245 [.int a1] := tR_image R20.d (by decide +kernel) (by decide +kernel) a1 hw
set_option maxRecDepth 20000 in
theorem t20_spot (a1 : Int32) : Two 1 true (IR R20) (IR R20) 129 166 [.int a1] := by
  rw [← oI a1]
  have o1 := ai_rng a1
  refine two_E R20.d (GC := [(3, 0), (4, 9999)]) (GM := [(93, 0), (93, 2), (94, 9999)]) (by decide +kernel) rfl (fun σ v τ => (¬ (0 ≤ a1.toInt ∧ a1.toInt ≤ 99 ∧ cI σ 2 ≤ 9) ∧ v = -1 ∧ (τ.1 3 0).toInt = cI σ 2) ∨ ((0 ≤ a1.toInt ∧ a1.toInt ≤ 99 ∧ cI σ 2 ≤ 9) ∧ v = cI σ 2 ∧ (τ.1 3 0).toInt = cI σ 2 + 1)) (fun σ hI => ?_) (fun σ τ v hI x F1 hB1 hPτ => ?_)
  · have hR := R19.s hI.2.2.2.1.1
    have e : (σ.1 3 0).toInt = cI σ 2 := congrArg Int32.toInt hR.1
    have g : 0 ≤ cI σ 2 ∧ cI σ 2 ≤ 10 := hI.1 93 2 (by decide)
    refine Sp.up (D := 21) ?_ (by decide)
    refine Sp.at rfl rfl ?_
    refine sg_csp a1.toInt (cI σ 2) hI.1 ⟨ai_rng a1, g, trivial⟩ ⟨e, trivial⟩ ?_ ?_ ?_ ?_ <;>
    · intro τ y hB1 hF1 f _ _ c
      have f1 := f.1
      have f2 := f.2.1
      have c1 := c.1
      refine ⟨_, rfl, hB1, hF1, ?_⟩
      first
        | exact Or.inl ⟨by omega, by omega, by omega⟩
        | exact Or.inr ⟨by omega, by omega, by omega⟩
  · have hR := hI.2.2.2.1
    have h19 := R19.s hR.1
    have h20 := R20.s hR
    have g : 0 ≤ cI σ 2 ∧ cI σ 2 ≤ 10 := hI.1 93 2 (by decide)
    have zs : 1 ≤ cI τ 2 ∨ cI τ 5 = 0 := hPτ.1.2
    have f2 : cI τ 2 = cI σ 2 := F1.c 2 rfl
    refine Sp.up (D := 21) ?_ (by decide)
    refine Sp.at rfl rfl ?_
    refine sg_msp a1.toInt (cI σ 2) hB1 ⟨ai_rng a1, g, trivial⟩ ⟨F1.c 2 rfl, trivial⟩ ?_ ?_ ?_ ?_ <;>
    · intro τ2 y2 hB2 hF2 f3 _ _ c2
      have f4 := f3.1
      have f5 := f3.2.1
      have c2' : cI τ2 2 = _ := c2.1
      have c5 : cI τ2 5 = cI τ 5 := FQ.c hF2 5 rfl
      have key : (τ.1 3 0).toInt = cI τ2 2 → cI σ 2 ≤ cI τ2 2 → an_GB pm_B τ2 ∧ mP τ2 ∧ FQ [(93, 0), (93, 2), (94, 9999)] τ τ2 ∧ R20 (tS τ2) (uS τ2) := fun k1 k2 => by
        have F2 : FQ [(93, 0), (93, 2), (94, 9999)] τ τ2 := hF2
        refine ⟨hB2, ⟨⟨pPP.fr _ rfl rfl rfl rfl rfl rfl rfl rfl F2 hPτ.1.1, (show 1 ≤ cI τ2 2 ∨ cI τ2 5 = 0 by omega)⟩, mP_img (F2.c 64 rfl) (fun i => F2 133 i rfl) hPτ⟩, F2, R20.m (R19.m ⟨?_, fun a b ha hb hne => ?_⟩) ⟨?_, fun i hi => ?_, fun i hi hl => ?_⟩⟩
        · refine Int32.toInt_inj.mp ?_
          rw [F2 3 0 rfl]
          exact k1
        · rw [F2 5 _ rfl, F1 5 _ rfl, F2 95 _ rfl, F1 95 _ rfl, F2 95 _ rfl, F1 95 _ rfl]
          exact h19.2 a b ha hb hne
        · rw [F2 7 0 rfl, F1 7 0 rfl, F2 93 5 rfl, F1 93 5 rfl]
          exact h20.1
        · rw [F2 8 i rfl, F1 8 i rfl, F2 96 i rfl, F1 96 i rfl]
          exact h20.2.1 i hi
        · rw [F2 96 i rfl, F1 96 i rfl]
          have := h20.2.2 i hi (by rw [F2.c 5 rfl, F1.c 5 rfl] at hl; exact hl)
          omega
      rcases x with ⟨x1, x2, x3⟩ | ⟨x1, x2, x3⟩
      · first
          | (exfalso; omega)
          | exact ⟨by rw [x2], key (by omega) (by omega)⟩
      · first
          | (exfalso; omega)
          | exact ⟨by rw [x2], key (by omega) (by omega)⟩
/-- for the beginning -/
def R20b (t : Nat → Nat → Int32) (u : Nat → Int32) : Bool := decide (t 7 0 = u 192) && decide ((u 192).toInt.toNat = 0) && (List.range 10).all (fun i => decide (t 8 i = u (193 + 5 * i)))
theorem R20b_ok {t : Nat → Nat → Int32} {u : Nat → Int32} (h0 : R19 t u) (h : R20b t u = true) : R20 t u := by
  unfold R20b at h
  rw [Bool.and_eq_true, Bool.and_eq_true] at h
  refine ⟨h0, of_decide_eq_true h.1.1, fun i hi => of_decide_eq_true (List.all_eq_true.mp h.2 i (List.mem_range.mpr hi)), fun i hi hl => ?_⟩
  rw [of_decide_eq_true h.1.2] at hl
  exact absurd hl (Nat.not_lt_zero i)
