/-! image and tape as keys -/
def KI (K : KY) : Bool := K.all (fun q => match psI q.1 q.2.1, psI q.2.2.1 q.2.2.2 with
  | none, none => Nat.ble q.1 92 && Nat.ble (q.2.2.2 + 1) 65 && Nat.beq q.2.2.1 93
  | _, _ => false)
theorem KX.im {K : KY} (hk : KC K FIm = true) (hi : KI K = true) {σ σ1 τ : pm_S} (F1 : FQ FIm σ σ1) (hfr : ∀ p j, p ≠ 133 → ¬ (p = 93 ∧ j = 65) → psI p j = none → τ.1 p j = σ1.1 p j) : KX K σ τ := fun q hq => by
  have a := KX.of hk F1 q hq
  have b := List.all_eq_true.mp hi q hq
  split at b
  · rename_i e1 e2
    rw [Bool.and_eq_true, Bool.and_eq_true] at b
    have b1 := Nat.le_of_ble_eq_true b.1.1
    have b2 := Nat.le_of_ble_eq_true b.1.2
    have b3 := Nat.eq_of_beq_eq_true b.2
    exact ⟨(hfr _ _ (by omega) (by omega) e1).trans a.1, (hfr _ _ (by omega) (by omega) e2).trans a.2⟩
  · cases b
theorem kx_image {K : KY} (hk : KC K FIm = true) (hi : KI K = true) (w : Int32) (hw : w = 0 ∨ w = 1) : mKX K 1 245 [.int w] := by
  intro σ hB hp
  have ht : w.toInt = 0 ∨ w.toInt = 1 := by
    rcases hw with rfl | rfl
    · exact Or.inl rfl
    · exact Or.inr rfl
  rw [← oI w]
  refine (m_image hB hp.2.1 w.toInt ht).use (by decide) (fun r τ q => ?_)
  obtain ⟨q1, q2⟩ := q
  rcases q2 with ⟨k1, F, k3, -⟩ | ⟨h64, σ1, hB1, F1, hI, -⟩
  · refine ⟨q1, k1, ?_, KX.of hk F⟩
    have F0 : FQ [(93, 0), (93, 63), (93, 65), (93, 64)] σ τ := F.up rfl
    refine ⟨⟨pPP.fr FIm rfl rfl rfl rfl rfl rfl rfl rfl F hp.1.1, ?_⟩, mP_img k3 (fun i => F 133 i rfl) hp⟩
    unfold sPP
    rw [F.c 2 rfl, F.c 5 rfl]
    exact hp.1.2
  · obtain ⟨hBt, i65, i63, i64, hall, hfr⟩ := hI
    refine ⟨q1, hBt, ?_, KX.im hk hi F1 hfr⟩
    have hv : ∀ i, i < 1431 → qsV τ i = vI σ1 w.toInt i ∧ τ.1 133 i = vI σ1 w.toInt i := fun i hi => (hall i hi).1 hi
    have same : ∀ i, i < 1431 → qsV τ i = τ.1 133 i := fun i hi => (hv i hi).1.trans (hv i hi).2.symm
    have himg := p0_img hBt same
    -- what the state is that both come from
    have p1 : p0P σ1 := by
      refine ⟨pPP.fr FIm rfl rfl rfl rfl rfl rfl rfl rfl F1 hp.1.1, ?_⟩
      unfold sPP
      rw [F1.c 2 rfl, F1.c 5 rfl]
      exact hp.1.2
    have pt : p0P τ := by
      rcases ht with e | e
      · have h1 : cI σ 64 = 1 := h64.resolve_left (by omega)
        have e1 : imgS σ1 = imgS σ := imgS_e (fun i => F1 133 i rfl)
        refine (p0_img (σ := σ1) hBt (fun i hi => ?_)).1 (by rw [e1]; exact hp.2.2 h1)
        rw [(hv i hi).1]
        exact if_neg (by omega)
      · have a : ∀ i p j, i < 1431 → qsI i = (p, j) → τ.1 p j = σ1.1 p j := fun i p j hi hq => by
          have := (hv i hi).1
          unfold qsV at this
          rw [hq] at this
          rw [this]
          have : vI σ1 w.toInt i = qsV σ1 i := if_pos e
          rw [this]
          unfold qsV
          rw [hq]
        obtain ⟨a1, a2, a3, a4, a5, a6⟩ := psR
        have g36 : 0 ≤ cI σ1 36 ∧ cI σ1 36 ≤ 16 := hB1 93 36 (by decide)
        have g11 : 0 ≤ cI σ1 11 ∧ cI σ1 11 ≤ 30 := hB1 93 11 (by decide)
        exact p0_of g36.2 g11.2 (congrArg Int32.toInt (a 582 93 36 (by decide) rfl)) (congrArg Int32.toInt (a 250 93 11 (by decide) rfl)) (congrArg Int32.toInt (a 1 93 2 (by decide) rfl)) (congrArg Int32.toInt (a 192 93 5 (by decide) rfl)) (fun j hj => ⟨a _ 101 j (a1 j hj).2 (a1 j hj).1, a _ 102 j (a2 j hj).2 (a2 j hj).1⟩) (fun j hj => ⟨a _ 117 j (a3 j hj).2 (a3 j hj).1, a _ 118 j (a4 j hj).2 (a4 j hj).1⟩) (fun j hj => ⟨a _ 119 j (a5 j hj).2 (a5 j hj).1, a _ 120 j (a6 j hj).2 (a6 j hj).1⟩) p1
    refine ⟨pt, fun _ i hi => ?_, fun _ => himg.2 pt⟩
    rw [← same i hi]
    exact hBt _ _ (qs_len i hi)
theorem ka_image (w : Int32) (hw : w = 0 ∨ w = 1) : ∀ σ, an_GB pm_B σ → mP σ → Sp 245 1200 [.ref 93, .int w] σ (fun r τ => an_sh 1 r ∧ an_GB pm_B τ ∧ mP τ ∧ τ.1 0 2 = σ.1 0 2 ∧ ((r = some (.int (Int32.ofInt 0)) ∧ w.toInt = 0 ∧ cI σ 64 = 0 ∧ cI τ 64 = 0) ∨ (r = some (.int (Int32.ofInt 1)) ∧ (w.toInt = 1 ∨ cI σ 64 = 1) ∧ cI τ 64 = 1))) := by
  intro σ hB hp
  have ht : w.toInt = 0 ∨ w.toInt = 1 := by
    rcases hw with rfl | rfl
    · exact Or.inl rfl
    · exact Or.inr rfl
  rw [← oI w]
  refine (m_image hB hp.2.1 w.toInt ht).use (by decide) (fun r τ q => ?_)
  obtain ⟨q1, q2⟩ := q
  rcases q2 with ⟨k1, F, k3, e1, e2, e3⟩ | ⟨h64, σ1, hB1, F1, hI, e1⟩
  · refine ⟨q1, k1, ?_, F 0 2 rfl, Or.inl ⟨e1, by rw [oI]; exact e2, e3, by omega⟩⟩
    have F0 : FQ [(93, 0), (93, 63), (93, 65), (93, 64)] σ τ := F.up rfl
    refine ⟨⟨pPP.fr FIm rfl rfl rfl rfl rfl rfl rfl rfl F hp.1.1, ?_⟩, mP_img k3 (fun i => F 133 i rfl) hp⟩
    unfold sPP
    rw [F.c 2 rfl, F.c 5 rfl]
    exact hp.1.2
  · obtain ⟨hBt, i65, i63, i64, hall, hfr⟩ := hI
    refine ⟨q1, hBt, ?_, (hfr 0 2 (by decide) (by decide) rfl).trans (F1 0 2 rfl), Or.inr ⟨e1, h64.imp (fun z => by rw [oI]; exact z) id, i64⟩⟩
    have hv : ∀ i, i < 1431 → qsV τ i = vI σ1 w.toInt i ∧ τ.1 133 i = vI σ1 w.toInt i := fun i hi => (hall i hi).1 hi
    have same : ∀ i, i < 1431 → qsV τ i = τ.1 133 i := fun i hi => (hv i hi).1.trans (hv i hi).2.symm
    have himg := p0_img hBt same
    -- what the state is that both come from
    have p1 : p0P σ1 := by
      refine ⟨pPP.fr FIm rfl rfl rfl rfl rfl rfl rfl rfl F1 hp.1.1, ?_⟩
      unfold sPP
      rw [F1.c 2 rfl, F1.c 5 rfl]
      exact hp.1.2
    have pt : p0P τ := by
      rcases ht with e | e
      · have h1 : cI σ 64 = 1 := h64.resolve_left (by omega)
        have e1 : imgS σ1 = imgS σ := imgS_e (fun i => F1 133 i rfl)
        refine (p0_img (σ := σ1) hBt (fun i hi => ?_)).1 (by rw [e1]; exact hp.2.2 h1)
        rw [(hv i hi).1]
        exact if_neg (by omega)
      · have a : ∀ i p j, i < 1431 → qsI i = (p, j) → τ.1 p j = σ1.1 p j := fun i p j hi hq => by
          have := (hv i hi).1
          unfold qsV at this
          rw [hq] at this
          rw [this]
          have : vI σ1 w.toInt i = qsV σ1 i := if_pos e
          rw [this]
          unfold qsV
          rw [hq]
        obtain ⟨a1, a2, a3, a4, a5, a6⟩ := psR
        have g36 : 0 ≤ cI σ1 36 ∧ cI σ1 36 ≤ 16 := hB1 93 36 (by decide)
        have g11 : 0 ≤ cI σ1 11 ∧ cI σ1 11 ≤ 30 := hB1 93 11 (by decide)
        exact p0_of g36.2 g11.2 (congrArg Int32.toInt (a 582 93 36 (by decide) rfl)) (congrArg Int32.toInt (a 250 93 11 (by decide) rfl)) (congrArg Int32.toInt (a 1 93 2 (by decide) rfl)) (congrArg Int32.toInt (a 192 93 5 (by decide) rfl)) (fun j hj => ⟨a _ 101 j (a1 j hj).2 (a1 j hj).1, a _ 102 j (a2 j hj).2 (a2 j hj).1⟩) (fun j hj => ⟨a _ 117 j (a3 j hj).2 (a3 j hj).1, a _ 118 j (a4 j hj).2 (a4 j hj).1⟩) (fun j hj => ⟨a _ 119 j (a5 j hj).2 (a5 j hj).1, a _ 120 j (a6 j hj).2 (a6 j hj).1⟩) p1
    refine ⟨pt, fun _ i hi => ?_, fun _ => himg.2 pt⟩
    rw [← same i hi]
    exact hBt _ _ (qs_len i hi)
abbrev qText2 (σ : pm_S) : Option Value → pm_S → Prop := fun r τ => (∃ v : Int32, r = some (.int v)) ∧ an_GB pm_B τ ∧ FQ FTX σ τ ∧ (lwW σ → lwW τ) ∧ cI τ 30 = 0
theorem m_text2 {σ : pm_S} (hB : an_GB pm_B σ) : Sp 195 111 [.ref 93] σ (qText2 σ) := by
  refine Sp.at rfl rfl ?_
  refine sg_tx0 _ _ rfl rfl hB ?_
  intro τ y v1 v2 hv1 hv2 hB1 hF1 _ _ _ c1
  refine Ok.cv rfl rfl rfl rfl rfl rfl rfl ?_
  refine (m_reads hB1).use (by decide) (fun r2 τ2 q2 => ?_)
  obtain ⟨rfl, hB2, hR2, -, hF2⟩ := q2
  refine sg_tx20 v1 v2 hv1 hv2 hB2 ?_
  intro τ3 y3 w1 w2 hw1 hw2 hB3 hF3 _ _ _ _
  have g3 := gB hB3
  have z42 : cI τ3 42 = 0 := ((hF3.c 42 rfl).trans (hF2.c 42 rfl)).trans c1.1
  have z43 : cI τ3 43 = 0 := ((hF3.c 43 rfl).trans (hF2.c 43 rfl)).trans c1.2.1
  refine Ok.cv rfl rfl rfl rfl rfl rfl rfl ?_
  refine (m_readText hB3 (Rd.fr [] rfl rfl rfl rfl hF3 hR2) (by omega) z43).use (by decide) (fun r4 τ4 q4 => ?_)
  obtain ⟨hB4, hF4, hL4, q4⟩ := q4
  have hF14 : FQ FTX σ τ4 := FQ.tr (FQ.tr (FQ.tr (FQ.up (G := [(93, 0), (93, 48), (93, 49), (93, 31), (93, 42), (93, 43)]) rfl hF1) (FQ.up (G := FR) rfl hF2)) (FQ.up (G := []) rfl hF3)) (hF4.up rfl)
  have same : ∀ p, p = 116 ∨ p = 117 ∨ p = 118 ∨ p = 119 ∨ p = 120 → τ3.1 p = σ.1 p := by
    intro p hp
    funext j
    rcases hp with rfl | rfl | rfl | rfl | rfl
    · rw [hF3 116 j rfl, hF2 116 j rfl, hF1 116 j rfl]
    · rw [hF3 117 j rfl, hF2 117 j rfl, hF1 117 j rfl]
    · rw [hF3 118 j rfl, hF2 118 j rfl, hF1 118 j rfl]
    · rw [hF3 119 j rfl, hF2 119 j rfl, hF1 119 j rfl]
    · rw [hF3 120 j rfl, hF2 120 j rfl, hF1 120 j rfl]
  have hL : lwP σ τ4 := by
    refine ⟨fun j hj => ?_, fun j hj => ?_⟩
    · have := hL4.1 j hj
      rw [same 119 (by omega), same 120 (by omega)] at this
      exact this
    · have := hL4.2 j hj
      rw [same 116 (by omega), same 117 (by omega), same 118 (by omega)] at this
      exact this
  have h36 : cI τ4 36 = cI σ 36 := (((hF4.c 36 rfl).trans (hF3.c 36 rfl)).trans (hF2.c 36 rfl)).trans (hF1.c 36 rfl)
  rcases q4 with rfl | ⟨k, hk, rfl, hD4⟩
  · refine sg_tx22k (-1) w1 w2 hw1 hw2 hB4 ⟨by omega, trivial⟩ ?_ ?_
    · intro τ5 y _ _ f; exfalso; omega
    · intro τ5 y hB5 hF5 _ _ _ c5
      refine ⟨⟨_, rfl⟩, hB5, hF14.tr (FQ.up (G := [(93, 30), (93, 48), (93, 49)]) rfl hF5), fun hW => ?_, c5.1⟩
      refine lwW_of hB ((hF5.c 36 rfl).trans h36) ⟨fun j hj => ?_, fun j hj => ?_⟩ hW
      · rw [hF5 119 j rfl, hF5 120 j rfl]; exact hL.1 j hj
      · rw [hF5 116 j rfl, hF5 117 j rfl, hF5 118 j rfl]; exact hL.2 j hj
  · refine sg_tx22k k w1 w2 hw1 hw2 hB4 ⟨by omega, trivial⟩ ?_ ?_
    · intro τ5 y hB5 hF5 _ _ _ c5
      have g5 := gB hB5
      refine x_41 hk ?_ k 0 τ5 (by omega) ⟨hB5, FQ.rf _ _, fun j _ => ⟨rfl, rfl⟩, fun i hi => absurd hi (by omega)⟩
      intro τ6 v6 hv6 hC6
      have e42 : cI τ6 42 = cI τ5 42 := hC6.2.1.c 42 rfl
      refine sg_tx76 k v6 hv6 hC6.1 ⟨by omega, trivial⟩ ?_
      intro τ7 y7 hB7 hF7 _ _ _ _
      have e42' : cI τ7 42 = cI τ5 42 := (hF7.c 42 rfl).trans e42
      refine x_78 (c := (cI τ7 42).toNat) hk (by omega) (by omega) ?_ (cI τ7 42).toNat 0 τ7 (by omega) ⟨hB7, FQ.rf _ _, fun j _ => ⟨rfl, rfl⟩, fun i hi => absurd hi (by omega)⟩
      intro τ8 v8 hv8 hC8
      refine sg_tx104 k v8 hv8 hC8.1 ⟨by omega, trivial⟩ ?_
      intro τ9 y9 hB9 hF9 _ _ _ c9
      refine ⟨⟨_, rfl⟩, hB9, FQ.tr (FQ.tr (FQ.tr (FQ.tr (FQ.tr hF14 (FQ.up (G := [(93, 30), (93, 48), (93, 49)]) rfl hF5)) (hC6.2.1.up rfl)) (FQ.up (G := []) rfl hF7)) (hC8.2.1.up rfl)) (FQ.up (G := [(93, 36)]) rfl hF9), fun _ => ?_, (hF9.c 30 rfl).trans ((hC8.2.1.c 30 rfl).trans ((hF7.c 30 rfl).trans ((hC6.2.1.c 30 rfl).trans c5.1)))⟩
      intro i hi
      have hi' : i < k := by
        have : cI τ9 36 = (k : Int) := c9.1
        omega
      obtain ⟨f, n, e1, e2, e3, s, e4⟩ := hD4 i hi'
      have h6 := hC6.2.2.2 i hi'
      have e42n : cI τ5 42 = cI τ4 42 := hF5.c 42 rfl
      refine ⟨f, n, ?_, ?_, by omega, s, ?_⟩
      · rw [hF9 117 i rfl, hC8.2.1 117 i rfl, hF7 117 i rfl, h6.1, hF5 117 _ rfl]; exact e1
      · rw [hF9 118 i rfl, hC8.2.1 118 i rfl, hF7 118 i rfl, h6.2, hF5 118 _ rfl]; exact e2
      · rw [wR_shift (k := 400 + f) (o := τ4.1 119) (a := τ4.1 120) n (fun j hj => ?_)]
        · exact e4
        · have h8 := hC8.2.2.2 (f + j) (by omega)
          rw [hF9 119 _ rfl, hF9 120 _ rfl, h8.1, h8.2, hF7 119 _ rfl, hF7 120 _ rfl, hC6.2.1 119 _ rfl, hC6.2.1 120 _ rfl, hF5 119 _ rfl, hF5 120 _ rfl, show 400 + (f + j) = 400 + f + j by omega]
          exact ⟨rfl, rfl⟩
    · intro τ5 y _ _ f; exfalso; omega
abbrev K9 : KY := [(67, 2, 93, 30)]
theorem K9.e {σ : pm_S} (h : KE K9 σ) : (σ.1 67 2).toInt = cI σ 30 := congrArg Int32.toInt (h (67, 2, 93, 30) (List.mem_singleton.mpr rfl))
theorem K9.i {σ : pm_S} (h : (σ.1 67 2).toInt = cI σ 30) : KE K9 σ := fun q hq => by
  rw [List.mem_singleton.mp hq]
  exact Int32.toInt_inj.mp h
theorem t9_text : Two 1 false (IK K9) (IK K9) 137 195 [] := by
  intro σ hI
  refine (sx_tx_ok σ _ hI.1 (show an_sargs [.ref 0] sx_tx.2.2.1 from ⟨rfl, trivial⟩) (fun q hq => absurd hq List.not_mem_nil)).use (by decide) (fun r τ hr => ?_)
  obtain ⟨k1, k2, k3, k4⟩ := hr
  have hPτ : mP τ := mP93 σ τ (fun p j hp => k3 p j (an_foot93 rfl hp)) hI.2.1
  have z : 0 ≤ (τ.1 67 2).toInt ∧ (τ.1 67 2).toInt ≤ 0 := k4 _ List.mem_cons_self
  refine ⟨shI k2, (m_text2 k1).use (by decide) (fun r2 τ2 q => ?_)⟩
  obtain ⟨q1, q2, F, q4, q5⟩ := q
  refine ⟨q1, fun z => absurd z (by decide), q2, ⟨⟨⟨q4 hPτ.1.1.1, unl.fr FTX rfl rfl rfl F hPτ.1.1.2⟩, ?_⟩, mP_img (F.c 64 rfl) (fun i => F 133 i rfl) hPτ⟩, K9.i ?_⟩
  · unfold sPP
    rw [F.c 2 rfl, F.c 5 rfl]
    exact hPτ.1.2
  · rw [F 67 2 rfl, q5]
    omega
theorem t9_feed (a1 a2 a3 a4 a5 : Int32) : Two 1 true (IK K9) (IK K9) 135 175 [.int a1, .int a2, .int a3, .int a4, .int a5] := by
  intro σ hI
  have e := K9.e hI.2.2
  have g : 0 ≤ cI σ 30 ∧ cI σ 30 ≤ 400 := hI.1 93 30 (by decide)
  refine Sp.up (D := 21) ?_ (by decide)
  refine Sp.at rfl rfl ?_
  show Ok 135 21 0 [.ref 0, .int a1, .int a2, .int a3, .int a4, .int a5] [] σ _
  rw [← oI a1, ← oI a2, ← oI a3, ← oI a4, ← oI a5]
  refine sg_cfe (cI σ 30) a1.toInt a2.toInt a3.toInt a4.toInt a5.toInt hI.1 ⟨g, ai_rng a1, ai_rng a2, ai_rng a3, ai_rng a4, ai_rng a5, trivial⟩ ⟨e, trivial⟩ ?_ ?_
  · intro τ y hB1 hF1 f _ _ c
    have f := f.1
    have hPτ : mP τ := mP93 σ τ (fun p j hp => hF1 p j (an_foot93 rfl hp)) hI.2.1
    refine ⟨⟨_, rfl⟩, Sp.up (D := 21) ?_ (by decide)⟩
    refine Sp.at rfl rfl ?_
    refine sg_mfe (cI σ 30) a1.toInt a2.toInt a3.toInt a4.toInt a5.toInt hB1 ⟨g, ai_rng a1, ai_rng a2, ai_rng a3, ai_rng a4, ai_rng a5, trivial⟩ ⟨hF1.c 30 rfl, trivial⟩ ?_ ?_
    · intro τ2 y2 hB2 hF2 f2 _ _ c2
      exact ⟨⟨_, rfl⟩, fun _ => rfl, hB2, mP.fr [(93, 0), (93, 30), (114, 9999)] rfl rfl rfl rfl rfl rfl rfl rfl rfl rfl rfl rfl hF2 hPτ, K9.i (by rw [hF2 67 2 rfl]; exact c.1.trans c2.1.symm)⟩
    · intro τ2 y2 hB2 hF2 f2 _ _ c2
      exfalso
      have f2 := f2.1
      omega
  · intro τ y hB1 hF1 f _ _ c
    have f := f.1
    have hPτ : mP τ := mP93 σ τ (fun p j hp => hF1 p j (an_foot93 rfl hp)) hI.2.1
    refine ⟨⟨_, rfl⟩, Sp.up (D := 21) ?_ (by decide)⟩
    refine Sp.at rfl rfl ?_
    refine sg_mfe (cI σ 30) a1.toInt a2.toInt a3.toInt a4.toInt a5.toInt hB1 ⟨g, ai_rng a1, ai_rng a2, ai_rng a3, ai_rng a4, ai_rng a5, trivial⟩ ⟨hF1.c 30 rfl, trivial⟩ ?_ ?_
    · intro τ2 y2 hB2 hF2 f2 _ _ c2
      exfalso
      have f2 := f2.1
      omega
    · intro τ2 y2 hB2 hF2 f2 _ _ c2
      exact ⟨⟨_, rfl⟩, fun _ => rfl, hB2, mP.fr [(93, 0), (93, 30), (114, 9999)] rfl rfl rfl rfl rfl rfl rfl rfl rfl rfl rfl rfl hF2 hPτ, K9.i (by rw [hF2 67 2 rfl]; exact c.1.trans c2.1.symm)⟩
set_option maxRecDepth 20000 in
theorem x_cut {σ : pm_S} {v : Int} (hv : (-2147483648) ≤ v ∧ v ≤ 2147483647) : Sp 26 2 [.ref 67, .int (Int32.ofInt v)] σ (fun r τ => (¬ (0 ≤ v ∧ v ≤ (σ.1 67 2).toInt) ∧ r = some (.int (pm_iv 0 0)) ∧ τ = σ) ∨ ((0 ≤ v ∧ v ≤ (σ.1 67 2).toInt) ∧ r = some (.int (pm_iv 1 0)) ∧ τ = put σ 67 2 (Int32.ofInt v))) := by
  refine Sp.at rfl rfl ?_
  refine O_LawReader_cut [1] 400 (fun R cl Z hR hcl hZ => ?_)
  conv => whnf
  refine hR _ _ _ _ ?_
  refine Ok.if1 rfl rfl (fun q => ?_) (fun q => ?_)
  · have q0 : v < 0 := by
      have q' : Int32.ofInt v < 0 := q
      rw [Int32.lt_iff_toInt_lt, ti_of (by omega) (by omega)] at q'
      exact q'
    refine O_LawReader_cut [] 400 (fun R cl Z hR hcl hZ => ?_)
    conv => whnf
    exact ⟨fun _ => hZ _ _ (Or.inl ⟨by omega, rfl, rfl⟩), fun z => absurd (by decide) z⟩
  · have q0 : 0 ≤ v := by
      have q' : ¬ (Int32.ofInt v < 0) := q
      rw [Int32.lt_iff_toInt_lt, ti_of (by omega) (by omega)] at q'
      have e0 : (0 : Int32).toInt = 0 := rfl
      omega
    refine O_LawReader_cut [5] 400 (fun R cl Z hR hcl hZ => ?_)
    conv => whnf
    refine hR _ _ _ _ ?_
    have eo : (Int32.ofInt (σ.1 67 2).toInt).toInt = (σ.1 67 2).toInt := by rw [oI]
    rw [← oI (σ.1 67 2)]
    refine Ok.ic rfl rfl (by omega) (by omega) (ai_rng _).1 (ai_rng _).2 (fun q2 => ?_) (fun q2 => ?_)
    · have q2 : v ≤ (σ.1 67 2).toInt := q2
      refine O_LawReader_cut [] 400 (fun R cl Z hR hcl hZ => ?_)
      conv => whnf
      exact ⟨fun _ => hZ _ _ (Or.inr ⟨⟨q0, by omega⟩, rfl, rfl⟩), fun z => absurd (by decide) z⟩
    · have q2 : (σ.1 67 2).toInt < v := q2
      refine O_LawReader_cut [] 400 (fun R cl Z hR hcl hZ => ?_)
      conv => whnf
      exact ⟨fun _ => hZ _ _ (Or.inl ⟨by omega, rfl, rfl⟩), fun z => absurd (by decide) z⟩
set_option maxRecDepth 20000 in
theorem x_isIn {σ : pm_S} {v l h : Int} (hv : (-2147483648) ≤ v ∧ v ≤ 2147483647) (hl : (-2147483648) ≤ l ∧ l ≤ 2147483647) (hh : (-2147483648) ≤ h ∧ h ≤ 2147483647) : Sp 159 2 [.ref 93, .int (Int32.ofInt v), .int (Int32.ofInt l), .int (Int32.ofInt h)] σ (fun r τ => τ = σ ∧ ((¬ (l ≤ v ∧ v ≤ h) ∧ r = some (.int (pm_iv 0 0))) ∨ ((l ≤ v ∧ v ≤ h) ∧ r = some (.int (pm_iv 1 0))))) := by
  refine Sp.at rfl rfl ?_
  refine O_Model_isIn [2] 400 (fun R cl Z hR hcl hZ => ?_)
  conv => whnf
  refine hR _ _ _ _ ?_
  refine Ok.ic rfl rfl (by omega) (by omega) (by omega) (by omega) (fun q => ?_) (fun q => ?_)
  · have q : v < l := q
    refine O_Model_isIn [] 400 (fun R cl Z hR hcl hZ => ?_)
    conv => whnf
    exact ⟨fun _ => hZ _ _ ⟨rfl, Or.inl ⟨by omega, rfl⟩⟩, fun z => absurd (by decide) z⟩
  · have q : l ≤ v := q
    refine O_Model_isIn [5] 400 (fun R cl Z hR hcl hZ => ?_)
    conv => whnf
    refine hR _ _ _ _ ?_
    refine Ok.ic rfl rfl (by omega) (by omega) (by omega) (by omega) (fun q2 => ?_) (fun q2 => ?_)
    · have q2 : h < v := q2
      refine O_Model_isIn [] 400 (fun R cl Z hR hcl hZ => ?_)
      conv => whnf
      exact ⟨fun _ => hZ _ _ ⟨rfl, Or.inl ⟨by omega, rfl⟩⟩, fun z => absurd (by decide) z⟩
    · have q2 : v ≤ h := q2
      refine O_Model_isIn [] 400 (fun R cl Z hR hcl hZ => ?_)
      conv => whnf
      exact ⟨fun _ => hZ _ _ ⟨rfl, Or.inr ⟨⟨q, q2⟩, rfl⟩⟩, fun z => absurd (by decide) z⟩
set_option maxRecDepth 20000 in
theorem x_endC {σ : pm_S} {v : Int} (hv : (-2147483648) ≤ v ∧ v ≤ 2147483647) : Sp 136 3 [.ref 0, .int (Int32.ofInt v)] σ (fun r τ => (¬ (0 ≤ v ∧ v ≤ (σ.1 67 2).toInt) ∧ r = some (.int (pm_iv 0 0)) ∧ τ = σ) ∨ ((0 ≤ v ∧ v ≤ (σ.1 67 2).toInt) ∧ r = some (.int (pm_iv 1 0)) ∧ τ = put σ 67 2 (Int32.ofInt v))) := by
  refine Sp.at rfl rfl ?_
  refine O_PaidWhereMade_end [3] 400 (fun R cl Z hR hcl hZ => ?_)
  conv => whnf
  refine hR _ _ _ _ ?_
  refine Ok.cv rfl rfl rfl rfl rfl rfl rfl ?_
  refine (x_cut hv).use (by decide) (fun r τ q => ?_)
  rcases q with ⟨q, rfl, rfl⟩ | ⟨q, rfl, rfl⟩
  · refine O_PaidWhereMade_end [] 400 (fun R cl Z hR hcl hZ => ?_)
    conv => whnf
    exact ⟨fun _ => hZ _ _ (Or.inl ⟨q, rfl, rfl⟩), fun z => absurd (by decide) z⟩
  · refine O_PaidWhereMade_end [] 400 (fun R cl Z hR hcl hZ => ?_)
    conv => whnf
    exact ⟨fun _ => hZ _ _ (Or.inr ⟨q, rfl, rfl⟩), fun z => absurd (by decide) z⟩
set_option maxRecDepth 20000 in
theorem x_endM {σ : pm_S} {v : Int} (hv : (-2147483648) ≤ v ∧ v ≤ 2147483647) : Sp 176 3 [.ref 93, .int (Int32.ofInt v)] σ (fun r τ => (¬ (0 ≤ v ∧ v ≤ cI σ 30) ∧ r = some (.int (pm_iv 0 0)) ∧ τ = put σ 93 0 (pm_iv 0 0)) ∨ ((0 ≤ v ∧ v ≤ cI σ 30) ∧ r = some (.int (pm_iv 1 0)) ∧ τ = put (put σ 93 0 (pm_iv 0 0)) 93 30 (Int32.ofInt v))) := by
  refine Sp.at rfl rfl ?_
  refine O_Model_end [3] 400 (fun R cl Z hR hcl hZ => ?_)
  conv => whnf
  refine hR _ _ _ _ ?_
  show Ok 176 3 3 [.ref 93, .int (Int32.ofInt v)] [] (put σ 93 0 (pm_iv 0 0)) _
  have e30 : (put σ 93 0 (pm_iv 0 0)).1 93 30 = σ.1 93 30 := put_nj (by decide)
  generalize put σ 93 0 (pm_iv 0 0) = τ at e30 ⊢
  show Ok 176 3 3 [.ref 93, .int (Int32.ofInt v)] [] τ (fun r υ => (¬ (0 ≤ v ∧ v ≤ (σ.1 93 30).toInt) ∧ r = some (.int (pm_iv 0 0)) ∧ υ = τ) ∨ ((0 ≤ v ∧ v ≤ (σ.1 93 30).toInt) ∧ r = some (.int (pm_iv 1 0)) ∧ υ = put τ 93 30 (Int32.ofInt v)))
  rw [← e30]
  refine O_Model_end [8] 400 (fun R cl Z hR hcl hZ => ?_)
  conv => whnf
  refine hR _ _ _ _ ?_
  rw [o0]
  rw [← oI (τ.1 93 30)]
  refine Ok.cv rfl rfl rfl rfl rfl rfl rfl ?_
  refine (x_isIn (v := v) (l := 0) (h := (τ.1 93 30).toInt) hv (by decide) (ai_rng _)).use (by decide) (fun r υ q => ?_)
  rw [oI]
  obtain ⟨rfl, ⟨q, rfl⟩ | ⟨q, rfl⟩⟩ := q
  · refine Ok.if1 rfl rfl (fun z => ?_) (fun _ => ?_)
    · exact absurd (show pm_iv 0 0 = 0 by decide) z
    · refine O_Model_end [] 400 (fun R cl Z hR hcl hZ => ?_)
      conv => whnf
      exact ⟨fun _ => hZ _ _ (Or.inl ⟨q, rfl, rfl⟩), fun z => absurd (by decide) z⟩
  · refine Ok.if1 rfl rfl (fun _ => ?_) (fun z => ?_)
    · refine O_Model_end [] 400 (fun R cl Z hR hcl hZ => ?_)
      conv => whnf
      exact ⟨fun _ => hZ _ _ (Or.inr ⟨q, rfl, rfl⟩), fun z => absurd (by decide) z⟩
    · exact absurd (show pm_iv 1 0 ≠ 0 by decide) z
theorem fq_put1 {σ : pm_S} {p y : Nat} {w : Int32} {F : List (Nat × Nat)} (h : an_inF F p y = true) : FQ F σ (put σ p y w) := fun p' j' q => put_ne (fun z => by
  rw [z.1, z.2, h] at q
  cases q)
theorem t9_end (a1 : Int32) : Two 1 true (IK K9) (IK K9) 136 176 [.int a1] := by
  intro σ hI
  have e := K9.e hI.2.2
  have g : 0 ≤ cI σ 30 ∧ cI σ 30 ≤ 400 := hI.1 93 30 (by decide)
  rw [← oI a1]
  have ea : (Int32.ofInt a1.toInt).toInt = a1.toInt := by rw [oI]
  refine (x_endC (ai_rng a1)).use (by decide) (fun r τ q => ?_)
  rcases q with ⟨q, rfl, rfl⟩ | ⟨q, rfl, rfl⟩
  · refine ⟨⟨_, rfl⟩, (x_endM (ai_rng a1)).use (by decide) (fun r2 τ2 q2 => ?_)⟩
    rcases q2 with ⟨q2, rfl, rfl⟩ | ⟨q2, rfl, rfl⟩
    · have F : FQ [(93, 0)] τ (put τ 93 0 (pm_iv 0 0)) := fq_put1 rfl
      exact ⟨⟨_, rfl⟩, fun _ => rfl, put_GB hI.1 (by decide), mP.fr _ rfl rfl rfl rfl rfl rfl rfl rfl rfl rfl rfl rfl F hI.2.1, K9.i (by rw [F 67 2 rfl, F.c 30 rfl]; exact e)⟩
    · exfalso
      omega
  · have B1 : an_GB pm_B (put σ 67 2 (Int32.ofInt a1.toInt)) := put_GB hI.1 (by
      show (0 : Int) ≤ (Int32.ofInt a1.toInt).toInt ∧ (Int32.ofInt a1.toInt).toInt ≤ 400
      omega)
    have F0 : FQ [(67, 2)] σ (put σ 67 2 (Int32.ofInt a1.toInt)) := fq_put1 rfl
    have P1 : mP (put σ 67 2 (Int32.ofInt a1.toInt)) := mP93 σ _ (fun p j hp => F0 p j (an_foot93 rfl hp)) hI.2.1
    have e1 : ((put σ 67 2 (Int32.ofInt a1.toInt)).1 67 2).toInt = a1.toInt := by rw [put_eq, oI]
    have e2 : cI (put σ 67 2 (Int32.ofInt a1.toInt)) 30 = cI σ 30 := F0.c 30 rfl
    generalize put σ 67 2 (Int32.ofInt a1.toInt) = τ at B1 P1 e1 e2 ⊢
    refine ⟨⟨_, rfl⟩, (x_endM (ai_rng a1)).use (by decide) (fun r2 τ2 q2 => ?_)⟩
    rcases q2 with ⟨q2, rfl, rfl⟩ | ⟨q2, rfl, rfl⟩
    · exfalso
      omega
    · have F : FQ [(93, 0), (93, 30)] τ (put (put τ 93 0 (pm_iv 0 0)) 93 30 (Int32.ofInt a1.toInt)) := FQ.tr (fq_put1 rfl) (fq_put1 rfl)
      refine ⟨⟨_, rfl⟩, fun _ => rfl, put_GB (put_GB B1 (by decide)) ?_, mP.fr _ rfl rfl rfl rfl rfl rfl rfl rfl rfl rfl rfl rfl F P1, K9.i ?_⟩
      · show (0 : Int) ≤ (Int32.ofInt a1.toInt).toInt ∧ (Int32.ofInt a1.toInt).toInt ≤ 400
        omega
      · rw [F 67 2 rfl, e1]
        show _ = ((put _ 93 30 _).1 93 30).toInt
        rw [put_eq, oI]
theorem kx_text {K : KY} (hk : KC K FTX = true) : mKX K 1 195 [] := by
  intro σ hB hp
  refine (m_text hB).use (by decide) (fun r τ q => ?_)
  obtain ⟨q1, q2, F, q4⟩ := q
  refine ⟨q1, q2, ⟨⟨⟨q4 hp.1.1.1, unl.fr FTX rfl rfl rfl F hp.1.1.2⟩, ?_⟩, mP_img (F.c 64 rfl) (fun i => F 133 i rfl) hp⟩, KX.of hk F⟩
  unfold sPP
  rw [F.c 2 rfl, F.c 5 rfl]
  exact hp.1.2
