/-! waiting -/
set_option maxRecDepth 20000 in
theorem m_spot {σ : pm_S} {v : Int} (hv : (-2147483648) ≤ v ∧ v ≤ 2147483647) : Sp 163 2 [.ref 93, .int (Int32.ofInt v)] σ (fun r τ => τ = σ ∧ (r = some (.int (pm_iv 0 0)) ∨ (r = some (.int (pm_iv 1 0)) ∧ 0 ≤ v ∧ v < cI σ 2))) := by
  refine Sp.at rfl rfl ?_
  refine O_Model_isSpot [1] 400 (fun R cl Z hR hcl hZ => ?_)
  conv => whnf
  refine hR _ _ _ _ ?_
  refine Ok.if1 rfl rfl (fun q => ?_) (fun q => ?_)
  · refine O_Model_isSpot [] 400 (fun R cl Z hR hcl hZ => ?_)
    conv => whnf
    exact ⟨fun _ => hZ _ _ ⟨rfl, Or.inl rfl⟩, fun z => absurd (by decide) z⟩
  · have q0 : 0 ≤ v := by
      have q' : ¬ (Int32.ofInt v < 0) := q
      rw [Int32.lt_iff_toInt_lt, ti_of (by omega) (by omega)] at q'
      have e0 : (0 : Int32).toInt = 0 := rfl
      omega
    refine O_Model_isSpot [5] 400 (fun R cl Z hR hcl hZ => ?_)
    conv => whnf
    refine hR _ _ _ _ ?_
    rw [← oI (σ.1 93 2)]
    refine Ok.ic rfl rfl (by omega) (by omega) (ai_rng _).1 (ai_rng _).2 (fun q2 => ?_) (fun q2 => ?_)
    · refine O_Model_isSpot [] 400 (fun R cl Z hR hcl hZ => ?_)
      conv => whnf
      exact ⟨fun _ => hZ _ _ ⟨rfl, Or.inl rfl⟩, fun z => absurd (by decide) z⟩
    · refine O_Model_isSpot [] 400 (fun R cl Z hR hcl hZ => ?_)
      conv => whnf
      exact ⟨fun _ => hZ _ _ ⟨rfl, Or.inr ⟨rfl, q0, q2⟩⟩, fun z => absurd (by decide) z⟩
abbrev FW : List (Nat × Nat) := [(93, 0), (131, 9999)]
abbrev qWa (σ : pm_S) : Option Value → pm_S → Prop := fun r τ => (∃ w : Int64, r = some (.long w)) ∧ an_GB pm_B τ ∧ FQ FW σ τ
set_option maxRecDepth 20000 in
theorem wa_25 {σ τ : pm_S} {va c : Int} {n : Nat} (hB : an_GB pm_B τ) (hF : FQ [(93, 0)] σ τ) (ha : 0 ≤ va ∧ va < cI τ 2) (hn : 1 ≤ n ∧ n ≤ 8) (hc : c = 0 ∨ (10 ≤ c ∧ c ≤ 9 + n)) : Ok 238 10 25 [.ref 93, .int (Int32.ofInt va), .int (Int32.ofInt (n : Int)), .int (Int32.ofInt c)] [] τ (qWa σ) := by
  have gS : 0 ≤ cI τ 2 ∧ cI τ 2 ≤ 10 := hB 93 2 (by decide)
  refine O_Model_waiting [27] 400 (fun R cl Z hR hcl hZ => ?_)
  conv => whnf
  refine hR _ _ _ _ ?_
  refine Ok.cv rfl rfl rfl rfl rfl rfl rfl ?_
  refine (m_missed hB hn).use (by decide) (fun r τ2 q => ?_)
  obtain ⟨rfl, E, hI⟩ := q
  have hB2 : an_GB pm_B τ2 := fun p j hj => by rw [E]; exact hB p j hj
  have F2 : FQ [(93, 0)] σ τ2 := fun p j q => by rw [E]; exact hF p j q
  have eS : cI τ2 2 = cI τ 2 := by show (τ2.1 93 2).toInt = _; rw [E]
  refine O_Model_waiting [29] 400 (fun R cl Z hR hcl hZ => ?_)
  conv => whnf
  refine hR _ _ _ _ ?_
  refine Ok.if1 rfl rfl (fun q => ?_) (fun q => ?_)
  · have q' : Int32.ofInt c ≠ 0 := q
    have hc' : 10 ≤ c ∧ c ≤ 9 + n := by
      rcases hc with z | z
      · exfalso
        rw [z] at q'
        exact q' (by decide)
      · exact z
    refine O_Model_waiting [41] 400 (fun R cl Z hR hcl hZ => ?_)
    conv => whnf
    refine hR _ _ _ _ ?_
    dsimp only
    rw [o10, os, show c - 10 = (((c - 10).toNat : Nat) : Int) by omega]
    refine Ok.cv rfl rfl rfl rfl rfl rfl rfl ?_
    refine (m_place hB2 (n := n) (hr := (c - 10).toNat) hn.2 (by omega) (by rw [eS]; exact hI)).use (by decide) (fun r3 τ3 q3 => ?_)
    obtain ⟨⟨w, rfl⟩, hK⟩ := q3
    refine O_Model_waiting [] 400 (fun R cl Z hR hcl hZ => ?_)
    conv => whnf
    exact hZ _ _ ⟨⟨_, rfl⟩, hK.2.2, (F2.up rfl).tr (hK.2.1.up rfl)⟩
  · refine O_Model_waiting [33] 400 (fun R cl Z hR hcl hZ => ?_)
    conv => whnf
    refine hR _ _ _ _ ?_
    refine Ok.lld (n := 160) rfl rfl rfl (by decide) (by omega) (by omega) ?_
    refine O_Model_waiting [] 400 (fun R cl Z hR hcl hZ => ?_)
    conv => whnf
    exact hZ _ _ ⟨⟨_, rfl⟩, hB2, F2.up rfl⟩
set_option maxRecDepth 20000 in
theorem wa_3 {σ τ : pm_S} {va vb vc : Int} (ha : (-2147483648) ≤ va ∧ va ≤ 2147483647) (hb : (-2147483648) ≤ vb ∧ vb ≤ 2147483647) (hc : (-2147483648) ≤ vc ∧ vc ≤ 2147483647) (hB : an_GB pm_B τ) (hF : FQ [(93, 0)] σ τ) : Ok 238 10 3 [.ref 93, .int (Int32.ofInt va), .int (Int32.ofInt vb), .int (Int32.ofInt vc)] [] τ (qWa σ) := by
  have no : ∀ υ : pm_S, an_GB pm_B υ → FQ [(93, 0)] σ υ → Ok 238 10 23 [.ref 93, .int (Int32.ofInt va), .int (Int32.ofInt vb), .int (Int32.ofInt vc)] [] υ (qWa σ) := by
    intro υ hB hF
    refine O_Model_waiting [] 400 (fun R cl Z hR hcl hZ => ?_)
    conv => whnf
    exact hZ _ _ ⟨⟨_, rfl⟩, hB, hF.up rfl⟩
  refine O_Model_waiting [5] 400 (fun R cl Z hR hcl hZ => ?_)
  conv => whnf
  refine hR _ _ _ _ ?_
  refine Ok.cv rfl rfl rfl rfl rfl rfl rfl ?_
  refine (m_spot ha).use (by decide) (fun r τ1 q => ?_)
  obtain ⟨rfl, q⟩ := q
  rcases q with rfl | ⟨rfl, h1, h2⟩
  · refine Ok.if1 rfl rfl (fun q => ?_) (fun q => ?_)
    · exact no τ1 hB hF
    · exfalso
      exact q (by show pm_iv 0 0 = 0; decide)
  · refine Ok.if1 rfl rfl (fun q => ?_) (fun _ => ?_)
    · exact no τ1 hB hF
    · refine O_Model_waiting [11] 400 (fun R cl Z hR hcl hZ => ?_)
      conv => whnf
      refine hR _ _ _ _ ?_
      rw [o8, o1]
      refine Ok.cv rfl rfl rfl rfl rfl rfl rfl ?_
      refine (ii_ok hB vb 1 8 hb (by decide) (by decide)).use (by decide) (fun r2 τ2 q2 => ?_)
      obtain ⟨B2, F2, q2⟩ := q2
      have F2' : FQ [(93, 0)] σ τ2 := hF.tr (F2.up rfl)
      have c2 : cI τ2 2 = cI τ1 2 := F2.c 2 rfl
      rcases q2 with rfl | ⟨rfl, g1, g2⟩
      · refine Ok.if1 rfl rfl (fun q => ?_) (fun q => ?_)
        · exact no τ2 B2 F2'
        · exfalso
          exact q (by show Int32.ofInt 0 = 0; decide)
      · refine Ok.if1 rfl rfl (fun q => ?_) (fun _ => ?_)
        · exact no τ2 B2 F2'
        · obtain ⟨n, en⟩ : ∃ n : Nat, vb = (n : Int) := ⟨vb.toNat, by omega⟩
          subst en
          refine O_Model_waiting [14] 400 (fun R cl Z hR hcl hZ => ?_)
          conv => whnf
          refine hR _ _ _ _ ?_
          refine Ok.if1 rfl rfl (fun q => ?_) (fun _ => ?_)
          · have q' : Int32.ofInt vc = 0 := q
            have e0 : vc = 0 := by
              have := congrArg Int32.toInt q'
              rw [ti_of (by omega) (by omega)] at this
              exact this
            exact wa_25 B2 F2' (by omega) (by omega) (Or.inl e0)
          · refine O_Model_waiting [21] 400 (fun R cl Z hR hcl hZ => ?_)
            conv => whnf
            refine hR _ _ _ _ ?_
            dsimp only
            rw [o10, o9, oa]
            refine Ok.cv rfl rfl rfl rfl rfl rfl rfl ?_
            refine (ii_ok B2 vc 10 (9 + (n : Int)) hc (by decide) (by omega)).use (by decide) (fun r3 τ3 q3 => ?_)
            obtain ⟨B3, F3, q3⟩ := q3
            have F3' : FQ [(93, 0)] σ τ3 := F2'.tr (F3.up rfl)
            have c3 : cI τ3 2 = cI τ2 2 := F3.c 2 rfl
            rcases q3 with rfl | ⟨rfl, k1, k2⟩
            · refine Ok.if1 rfl rfl (fun q => ?_) (fun q => ?_)
              · exfalso
                exact q (by show Int32.ofInt 0 = 0; decide)
              · exact no τ3 B3 F3'
            · refine Ok.if1 rfl rfl (fun _ => ?_) (fun q => ?_)
              · exact wa_25 B3 F3' (by omega) (by omega) (Or.inr ⟨k1, k2⟩)
              · exact no τ3 B3 F3'
set_option maxRecDepth 20000 in
theorem m_wait {σ : pm_S} (hB : an_GB pm_B σ) {va vb vc : Int} (ha : (-2147483648) ≤ va ∧ va ≤ 2147483647) (hb : (-2147483648) ≤ vb ∧ vb ≤ 2147483647) (hc : (-2147483648) ≤ vc ∧ vc ≤ 2147483647) : Sp 238 10 [.ref 93, .int (Int32.ofInt va), .int (Int32.ofInt vb), .int (Int32.ofInt vc)] σ (qWa σ) := by
  refine Sp.at rfl rfl ?_
  refine O_Model_waiting [3] 400 (fun R cl Z hR hcl hZ => ?_)
  conv => whnf
  refine hR _ _ _ _ ?_
  refine wa_3 (τ := put σ 93 0 (pm_iv 0 0)) ha hb hc (put_GB hB (by decide)) (fun p j q => put_ne (fun z => ?_))
  rw [z.1, z.2] at q
  cases q
