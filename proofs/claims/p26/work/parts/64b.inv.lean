/-! WHAT IS SO OF THE MODEL BETWEEN CALLS -/
def sPP (σ : pm_S) : Prop := 1 ≤ cI σ 2 ∨ cI σ 5 = 0
def p0P (σ : pm_S) : Prop := pPP σ ∧ sPP σ
def imgS (σ : pm_S) : pm_S := (fun p j => match psI p j with
  | some i => σ.1 133 i
  | none => 0, fun _ _ => 0)
def mP (σ : pm_S) : Prop := p0P σ ∧ imB σ ∧ (cI σ 64 = 1 → p0P (imgS σ))
theorem p0_of {σ τ : pm_S} (b36 : cI σ 36 ≤ 16) (b11 : cI σ 11 ≤ 30) (e36 : cI τ 36 = cI σ 36) (e11 : cI τ 11 = cI σ 11) (e2 : cI τ 2 = cI σ 2) (e5 : cI τ 5 = cI σ 5) (r1 : ∀ j : Nat, j < 30 → τ.1 101 j = σ.1 101 j ∧ τ.1 102 j = σ.1 102 j) (r2 : ∀ j : Nat, j < 16 → τ.1 117 j = σ.1 117 j ∧ τ.1 118 j = σ.1 118 j) (r3 : ∀ j : Nat, j < 400 → τ.1 119 j = σ.1 119 j ∧ τ.1 120 j = σ.1 120 j) (h : p0P σ) : p0P τ := by
  obtain ⟨⟨h1, h2⟩, h3⟩ := h
  refine ⟨⟨fun i hi => ?_, fun d hd => ?_⟩, ?_⟩
  · rw [e36] at hi
    obtain ⟨f, n, a1, a2, a3, s, a4⟩ := h1 i hi
    have := r2 i (by omega)
    refine ⟨f, n, by rw [this.1]; exact a1, by rw [this.2]; exact a2, a3, s, ?_⟩
    rw [wR_congr n (fun j _ hj => r3 j (by omega))]
    exact a4
  · rw [e11] at hd
    have := r1 d (by omega)
    rw [this.1, this.2]
    exact h2 d hd
  · unfold sPP
    rw [e2, e5]
    exact h3
theorem imgS_e {σ τ : pm_S} (h : ∀ i, τ.1 133 i = σ.1 133 i) : imgS τ = imgS σ := by
  unfold imgS
  rw [funext h]
theorem mP_img {σ τ : pm_S} (h64 : cI τ 64 = cI σ 64) (h : ∀ i, τ.1 133 i = σ.1 133 i) (hm : mP σ) : imB τ ∧ (cI τ 64 = 1 → p0P (imgS τ)) := by
  refine ⟨fun z i hi => ?_, fun z => ?_⟩
  · rw [h]
    exact hm.2.1 (h64 ▸ z) i hi
  · rw [imgS_e h]
    exact hm.2.2 (h64 ▸ z)
theorem mP.fr {σ τ : pm_S} (G : List (Nat × Nat)) (h36 : an_inF G 93 36 = false) (h1 : an_inP G 117 = false) (h2 : an_inP G 118 = false) (h3 : an_inP G 119 = false) (h4 : an_inP G 120 = false) (h11 : an_inF G 93 11 = false) (h5 : an_inP G 101 = false) (h6 : an_inP G 102 = false) (g2 : an_inF G 93 2 = false) (g5 : an_inF G 93 5 = false) (g64 : an_inF G 93 64 = false) (g133 : an_inP G 133 = false) (hF : FQ G σ τ) (h : mP σ) : mP τ := by
  refine ⟨⟨pPP.fr G h36 h1 h2 h3 h4 h11 h5 h6 hF h.1.1, ?_⟩, mP_img (hF.c 64 g64) (fun i => hF 133 i (an_inP_ok g133 i)) h⟩
  unfold sPP
  rw [hF.c 2 g2, hF.c 5 g5]
  exact h.1.2
theorem mP93 : an_md93 mP := by
  intro σ τ h hm
  have e : ∀ p, 93 ≤ p → τ.1 p = σ.1 p := fun p hp => funext fun j => h p j hp
  have c : ∀ j, cI τ j = cI σ j := fun j => by show (τ.1 93 j).toInt = _; rw [e 93 (by omega)]
  refine ⟨⟨⟨fun i hi => ?_, fun d hd => ?_⟩, ?_⟩, mP_img (c 64) (fun i => h 133 i (by omega)) hm⟩
  · rw [c] at hi
    rw [e 117 (by omega), e 118 (by omega), e 119 (by omega), e 120 (by omega)]
    exact hm.1.1.1 i hi
  · rw [c] at hd
    rw [e 101 (by omega), e 102 (by omega)]
    exact hm.1.1.2 d hd
  · unfold sPP
    rw [c, c]
    exact hm.1.2
/-- what is asked of the model's side of a call -/
abbrev mOK (t kM : Nat) (as : List Value) : Prop := ∀ σ, an_GB pm_B σ → mP σ → Sp kM 1200 (.ref 93 :: as) σ (fun r τ => an_sh t r ∧ an_GB pm_B τ ∧ mP τ)
theorem a0 (a : Int32) : an_sarg (.int a) (1, 0, (-2147483648), 2147483647) := ⟨a, rfl, ai_rng a⟩
theorem shI {q : Int × Int} {r : Option Value} (h : an_spost r (1, q)) : an_sh 1 r := by
  obtain ⟨w, e, -⟩ := h
  exact ⟨w, e⟩
/-- by a summary under the condition -/
theorem an_mod_P {e : an_S} {q : Int × Int} (hM : an_sokP pPP pm_B e) (hD : e.2.1 ≤ 1200) (hc : e.2.2.2.1 = []) (ht : e.2.2.2.2.1 = (1, q)) (hP : ∀ σ τ : pm_S, FQ e.2.2.2.2.2.1 σ τ → mP σ → mP τ) {as : List Value} (has : an_sargs (.ref 93 :: as) e.2.2.1) : mOK 1 e.1 as := by
  intro σ hB hp
  refine (hM σ _ hB hp.1.1 has (by rw [hc]; exact fun q hq => absurd hq List.not_mem_nil)).use hD (fun r τ hr => ?_)
  obtain ⟨k1, k2, k3, -⟩ := hr
  rw [ht] at k2
  exact ⟨shI k2, k1, hP σ τ k3 hp⟩
theorem ok_spot (a : Int32) : mOK 1 166 [.int a] := by
  intro σ hB hp
  have key : ∀ (τ : pm_S), FQ [(93, 0), (93, 2), (94, 9999)] σ τ → sPP τ → mP τ := fun τ hF hs =>
    ⟨⟨pPP.fr _ rfl rfl rfl rfl rfl rfl rfl rfl hF hp.1.1, hs⟩, mP_img (hF.c 64 rfl) (fun i => hF 133 i rfl) hp⟩
  rcases hp.1.2 with h | h
  · have g2 : 0 ≤ cI σ 2 ∧ cI σ 2 ≤ 10 := hB 93 2 (by decide)
    refine (sx_spot_ok σ _ hB (show an_sargs [.ref 93, .int a] sx_spot.2.2.1 from ⟨rfl, a0 a, trivial⟩) (fun q hq => ?_)).use (by decide) (fun r τ hr => ?_)
    · rcases List.mem_cons.mp hq with rfl | hq
      · exact ⟨h, g2.2⟩
      · exact absurd hq List.not_mem_nil
    · obtain ⟨k1, k2, k3, k4⟩ := hr
      refine ⟨shI k2, k1, key τ k3 (Or.inl ?_)⟩
      exact (k4 _ List.mem_cons_self).1
  · refine (se_126_ok σ _ hB (show an_sargs [.ref 93, .int a] se_126.2.2.1 from ⟨rfl, a0 a, trivial⟩) (fun q hq => absurd hq List.not_mem_nil)).use (by decide) (fun r τ hr => ?_)
    obtain ⟨k1, k2, k3, k4⟩ := hr
    exact ⟨shI k2, k1, key τ k3 (Or.inr ((FQ.c (show FQ [(93, 0), (93, 2), (94, 9999)] σ τ from k3) 5 rfl).trans h))⟩
theorem ok_person (a b c : Int32) : mOK 1 168 [.int a, .int b, .int c] := by
  intro σ hB hp
  have key : ∀ (τ : pm_S), FQ [(93, 0), (93, 5), (96, 9999), (97, 9999), (98, 9999), (99, 9999)] σ τ → sPP τ → mP τ := fun τ hF hs =>
    ⟨⟨pPP.fr _ rfl rfl rfl rfl rfl rfl rfl rfl hF hp.1.1, hs⟩, mP_img (hF.c 64 rfl) (fun i => hF 133 i rfl) hp⟩
  have g2 : 0 ≤ cI σ 2 ∧ cI σ 2 ≤ 10 := hB 93 2 (by decide)
  by_cases h : 1 ≤ cI σ 2
  · refine (se_128_ok σ _ hB (show an_sargs [.ref 93, .int a, .int b, .int c] se_128.2.2.1 from ⟨rfl, a0 a, a0 b, a0 c, trivial⟩) (fun q hq => absurd hq List.not_mem_nil)).use (by decide) (fun r τ hr => ?_)
    obtain ⟨k1, k2, k3, k4⟩ := hr
    have F : FQ [(93, 0), (93, 5), (96, 9999), (97, 9999), (98, 9999), (99, 9999)] σ τ := k3
    exact ⟨shI k2, k1, key τ F (Or.inl (by rw [F.c 2 rfl]; exact h))⟩
  · have h5 : cI σ 5 = 0 := hp.1.2.resolve_left h
    refine (sx_person_ok σ _ hB (show an_sargs [.ref 93, .int a, .int b, .int c] sx_person.2.2.1 from ⟨rfl, a0 a, a0 b, a0 c, trivial⟩) (fun q hq => ?_)).use (by decide) (fun r τ hr => ?_)
    · rcases List.mem_cons.mp hq with rfl | hq
      · show (0 : Int) ≤ cI σ 2 ∧ cI σ 2 ≤ 0
        omega
      · rcases List.mem_cons.mp hq with rfl | hq
        · show (0 : Int) ≤ cI σ 5 ∧ cI σ 5 ≤ 0
          omega
        · exact absurd hq List.not_mem_nil
    · obtain ⟨k1, k2, k3, k4⟩ := hr
      have z : 0 ≤ cI τ 5 ∧ cI τ 5 ≤ 0 := k4 _ List.mem_cons_self
      have F : FQ [(93, 0), (93, 5), (96, 9999), (97, 9999), (98, 9999), (99, 9999)] σ τ := FQ.up (G := sx_person.2.2.2.2.2.1) rfl k3
      exact ⟨shI k2, k1, key τ F (Or.inr (by omega))⟩
theorem ok_debt (a b c d : Int32) : mOK 1 169 [.int a, .int b, .int c, .int d] := by
  intro σ hB hp
  refine Sp.use (D := 21) (Q := fun r τ => an_sh 1 r ∧ an_GB pm_B τ ∧ mP τ) ?_ (by decide) (fun r τ h => h)
  have fr0 : ∀ τ, FQ [(93, 0)] σ τ → mP τ := fun τ hF => mP.fr _ rfl rfl rfl rfl rfl rfl rfl rfl rfl rfl rfl rfl hF hp
  refine Sp.at rfl rfl ?_
  show Ok 169 21 0 [.ref 93, .int a, .int b, .int c, .int d] [] σ _
  rw [← oI a, ← oI b, ← oI c, ← oI d]
  refine sg_db0 a.toInt b.toInt c.toInt d.toInt hB ⟨ai_rng a, ai_rng b, ai_rng c, ai_rng d, trivial⟩ ?_ ?_
  · intro τ y hB1 hF1 _ _ _ _
    exact ⟨⟨_, rfl⟩, hB1, fr0 τ hF1⟩
  · intro τ y hB1 hF1 f _ _ _
    have gD : 0 ≤ cI τ 11 ∧ cI τ 11 ≤ 30 := hB1 93 11 (by decide)
    have e11 : cI τ 11 = cI σ 11 := hF1.c 11 rfl
    refine Ok.ic rfl rfl (by omega) (by omega) (by omega) (by omega) (fun h => ?_) (fun h => ?_)
    · refine sg_db28 _ _ _ _ rfl rfl rfl rfl hB1 ?_
      intro τ2 y2 hB2 hF2 _ _ _ _
      exact ⟨⟨_, rfl⟩, hB2, fr0 τ2 (hF1.tr (FQ.up (G := []) rfl hF2))⟩
    · have h : a.toInt ≠ b.toInt := h
      refine sg_db14 a.toInt b.toInt c.toInt d.toInt (cI τ 11) hB1 ⟨by omega, by omega, ai_rng c, ai_rng d, gD, trivial⟩ ⟨rfl, trivial⟩ ?_ ?_
      · intro τ2 y2 hB2 hF2 _ _ _ _
        exact ⟨⟨_, rfl⟩, hB2, fr0 τ2 (hF1.tr (FQ.up (G := []) rfl hF2))⟩
      · intro τ2 y2 hB2 hF2 f2 _ _ _
        have F2 : FQ [(93, 0)] σ τ2 := hF1.tr (FQ.up (G := []) rfl hF2)
        refine Ok.ast (n := 30) rfl rfl rfl (by decide) (by omega) (by omega) ?_
        have ea : (Int32.ofInt a.toInt).toInt = a.toInt := ti_of (ai_rng a).1 (ai_rng a).2
        have eb : (Int32.ofInt b.toInt).toInt = b.toInt := ti_of (ai_rng b).1 (ai_rng b).2
        have hB3 : an_GB pm_B (put τ2 101 (cI τ 11).toNat (Int32.ofInt a.toInt)) := put_GB hB2 (by
          show (0 : Int) ≤ (Int32.ofInt a.toInt).toInt ∧ (Int32.ofInt a.toInt).toInt ≤ 9
          omega)
        refine sg_db36 a.toInt b.toInt c.toInt d.toInt (cI τ 11) hB3 ⟨by omega, by omega, by omega, by omega, by omega, trivial⟩ ⟨by rw [put_nr (by decide)]; exact hF2.c 11 rfl, trivial⟩ ?_
        intro τ4 y4 hB4 hF4 _ _ _ _
        refine Ok.ast (n := 30) rfl rfl rfl (by decide) (by omega) (by omega) ?_
        have hB5 : an_GB pm_B (put τ4 102 (cI τ 11).toNat (Int32.ofInt b.toInt)) := put_GB hB4 (by
          show (0 : Int) ≤ (Int32.ofInt b.toInt).toInt ∧ (Int32.ofInt b.toInt).toInt ≤ 9
          omega)
        refine sg_db42 a.toInt b.toInt c.toInt d.toInt (cI τ 11) hB5 ⟨by omega, by omega, by omega, by omega, by omega, trivial⟩ ⟨by rw [put_nr (by decide), hF4 93 11 rfl, put_nr (by decide)]; exact hF2.c 11 rfl, trivial⟩ ?_
        intro τ6 y6 hB6 hF6 _ _ _ c6
        have r101 : ∀ j, τ6.1 101 j = if j = (cI τ 11).toNat then Int32.ofInt a.toInt else σ.1 101 j := fun j => by
          rw [hF6 101 j rfl, put_nr (by decide), hF4 101 j rfl, put_get, F2 101 j rfl]
          by_cases e : j = (cI τ 11).toNat
          · rw [if_pos ⟨rfl, e⟩, if_pos e]
          · rw [if_neg (fun z => e z.2), if_neg e]
        have r102 : ∀ j, τ6.1 102 j = if j = (cI τ 11).toNat then Int32.ofInt b.toInt else σ.1 102 j := fun j => by
          rw [hF6 102 j rfl, put_get, hF4 102 j rfl, put_nr (by decide), F2 102 j rfl]
          by_cases e : j = (cI τ 11).toNat
          · rw [if_pos ⟨rfl, e⟩, if_pos e]
          · rw [if_neg (fun z => e z.2), if_neg e]
        have F6 : FQ [(93, 0), (101, 9999), (102, 9999), (93, 11), (103, 9999), (104, 9999), (105, 9999), (106, 9999), (107, 9999)] σ τ6 := FQ.tr (FQ.tr (FQ.tr (FQ.tr (F2.up rfl) (FQ.put rfl)) (FQ.up (G := []) rfl hF4)) (FQ.put rfl)) (FQ.up (G := [(93, 11), (103, 9999), (104, 9999), (105, 9999), (106, 9999), (107, 9999)]) rfl hF6)
        refine ⟨⟨_, rfl⟩, hB6, ⟨⟨lwW.fr _ rfl rfl rfl rfl rfl F6 hp.1.1.1, fun k hk => ?_⟩, ?_⟩, mP_img (F6.c 64 rfl) (fun i => F6 133 i rfl) hp⟩
        · rw [r101, r102]
          have c6' : cI τ6 11 = cI τ 11 + 1 := c6.1
          by_cases e : k = (cI τ 11).toNat
          · rw [if_pos e, if_pos e, ea, eb]
            exact h
          · rw [if_neg e, if_neg e]
            exact hp.1.1.2 k (by omega)
        · unfold sPP
          rw [F6.c 2 rfl, F6.c 5 rfl]
          exact hp.1.2
theorem ok_text : mOK 1 195 [] := by
  intro σ hB hp
  refine (m_text hB).use (by decide) (fun r τ q => ?_)
  obtain ⟨q1, q2, F, q4⟩ := q
  refine ⟨q1, q2, ⟨⟨q4 hp.1.1.1, unl.fr FTX rfl rfl rfl F hp.1.1.2⟩, ?_⟩, mP_img (F.c 64 rfl) (fun i => F 133 i rfl) hp⟩
  unfold sPP
  rw [F.c 2 rfl, F.c 5 rfl]
  exact hp.1.2
theorem ok_first (a b : Int32) : mOK 1 223 [.int a, .int b] := by
  intro σ hB hp
  rw [← oI a, ← oI b]
  refine (m_first hB a.toInt b.toInt (ai_rng a) (ai_rng b)).use (by decide) (fun r τ q => ?_)
  obtain ⟨q1, q2, F⟩ := q
  exact ⟨q1, q2, mP.fr FFf rfl rfl rfl rfl rfl rfl rfl rfl rfl rfl rfl rfl F hp⟩
theorem ok_wrong (a : Int32) : mOK 1 241 [.int a] := by
  intro σ hB hp
  rcases hp.1.2 with h | h
  · have g2 : 0 ≤ cI σ 2 ∧ cI σ 2 ≤ 10 := hB 93 2 (by decide)
    refine (se_98_ok σ _ hB (show an_sargs [.ref 93, .int a] se_98.2.2.1 from ⟨rfl, a0 a, trivial⟩) (fun q hq => ?_)).use (by decide) (fun r τ hr => ?_)
    · rcases List.mem_cons.mp hq with rfl | hq
      · exact ⟨h, g2.2⟩
      · exact absurd hq List.not_mem_nil
    · obtain ⟨k1, k2, k3, k4⟩ := hr
      exact ⟨shI k2, k1, mP.fr se_98.2.2.2.2.2.1 rfl rfl rfl rfl rfl rfl rfl rfl rfl rfl rfl rfl k3 hp⟩
  · refine (se_99_ok σ _ hB (show an_sargs [.ref 93, .int a] se_99.2.2.1 from ⟨rfl, a0 a, trivial⟩) (fun q hq => ?_)).use (by decide) (fun r τ hr => ?_)
    · rcases List.mem_cons.mp hq with rfl | hq
      · show (0 : Int) ≤ cI σ 5 ∧ cI σ 5 ≤ 0
        omega
      · exact absurd hq List.not_mem_nil
    · obtain ⟨k1, k2, k3, k4⟩ := hr
      exact ⟨shI k2, k1, mP.fr se_99.2.2.2.2.2.1 rfl rfl rfl rfl rfl rfl rfl rfl rfl rfl rfl rfl k3 hp⟩
set_option maxRecDepth 100000 in
theorem psR : (∀ j, j < 30 → qsI (251 + 7 * j) = (101, j) ∧ 251 + 7 * j < 1431) ∧ (∀ j, j < 30 → qsI (252 + 7 * j) = (102, j) ∧ 252 + 7 * j < 1431) ∧ (∀ j, j < 16 → qsI (584 + 3 * j) = (117, j) ∧ 584 + 3 * j < 1431) ∧ (∀ j, j < 16 → qsI (585 + 3 * j) = (118, j) ∧ 585 + 3 * j < 1431) ∧ (∀ j, j < 400 → qsI (631 + 2 * j) = (119, j) ∧ 631 + 2 * j < 1431) ∧ (∀ j, j < 400 → qsI (632 + 2 * j) = (120, j) ∧ 632 + 2 * j < 1431) := by decide +kernel
/-- a state and an image of it say the same -/
theorem p0_img {σ τ : pm_S} (hB : an_GB pm_B τ) (h : ∀ i, i < 1431 → qsV τ i = σ.1 133 i) : (p0P (imgS σ) → p0P τ) ∧ (p0P τ → p0P (imgS σ)) := by
  obtain ⟨a1, a2, a3, a4, a5, a6⟩ := psR
  have cell : ∀ i p j, i < 1431 → qsI i = (p, j) → psI p j = some i → τ.1 p j = (imgS σ).1 p j := by
    intro i p j hi hq hs
    have := h i hi
    unfold qsV at this
    rw [hq] at this
    show _ = (match psI p j with
      | some i => σ.1 133 i
      | none => 0)
    rw [hs]
    exact this
  have e36 : τ.1 93 36 = (imgS σ).1 93 36 := cell 582 93 36 (by decide) rfl rfl
  have e11 : τ.1 93 11 = (imgS σ).1 93 11 := cell 250 93 11 (by decide) rfl rfl
  have e2 : τ.1 93 2 = (imgS σ).1 93 2 := cell 1 93 2 (by decide) rfl rfl
  have e5 : τ.1 93 5 = (imgS σ).1 93 5 := cell 192 93 5 (by decide) rfl rfl
  have g36 : 0 ≤ cI τ 36 ∧ cI τ 36 ≤ 16 := hB 93 36 (by decide)
  have g11 : 0 ≤ cI τ 11 ∧ cI τ 11 ≤ 30 := hB 93 11 (by decide)
  have c36 : cI τ 36 = cI (imgS σ) 36 := congrArg Int32.toInt e36
  have c11 : cI τ 11 = cI (imgS σ) 11 := congrArg Int32.toInt e11
  have c2 : cI τ 2 = cI (imgS σ) 2 := congrArg Int32.toInt e2
  have c5 : cI τ 5 = cI (imgS σ) 5 := congrArg Int32.toInt e5
  have r1 : ∀ j : Nat, j < 30 → τ.1 101 j = (imgS σ).1 101 j ∧ τ.1 102 j = (imgS σ).1 102 j := fun j hj => ⟨cell _ 101 j (a1 j hj).2 (a1 j hj).1 rfl, cell _ 102 j (a2 j hj).2 (a2 j hj).1 rfl⟩
  have r2 : ∀ j : Nat, j < 16 → τ.1 117 j = (imgS σ).1 117 j ∧ τ.1 118 j = (imgS σ).1 118 j := fun j hj => ⟨cell _ 117 j (a3 j hj).2 (a3 j hj).1 rfl, cell _ 118 j (a4 j hj).2 (a4 j hj).1 rfl⟩
  have r3 : ∀ j : Nat, j < 400 → τ.1 119 j = (imgS σ).1 119 j ∧ τ.1 120 j = (imgS σ).1 120 j := fun j hj => ⟨cell _ 119 j (a5 j hj).2 (a5 j hj).1 rfl, cell _ 120 j (a6 j hj).2 (a6 j hj).1 rfl⟩
  refine ⟨fun q => p0_of (by omega) (by omega) c36 c11 c2 c5 r1 r2 r3 q, fun q => p0_of g36.2 g11.2 c36.symm c11.symm c2.symm c5.symm (fun j hj => ⟨(r1 j hj).1.symm, (r1 j hj).2.symm⟩) (fun j hj => ⟨(r2 j hj).1.symm, (r2 j hj).2.symm⟩) (fun j hj => ⟨(r3 j hj).1.symm, (r3 j hj).2.symm⟩) q⟩
theorem ok_image (w : Int32) (hw : w = 0 ∨ w = 1) : mOK 1 245 [.int w] := by
  intro σ hB hp
  have ht : w.toInt = 0 ∨ w.toInt = 1 := by
    rcases hw with rfl | rfl
    · exact Or.inl rfl
    · exact Or.inr rfl
  rw [← oI w]
  refine (m_image hB hp.2.1 w.toInt ht).use (by decide) (fun r τ q => ?_)
  obtain ⟨q1, q2⟩ := q
  rcases q2 with ⟨k1, F, k3, -⟩ | ⟨h64, σ1, hB1, F1, hI, -⟩
  · refine ⟨q1, k1, ?_⟩
    have F0 : FQ [(93, 0), (93, 63), (93, 65), (93, 64)] σ τ := F.up rfl
    refine ⟨⟨pPP.fr FIm rfl rfl rfl rfl rfl rfl rfl rfl F hp.1.1, ?_⟩, mP_img k3 (fun i => F 133 i rfl) hp⟩
    unfold sPP
    rw [F.c 2 rfl, F.c 5 rfl]
    exact hp.1.2
  · obtain ⟨hBt, i65, i63, i64, hall, -⟩ := hI
    refine ⟨q1, hBt, ?_⟩
    have hv : ∀ i, i < 1431 → qsV τ i = vI σ1 w.toInt i ∧ τ.1 133 i = vI σ1 w.toInt i := fun i hi => (hall i hi).1 hi
    have same : ∀ i, i < 1431 → qsV τ i = τ.1 133 i := fun i hi => (hv i hi).1.trans (hv i hi).2.symm
    have himg := p0_img hBt same
    -- what the state is that both come from
    have p1 : p0P σ1 := by
      refine ⟨pPP.fr FIm rfl rfl rfl rfl rfl rfl rfl rfl F1 hp.1.1, ?_⟩
      unfold sPP
      rw [F1.c 2 rfl, F1.c 5 rfl]
      exact hp.1.2
    have pt : p0P τ := by
      rcases ht with e | e
      · have h1 : cI σ 64 = 1 := h64.resolve_left (by omega)
        have e1 : imgS σ1 = imgS σ := imgS_e (fun i => F1 133 i rfl)
        refine (p0_img (σ := σ1) hBt (fun i hi => ?_)).1 (by rw [e1]; exact hp.2.2 h1)
        rw [(hv i hi).1]
        exact if_neg (by omega)
      · have a : ∀ i p j, i < 1431 → qsI i = (p, j) → τ.1 p j = σ1.1 p j := fun i p j hi hq => by
          have := (hv i hi).1
          unfold qsV at this
          rw [hq] at this
          rw [this]
          have : vI σ1 w.toInt i = qsV σ1 i := if_pos e
          rw [this]
          unfold qsV
          rw [hq]
        obtain ⟨a1, a2, a3, a4, a5, a6⟩ := psR
        have g36 : 0 ≤ cI σ1 36 ∧ cI σ1 36 ≤ 16 := hB1 93 36 (by decide)
        have g11 : 0 ≤ cI σ1 11 ∧ cI σ1 11 ≤ 30 := hB1 93 11 (by decide)
        exact p0_of g36.2 g11.2 (congrArg Int32.toInt (a 582 93 36 (by decide) rfl)) (congrArg Int32.toInt (a 250 93 11 (by decide) rfl)) (congrArg Int32.toInt (a 1 93 2 (by decide) rfl)) (congrArg Int32.toInt (a 192 93 5 (by decide) rfl)) (fun j hj => ⟨a _ 101 j (a1 j hj).2 (a1 j hj).1, a _ 102 j (a2 j hj).2 (a2 j hj).1⟩) (fun j hj => ⟨a _ 117 j (a3 j hj).2 (a3 j hj).1, a _ 118 j (a4 j hj).2 (a4 j hj).1⟩) (fun j hj => ⟨a _ 119 j (a5 j hj).2 (a5 j hj).1, a _ 120 j (a6 j hj).2 (a6 j hj).1⟩) p1
    refine ⟨pt, fun _ i hi => ?_, fun _ => himg.2 pt⟩
    rw [← same i hi]
    exact hBt _ _ (qs_len i hi)
