/-! keys: cells that both sides hold alike -/
abbrev KY : Type := List (Nat × Nat × Nat × Nat)
def KE (K : KY) (σ : pm_S) : Prop := ∀ q ∈ K, σ.1 q.1 q.2.1 = σ.1 q.2.2.1 q.2.2.2
def KX (K : KY) (σ τ : pm_S) : Prop := ∀ q ∈ K, τ.1 q.1 q.2.1 = σ.1 q.1 q.2.1 ∧ τ.1 q.2.2.1 q.2.2.2 = σ.1 q.2.2.1 q.2.2.2
def KC (K : KY) (G : List (Nat × Nat)) : Bool := K.all (fun q => !an_inF G q.1 q.2.1 && !an_inF G q.2.2.1 q.2.2.2)
theorem KX.of {K : KY} {G : List (Nat × Nat)} {σ τ : pm_S} (h : KC K G = true) (hF : FQ G σ τ) : KX K σ τ := fun q hq => by
  have h1 := List.all_eq_true.mp h q hq
  rw [Bool.and_eq_true, Bool.not_eq_true', Bool.not_eq_true'] at h1
  exact ⟨hF _ _ h1.1, hF _ _ h1.2⟩
theorem KX.ke {K : KY} {σ τ : pm_S} (h : KX K σ τ) (he : KE K σ) : KE K τ := fun q hq => by
  rw [(h q hq).1, (h q hq).2]
  exact he q hq
abbrev IK (K : KY) : pm_S → Prop := fun σ => an_GB pm_B σ ∧ mP σ ∧ KE K σ
/-- the model's side of a call that touches no key -/
abbrev mKX (K : KY) (t kM : Nat) (as : List Value) : Prop := ∀ σ, an_GB pm_B σ → mP σ → Sp kM 1200 (.ref 93 :: as) σ (fun r τ => an_sh t r ∧ an_GB pm_B τ ∧ mP τ ∧ KX K σ τ)
/-- a call that touches no key -/
theorem two_K {K : KY} {t kM : Nat} {eC : an_S} (hC : an_sok pm_B eC) (hD : eC.2.1 ≤ 1200) (hc : eC.2.2.2.1 = []) (hf : eC.2.2.2.2.2.1.all (fun q => Nat.ble q.1 92) = true) (ht : (match t with
    | 1 => eC.2.2.2.2.1.1 = 1
    | _ => eC.2.2.2.2.1.1 = 4)) (hk : KC K eC.2.2.2.2.2.1 = true) {as : List Value} (has : an_sargs (.ref 0 :: as) eC.2.2.1) (hM : mKX K t kM as) : Two t false (IK K) (IK K) eC.1 kM as := by
  intro σ hI
  refine (hC σ _ hI.1 has (by rw [hc]; exact fun q hq => absurd hq List.not_mem_nil)).use hD (fun r τ hr => ?_)
  obtain ⟨k1, k2, k3, -⟩ := hr
  have hPτ : mP τ := mP93 σ τ (fun p j hp => k3 p j (an_foot93 hf hp)) hI.2.1
  have hE : KE K τ := (KX.of hk k3).ke hI.2.2
  refine ⟨?_, (hM τ k1 hPτ).mono (fun r' τ' h' => ⟨h'.1, fun z => absurd z (by decide), h'.2.1, h'.2.2.1, h'.2.2.2.ke hE⟩)⟩
  unfold an_spost at k2
  unfold an_sh
  split at ht
  · rw [ht] at k2
    obtain ⟨w, e, -⟩ := k2
    exact ⟨w, e⟩
  · rename_i g
    rw [ht] at k2
    obtain ⟨w, e⟩ := k2
    split
    · exact absurd rfl g
    · exact ⟨w, e⟩
/-- the model by a summary -/
theorem mKX_S {K : KY} {eM : an_S} (hM : an_sok pm_B eM) (hD : eM.2.1 ≤ 1200) (hc : eM.2.2.2.1 = []) (hP : ∀ σ τ : pm_S, FQ eM.2.2.2.2.2.1 σ τ → mP σ → mP τ) (ht : eM.2.2.2.2.1.1 = 1) (hk : KC K eM.2.2.2.2.2.1 = true) {as : List Value} (has : an_sargs (.ref 93 :: as) eM.2.2.1) : mKX K 1 eM.1 as := by
  intro σ hB hp
  refine (hM σ _ hB has (by rw [hc]; exact fun q hq => absurd hq List.not_mem_nil)).use hD (fun r τ hr => ?_)
  obtain ⟨k1, k2, k3, -⟩ := hr
  refine ⟨?_, k1, hP σ τ k3 hp, KX.of hk k3⟩
  unfold an_spost at k2
  rw [ht] at k2
  obtain ⟨w, e, -⟩ := k2
  exact ⟨w, e⟩
/-- the model by a summary under the condition -/
theorem mKX_P {K : KY} {e : an_S} {q : Int × Int} (hM : an_sokP pPP pm_B e) (hD : e.2.1 ≤ 1200) (hc : e.2.2.2.1 = []) (ht : e.2.2.2.2.1 = (1, q)) (hP : ∀ σ τ : pm_S, FQ e.2.2.2.2.2.1 σ τ → mP σ → mP τ) (hk : KC K e.2.2.2.2.2.1 = true) {as : List Value} (has : an_sargs (.ref 93 :: as) e.2.2.1) : mKX K 1 e.1 as := by
  intro σ hB hp
  refine (hM σ _ hB hp.1.1 has (by rw [hc]; exact fun q hq => absurd hq List.not_mem_nil)).use hD (fun r τ hr => ?_)
  obtain ⟨k1, k2, k3, -⟩ := hr
  rw [ht] at k2
  exact ⟨shI k2, k1, hP σ τ k3 hp, KX.of hk k3⟩
theorem kx_spot {K : KY} (hk : KC K [(93, 0), (93, 2), (94, 9999)] = true) (a : Int32) : mKX K 1 166 [.int a] := by
  intro σ hB hp
  have key : ∀ (τ : pm_S), FQ [(93, 0), (93, 2), (94, 9999)] σ τ → sPP τ → mP τ := fun τ hF hs =>
    ⟨⟨pPP.fr _ rfl rfl rfl rfl rfl rfl rfl rfl hF hp.1.1, hs⟩, mP_img (hF.c 64 rfl) (fun i => hF 133 i rfl) hp⟩
  rcases hp.1.2 with h | h
  · have g2 : 0 ≤ cI σ 2 ∧ cI σ 2 ≤ 10 := hB 93 2 (by decide)
    refine (sx_spot_ok σ _ hB (show an_sargs [.ref 93, .int a] sx_spot.2.2.1 from ⟨rfl, a0 a, trivial⟩) (fun q hq => ?_)).use (by decide) (fun r τ hr => ?_)
    · rcases List.mem_cons.mp hq with rfl | hq
      · exact ⟨h, g2.2⟩
      · exact absurd hq List.not_mem_nil
    · obtain ⟨k1, k2, k3, k4⟩ := hr
      refine ⟨shI k2, k1, key τ k3 (Or.inl ?_), KX.of hk k3⟩
      exact (k4 _ List.mem_cons_self).1
  · refine (se_126_ok σ _ hB (show an_sargs [.ref 93, .int a] se_126.2.2.1 from ⟨rfl, a0 a, trivial⟩) (fun q hq => absurd hq List.not_mem_nil)).use (by decide) (fun r τ hr => ?_)
    obtain ⟨k1, k2, k3, k4⟩ := hr
    exact ⟨shI k2, k1, key τ k3 (Or.inr ((FQ.c (show FQ [(93, 0), (93, 2), (94, 9999)] σ τ from k3) 5 rfl).trans h)), KX.of hk k3⟩
theorem kx_person {K : KY} (hk : KC K [(93, 0), (93, 5), (96, 9999), (97, 9999), (98, 9999), (99, 9999)] = true) (a b c : Int32) : mKX K 1 168 [.int a, .int b, .int c] := by
  intro σ hB hp
  have key : ∀ (τ : pm_S), FQ [(93, 0), (93, 5), (96, 9999), (97, 9999), (98, 9999), (99, 9999)] σ τ → sPP τ → mP τ := fun τ hF hs =>
    ⟨⟨pPP.fr _ rfl rfl rfl rfl rfl rfl rfl rfl hF hp.1.1, hs⟩, mP_img (hF.c 64 rfl) (fun i => hF 133 i rfl) hp⟩
  have g2 : 0 ≤ cI σ 2 ∧ cI σ 2 ≤ 10 := hB 93 2 (by decide)
  by_cases h : 1 ≤ cI σ 2
  · refine (se_128_ok σ _ hB (show an_sargs [.ref 93, .int a, .int b, .int c] se_128.2.2.1 from ⟨rfl, a0 a, a0 b, a0 c, trivial⟩) (fun q hq => absurd hq List.not_mem_nil)).use (by decide) (fun r τ hr => ?_)
    obtain ⟨k1, k2, k3, k4⟩ := hr
    have F : FQ [(93, 0), (93, 5), (96, 9999), (97, 9999), (98, 9999), (99, 9999)] σ τ := k3
    exact ⟨shI k2, k1, key τ F (Or.inl (by rw [F.c 2 rfl]; exact h)), KX.of hk F⟩
  · have h5 : cI σ 5 = 0 := hp.1.2.resolve_left h
    refine (sx_person_ok σ _ hB (show an_sargs [.ref 93, .int a, .int b, .int c] sx_person.2.2.1 from ⟨rfl, a0 a, a0 b, a0 c, trivial⟩) (fun q hq => ?_)).use (by decide) (fun r τ hr => ?_)
    · rcases List.mem_cons.mp hq with rfl | hq
      · show (0 : Int) ≤ cI σ 2 ∧ cI σ 2 ≤ 0
        omega
      · rcases List.mem_cons.mp hq with rfl | hq
        · show (0 : Int) ≤ cI σ 5 ∧ cI σ 5 ≤ 0
          omega
        · exact absurd hq List.not_mem_nil
    · obtain ⟨k1, k2, k3, k4⟩ := hr
      have z : 0 ≤ cI τ 5 ∧ cI τ 5 ≤ 0 := k4 _ List.mem_cons_self
      have F : FQ [(93, 0), (93, 5), (96, 9999), (97, 9999), (98, 9999), (99, 9999)] σ τ := FQ.up (G := sx_person.2.2.2.2.2.1) rfl k3
      exact ⟨shI k2, k1, key τ F (Or.inr (by omega)), KX.of hk F⟩
theorem kx_debt {K : KY} (hk : KC K [(93, 0), (101, 9999), (102, 9999), (93, 11), (103, 9999), (104, 9999), (105, 9999), (106, 9999), (107, 9999)] = true) (a b c d : Int32) : mKX K 1 169 [.int a, .int b, .int c, .int d] := by
  intro σ hB hp
  refine Sp.use (D := 21) (Q := fun r τ => an_sh 1 r ∧ an_GB pm_B τ ∧ mP τ ∧ KX K σ τ) ?_ (by decide) (fun r τ h => h)
  have fr0 : ∀ τ, FQ [(93, 0)] σ τ → mP τ := fun τ hF => mP.fr _ rfl rfl rfl rfl rfl rfl rfl rfl rfl rfl rfl rfl hF hp
  have kx0 : ∀ τ, FQ [(93, 0)] σ τ → KX K σ τ := fun τ hF => KX.of hk (FQ.up (G := [(93, 0)]) rfl hF)
  refine Sp.at rfl rfl ?_
  show Ok 169 21 0 [.ref 93, .int a, .int b, .int c, .int d] [] σ _
  rw [← oI a, ← oI b, ← oI c, ← oI d]
  refine sg_db0 a.toInt b.toInt c.toInt d.toInt hB ⟨ai_rng a, ai_rng b, ai_rng c, ai_rng d, trivial⟩ ?_ ?_
  · intro τ y hB1 hF1 _ _ _ _
    exact ⟨⟨_, rfl⟩, hB1, fr0 τ hF1, kx0 τ hF1⟩
  · intro τ y hB1 hF1 f _ _ _
    have gD : 0 ≤ cI τ 11 ∧ cI τ 11 ≤ 30 := hB1 93 11 (by decide)
    have e11 : cI τ 11 = cI σ 11 := hF1.c 11 rfl
    refine Ok.ic rfl rfl (by omega) (by omega) (by omega) (by omega) (fun h => ?_) (fun h => ?_)
    · refine sg_db28 _ _ _ _ rfl rfl rfl rfl hB1 ?_
      intro τ2 y2 hB2 hF2 _ _ _ _
      exact ⟨⟨_, rfl⟩, hB2, fr0 τ2 (hF1.tr (FQ.up (G := []) rfl hF2)), kx0 τ2 (hF1.tr (FQ.up (G := []) rfl hF2))⟩
    · have h : a.toInt ≠ b.toInt := h
      refine sg_db14 a.toInt b.toInt c.toInt d.toInt (cI τ 11) hB1 ⟨by omega, by omega, ai_rng c, ai_rng d, gD, trivial⟩ ⟨rfl, trivial⟩ ?_ ?_
      · intro τ2 y2 hB2 hF2 _ _ _ _
        exact ⟨⟨_, rfl⟩, hB2, fr0 τ2 (hF1.tr (FQ.up (G := []) rfl hF2)), kx0 τ2 (hF1.tr (FQ.up (G := []) rfl hF2))⟩
      · intro τ2 y2 hB2 hF2 f2 _ _ _
        have F2 : FQ [(93, 0)] σ τ2 := hF1.tr (FQ.up (G := []) rfl hF2)
        refine Ok.ast (n := 30) rfl rfl rfl (by decide) (by omega) (by omega) ?_
        have ea : (Int32.ofInt a.toInt).toInt = a.toInt := ti_of (ai_rng a).1 (ai_rng a).2
        have eb : (Int32.ofInt b.toInt).toInt = b.toInt := ti_of (ai_rng b).1 (ai_rng b).2
        have hB3 : an_GB pm_B (put τ2 101 (cI τ 11).toNat (Int32.ofInt a.toInt)) := put_GB hB2 (by
          show (0 : Int) ≤ (Int32.ofInt a.toInt).toInt ∧ (Int32.ofInt a.toInt).toInt ≤ 9
          omega)
        refine sg_db36 a.toInt b.toInt c.toInt d.toInt (cI τ 11) hB3 ⟨by omega, by omega, by omega, by omega, by omega, trivial⟩ ⟨by rw [put_nr (by decide)]; exact hF2.c 11 rfl, trivial⟩ ?_
        intro τ4 y4 hB4 hF4 _ _ _ _
        refine Ok.ast (n := 30) rfl rfl rfl (by decide) (by omega) (by omega) ?_
        have hB5 : an_GB pm_B (put τ4 102 (cI τ 11).toNat (Int32.ofInt b.toInt)) := put_GB hB4 (by
          show (0 : Int) ≤ (Int32.ofInt b.toInt).toInt ∧ (Int32.ofInt b.toInt).toInt ≤ 9
          omega)
        refine sg_db42 a.toInt b.toInt c.toInt d.toInt (cI τ 11) hB5 ⟨by omega, by omega, by omega, by omega, by omega, trivial⟩ ⟨by rw [put_nr (by decide), hF4 93 11 rfl, put_nr (by decide)]; exact hF2.c 11 rfl, trivial⟩ ?_
        intro τ6 y6 hB6 hF6 _ _ _ c6
        have r101 : ∀ j, τ6.1 101 j = if j = (cI τ 11).toNat then Int32.ofInt a.toInt else σ.1 101 j := fun j => by
          rw [hF6 101 j rfl, put_nr (by decide), hF4 101 j rfl, put_get, F2 101 j rfl]
          by_cases e : j = (cI τ 11).toNat
          · rw [if_pos ⟨rfl, e⟩, if_pos e]
          · rw [if_neg (fun z => e z.2), if_neg e]
        have r102 : ∀ j, τ6.1 102 j = if j = (cI τ 11).toNat then Int32.ofInt b.toInt else σ.1 102 j := fun j => by
          rw [hF6 102 j rfl, put_get, hF4 102 j rfl, put_nr (by decide), F2 102 j rfl]
          by_cases e : j = (cI τ 11).toNat
          · rw [if_pos ⟨rfl, e⟩, if_pos e]
          · rw [if_neg (fun z => e z.2), if_neg e]
        have F6 : FQ [(93, 0), (101, 9999), (102, 9999), (93, 11), (103, 9999), (104, 9999), (105, 9999), (106, 9999), (107, 9999)] σ τ6 := FQ.tr (FQ.tr (FQ.tr (FQ.tr (F2.up rfl) (FQ.put rfl)) (FQ.up (G := []) rfl hF4)) (FQ.put rfl)) (FQ.up (G := [(93, 11), (103, 9999), (104, 9999), (105, 9999), (106, 9999), (107, 9999)]) rfl hF6)
        refine ⟨⟨_, rfl⟩, hB6, ⟨⟨⟨lwW.fr _ rfl rfl rfl rfl rfl F6 hp.1.1.1, fun k hk => ?_⟩, ?_⟩, mP_img (F6.c 64 rfl) (fun i => F6 133 i rfl) hp⟩, KX.of hk F6⟩
        · rw [r101, r102]
          have c6' : cI τ6 11 = cI τ 11 + 1 := c6.1
          by_cases e : k = (cI τ 11).toNat
          · rw [if_pos e, if_pos e, ea, eb]
            exact h
          · rw [if_neg e, if_neg e]
            exact hp.1.1.2 k (by omega)
        · unfold sPP
          rw [F6.c 2 rfl, F6.c 5 rfl]
          exact hp.1.2
theorem kx_first {K : KY} (hk : KC K FFf = true) (a b : Int32) : mKX K 1 223 [.int a, .int b] := by
  intro σ hB hp
  rw [← oI a, ← oI b]
  refine (m_first hB a.toInt b.toInt (ai_rng a) (ai_rng b)).use (by decide) (fun r τ q => ?_)
  obtain ⟨q1, q2, F⟩ := q
  exact ⟨q1, q2, mP.fr FFf rfl rfl rfl rfl rfl rfl rfl rfl rfl rfl rfl rfl F hp, KX.of hk F⟩
theorem kx_wrong {K : KY} (hk : KC K se_98.2.2.2.2.2.1 = true) (hk2 : KC K se_99.2.2.2.2.2.1 = true) (a : Int32) : mKX K 1 241 [.int a] := by
  intro σ hB hp
  rcases hp.1.2 with h | h
  · have g2 : 0 ≤ cI σ 2 ∧ cI σ 2 ≤ 10 := hB 93 2 (by decide)
    refine (se_98_ok σ _ hB (show an_sargs [.ref 93, .int a] se_98.2.2.1 from ⟨rfl, a0 a, trivial⟩) (fun q hq => ?_)).use (by decide) (fun r τ hr => ?_)
    · rcases List.mem_cons.mp hq with rfl | hq
      · exact ⟨h, g2.2⟩
      · exact absurd hq List.not_mem_nil
    · obtain ⟨k1, k2, k3, k4⟩ := hr
      exact ⟨shI k2, k1, mP.fr se_98.2.2.2.2.2.1 rfl rfl rfl rfl rfl rfl rfl rfl rfl rfl rfl rfl k3 hp, KX.of hk k3⟩
  · refine (se_99_ok σ _ hB (show an_sargs [.ref 93, .int a] se_99.2.2.1 from ⟨rfl, a0 a, trivial⟩) (fun q hq => ?_)).use (by decide) (fun r τ hr => ?_)
    · rcases List.mem_cons.mp hq with rfl | hq
      · show (0 : Int) ≤ cI σ 5 ∧ cI σ 5 ≤ 0
        omega
      · exact absurd hq List.not_mem_nil
    · obtain ⟨k1, k2, k3, k4⟩ := hr
      exact ⟨shI k2, k1, mP.fr se_99.2.2.2.2.2.1 rfl rfl rfl rfl rfl rfl rfl rfl rfl rfl rfl rfl k3 hp, KX.of hk2 k3⟩
theorem kx_waiting {K : KY} (hk : KC K FW = true) (a b c : Int32) : mKX K 2 238 [.int a, .int b, .int c] := by
  intro σ hB hp
  rw [← oI a, ← oI b, ← oI c]
  refine (m_wait hB (ai_rng a) (ai_rng b) (ai_rng c)).use (by decide) (fun r τ q => ?_)
  obtain ⟨⟨w, q1⟩, q2, F⟩ := q
  exact ⟨⟨w, q1⟩, q2, mP.fr FW rfl rfl rfl rfl rfl rfl rfl rfl rfl rfl rfl rfl F hp, KX.of hk F⟩
