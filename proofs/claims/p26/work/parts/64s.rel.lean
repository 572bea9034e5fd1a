/-! relations of the town and the state; the same of what is kept and the image -/
/-- t: the town by place and index; u: the state by its place in the image -/
abbrev RL : Type := (Nat → Nat → Int32) → (Nat → Int32) → Prop
abbrev tS (σ : pm_S) : Nat → Nat → Int32 := fun p j => σ.1 p j
abbrev tK (σ : pm_S) : Nat → Nat → Int32 := fun p j => σ.1 (p + 33) j
abbrev uS (σ : pm_S) : Nat → Int32 := fun i => σ.1 (qsI i).1 (qsI i).2
abbrev uK (σ : pm_S) : Nat → Int32 := fun i => σ.1 133 i
def ER (R : RL) (σ : pm_S) : Prop := σ.1 0 2 = σ.1 93 64 ∧ R (tS σ) (uS σ) ∧ R (tK σ) (uK σ)
abbrev IR (R : RL) : pm_S → Prop := fun σ => an_GB pm_B σ ∧ mP σ ∧ ER R σ
/-- a relation that looks at these cells alone -/
def RD (R : RL) (CT : List (Nat × Nat)) (CI : List Nat) : Prop := ∀ t t' u u', (∀ q ∈ CT, t' q.1 q.2 = t q.1 q.2) → (∀ i ∈ CI, u' i = u i) → R t u → R t' u'
def cR (CT : List (Nat × Nat)) (CI : List Nat) : KY := (0, 2, 93, 64) :: (CT.map (fun q => (q.1, q.2, q.1 + 33, q.2)) ++ CI.map (fun i => ((qsI i).1, (qsI i).2, 133, i)))
theorem ER.x {R : RL} {CT : List (Nat × Nat)} {CI : List Nat} (hR : RD R CT CI) : ∀ σ τ, KX (cR CT CI) σ τ → ER R σ → ER R τ := fun σ τ h hE => by
  have h0 := h (0, 2, 93, 64) List.mem_cons_self
  have h1 : ∀ q ∈ CT, τ.1 q.1 q.2 = σ.1 q.1 q.2 ∧ τ.1 (q.1 + 33) q.2 = σ.1 (q.1 + 33) q.2 := fun q hq => h (q.1, q.2, q.1 + 33, q.2) (List.mem_cons_of_mem _ (List.mem_append_left _ (List.mem_map.mpr ⟨q, hq, rfl⟩)))
  have h2 : ∀ i ∈ CI, τ.1 (qsI i).1 (qsI i).2 = σ.1 (qsI i).1 (qsI i).2 ∧ τ.1 133 i = σ.1 133 i := fun i hi => h ((qsI i).1, (qsI i).2, 133, i) (List.mem_cons_of_mem _ (List.mem_append_right _ (List.mem_map.mpr ⟨i, hi, rfl⟩)))
  refine ⟨?_, hR _ _ _ _ (fun q hq => (h1 q hq).1) (fun i hi => (h2 i hi).1) hE.2.1, hR _ _ _ _ (fun q hq => (h1 q hq).2) (fun i hi => (h2 i hi).2) hE.2.2⟩
  have a : τ.1 0 2 = σ.1 0 2 := h0.1
  have b : τ.1 93 64 = σ.1 93 64 := h0.2
  rw [a, b]
  exact hE.1
theorem two_R {R : RL} {CT : List (Nat × Nat)} {CI : List Nat} (hR : RD R CT CI) {K : KY} (hK : K = cR CT CI) {t kM : Nat} {eC : an_S} (hC : an_sok pm_B eC) (hD : eC.2.1 ≤ 1200) (hc : eC.2.2.2.1 = []) (hf : eC.2.2.2.2.2.1.all (fun q => Nat.ble q.1 92) = true) (ht : (match t with
    | 1 => eC.2.2.2.2.1.1 = 1
    | _ => eC.2.2.2.2.1.1 = 4)) (hk : KC K eC.2.2.2.2.2.1 = true) {as : List Value} (has : an_sargs (.ref 0 :: as) eC.2.2.1) (hM : mKX K t kM as) : Two t false (IR R) (IR R) eC.1 kM as := by
  subst hK
  intro σ hI
  refine (hC σ _ hI.1 has (by rw [hc]; exact fun q hq => absurd hq List.not_mem_nil)).use hD (fun r τ hr => ?_)
  obtain ⟨k1, k2, k3, -⟩ := hr
  have hPτ : mP τ := mP93 σ τ (fun p j hp => k3 p j (an_foot93 hf hp)) hI.2.1
  have hE1 : ER R τ := ER.x hR _ _ (KX.of hk k3) hI.2.2
  refine ⟨?_, (hM τ k1 hPτ).mono (fun r' τ' h' => ⟨h'.1, fun z => absurd z (by decide), h'.2.1, h'.2.2.1, ER.x hR _ _ h'.2.2.2 hE1⟩)⟩
  unfold an_spost at k2
  unfold an_sh
  split at ht
  · rw [ht] at k2
    obtain ⟨w, e, -⟩ := k2
    exact ⟨w, e⟩
  · rename_i g
    rw [ht] at k2
    obtain ⟨w, e⟩ := k2
    split
    · exact absurd rfl g
    · exact ⟨w, e⟩
theorem tR_image {R : RL} {CT : List (Nat × Nat)} {CI : List Nat} (hR : RD R CT CI) (hT : CT.all (fun q => isT q.1 q.2) = true) (hi : CI.all (fun i => Nat.blt i 1431) = true) (a1 : Int32) (hw : a1 = 0 ∨ a1 = 1) : Two 1 true (IR R) (IR R) 151 245 [.int a1] := by
  intro σ hI
  have e64 := hI.2.2.1
  have hT : ∀ q ∈ CT, isT q.1 q.2 = true := List.all_eq_true.mp hT
  have hi : ∀ i ∈ CI, i < 1431 := fun i h => Nat.le_of_ble_eq_true (List.all_eq_true.mp hi i h)
  have tlo : ∀ q ∈ CT, q.1 + 33 < 93 := fun q hq => by
    obtain ⟨n, m1, -, -⟩ := isT_ok (hT q hq)
    exact (show ∀ t ∈ cpT, t.1 + 33 < 93 by decide) _ m1
  refine (xc_image a1 hw hI.1).use (by decide) (fun r τ q => ?_)
  obtain ⟨hB1, hF, q⟩ := q
  have hp : mP τ := mP93 σ τ hF hI.2.1
  have f64 : cI τ 64 = (σ.1 0 2).toInt := by
    show (τ.1 93 64).toInt = _
    rw [hF 93 64 (by decide), e64]
  rcases q with ⟨rfl, rfl, h0, rfl⟩ | ⟨rfl, h1, q⟩
  · refine ⟨⟨_, rfl⟩, (kc_image 0 hw τ hB1 hp).mono (fun r2 τ2 q => ?_)⟩
    obtain ⟨q1, q2, q3, q4, ⟨b1, b2, b3, b4, F⟩ | ⟨b1, b2, b3, σ1, F1, hv⟩⟩ := q
    · refine ⟨q1, fun _ => b1.symm, q2, q3, ?_, hR _ _ _ _ (fun q hq => F _ _ (FIm_lo (by have := tlo q hq; omega))) (fun i h => F _ _ (qs_FIm i (hi i h))) hI.2.2.2.1, hR _ _ _ _ (fun q hq => F _ _ (FIm_lo (tlo q hq))) (fun i h => F 133 i rfl) hI.2.2.2.2⟩
      refine Int32.toInt_inj.mp ?_
      rw [F 0 2 rfl]
      have b4 : (τ2.1 93 64).toInt = 0 := b4
      omega
    · exfalso
      rcases b2 with b2 | b2
      · exact absurd b2 (by decide)
      · omega
  · refine ⟨⟨_, rfl⟩, (kc_image a1 hw τ hB1 hp).mono (fun r2 τ2 q' => ?_)⟩
    obtain ⟨q1, q2, q3, q4, ⟨b1, b2, b3, b4, F⟩ | ⟨b1, b2, b3, σ1, F1, hv⟩⟩ := q'
    · exfalso
      rcases q with ⟨rfl, -, -⟩ | ⟨-, h2, -, -⟩
      · exact absurd b2 (by decide)
      · omega
    · have e0 : τ2.1 0 2 = τ2.1 93 64 := by
        refine Int32.toInt_inj.mp ?_
        rw [q4 0 2 (by decide), h1]
        exact b3.symm
      have g1 : ∀ i, i < 1431 → qsV σ1 i = qsV σ i := fun i h => (F1 _ _ (qs_FIm i h)).trans (hF _ _ (qsI_93 i h))
      have g2 : ∀ i, σ1.1 133 i = σ.1 133 i := fun i => (F1 133 i rfl).trans (hF 133 i (by decide))
      rcases q with ⟨rfl, C, F⟩ | ⟨rfl, -, C, F⟩
      · have v : ∀ i, i < 1431 → qsV τ2 i = qsV σ i ∧ τ2.1 133 i = qsV σ i := fun i h => by
          have := hv i h
          rw [show vI σ1 (1 : Int32).toInt i = qsV σ1 i from if_pos rfl, g1 i h] at this
          exact this
        have c : ∀ q ∈ CT, τ2.1 q.1 q.2 = σ.1 q.1 q.2 ∧ τ2.1 (q.1 + 33) q.2 = σ.1 q.1 q.2 := fun q hq => by
          obtain ⟨n, m1, m2, m3⟩ := isT_ok (hT q hq)
          exact ⟨(q4 _ _ (by have := tlo q hq; omega)).trans (F _ _ (isT_F (hT q hq)).1), (q4 _ _ (tlo q hq)).trans (C _ m1 _ m3)⟩
        exact ⟨q1, fun _ => b1.symm, q2, q3, e0, hR _ _ _ _ (fun q hq => (c q hq).1) (fun i h => (v i (hi i h)).1) hI.2.2.2.1, hR _ _ _ _ (fun q hq => (c q hq).2) (fun i h => (v i (hi i h)).2) hI.2.2.2.1⟩
      · have v : ∀ i, i < 1431 → qsV τ2 i = σ.1 133 i ∧ τ2.1 133 i = σ.1 133 i := fun i h => by
          have := hv i h
          rw [show vI σ1 (0 : Int32).toInt i = σ1.1 133 i from if_neg (by decide), g2 i] at this
          exact this
        have c : ∀ q ∈ CT, τ2.1 q.1 q.2 = σ.1 (q.1 + 33) q.2 ∧ τ2.1 (q.1 + 33) q.2 = σ.1 (q.1 + 33) q.2 := fun q hq => by
          obtain ⟨n, m1, m2, m3⟩ := isT_ok (hT q hq)
          exact ⟨(q4 _ _ (by have := tlo q hq; omega)).trans (C _ m2 _ m3), (q4 _ _ (tlo q hq)).trans (F _ _ (isT_F (hT q hq)).2)⟩
        exact ⟨q1, fun _ => b1.symm, q2, q3, e0, hR _ _ _ _ (fun q hq => (c q hq).1) (fun i h => (v i (hi i h)).1) hI.2.2.2.2, hR _ _ _ _ (fun q hq => (c q hq).2) (fun i h => (v i (hi i h)).2) hI.2.2.2.2⟩
