/-! rounds of debts -/
def unl (σ : pm_S) : Prop := ∀ d : Nat, (d : Int) < cI σ 11 → (σ.1 101 d).toInt ≠ (σ.1 102 d).toInt
/-- debtor, creditor, state, place in the row -/
abbrev zD (σ : pm_S) (d : Int) : Int := (σ.1 101 d.toNat).toInt
abbrev zC (σ : pm_S) (d : Int) : Int := (σ.1 102 d.toNat).toInt
abbrev zH (σ : pm_S) (d : Int) : Int := (σ.1 107 d.toNat).toInt
abbrev zR (σ : pm_S) (i : Nat) : Int := (σ.1 124 i).toInt
abbrev qCB (σ : pm_S) (d : Int) (k n : Nat) : Option Value → pm_S → Prop := fun r τ => an_GB pm_B τ ∧ FQ [] σ τ ∧ (r = some (.int (Int32.ofInt 0)) ∨ (r = some (.int (Int32.ofInt 1)) ∧ zH σ d = 0 ∧ (k = 0 ∨ zD σ d = zC σ (zR σ (k - 1))) ∧ (k = 0 ∨ k + 1 = n ∨ ∀ i : Nat, i < k → zC σ d ≠ zD σ (zR σ i))))
theorem cb_loop {σ0 : pm_S} {d : Int} {k n : Nat} {s : Int} (hd : 0 ≤ d ∧ d ≤ 29) (hk : 1 ≤ k ∧ k ≤ 9) (hs : 0 ≤ s ∧ s ≤ 9) (hn : 2 ≤ n ∧ n ≤ 10) (hr : ∀ i, i < k → 0 ≤ zR σ0 i ∧ zR σ0 i ≤ 29) (h0 : zH σ0 d = 0) (h1 : zD σ0 d = zC σ0 (zR σ0 (k - 1))) : ∀ (N i : Nat) (σ : pm_S), i + N = k → an_GB pm_B σ → FQ [] σ0 σ → (∀ j : Nat, j < i → zC σ0 d ≠ zD σ0 (zR σ0 j)) → Ok 205 11 54 [.ref 93, .int (Int32.ofInt d), .int (Int32.ofInt (k : Int)), .int (Int32.ofInt s), .int (Int32.ofInt (n : Int)), .int (Int32.ofInt (i : Int))] [] σ (qCB σ0 d k n) := by
  intro N
  induction N with
  | zero =>
    intro i σ hN hB hF hi
    refine sg_cb54 d k s n i hB ⟨hd, by omega, hs, by omega, by omega, trivial⟩ ?_
    intro τ y hB1 hF1 _ _ _ _
    refine Ok.ic rfl rfl (by omega) (by omega) (by omega) (by omega) (fun h => ?_) (fun h => ?_)
    · refine sg_cb73 _ _ _ _ _ rfl rfl rfl rfl rfl hB1 ?_
      intro τ2 y2 hB2 hF2 _ _ _ _
      exact ⟨hB2, (hF.tr hF1).tr hF2, Or.inr ⟨rfl, h0, Or.inr h1, Or.inr (Or.inr (fun j hj => hi j (by omega)))⟩⟩
    · exfalso
      have h : (i : Int) < k := h
      omega
  | succ N ih =>
    intro i σ hN hB hF hi
    refine sg_cb54 d k s n i hB ⟨hd, by omega, hs, by omega, by omega, trivial⟩ ?_
    intro τ y hB1 hF1 _ _ _ _
    refine Ok.ic rfl rfl (by omega) (by omega) (by omega) (by omega) (fun h => ?_) (fun h => ?_)
    · exfalso
      have h : (k : Int) ≤ i := h
      omega
    · refine sg_cb57 d k s n i hB1 ⟨hd, by omega, hs, by omega, by omega, trivial⟩ ?_
      intro τ2 y2 hB2 hF2 f2 _ _ c2
      have hF2' : FQ [] σ0 τ2 := (hF.tr hF1).tr hF2
      have E := FQ.e1 hF2'
      have e6 : y2 6 = zR σ0 i := by rw [← c2.2.1, E]; rfl
      have e5 : y2 5 = zC σ0 d := by rw [← c2.1, E]
      have hri := hr i (by omega)
      rw [e6]
      refine Ok.ald (n := 30) rfl rfl rfl (by decide) (by omega) (by omega) ?_
      rw [E, e5]
      refine Ok.ic rfl rfl (ai_rng _).1 (ai_rng _).2 (ai_rng _).1 (ai_rng _).2 (fun h => ?_) (fun h => ?_)
      · have h : zC σ0 d ≠ zD σ0 (zR σ0 i) := h
        refine sg_cb71 d k s n i hB2 ⟨hd, by omega, hs, by omega, by omega, trivial⟩ ?_
        intro τ3 y3 hB3 hF3 _ _ _ _
        refine ih (i + 1) τ3 (by omega) hB3 (hF2'.tr hF3) (fun j hj => ?_)
        by_cases e : j = i
        · rw [e]; exact h
        · exact hi j (by omega)
      · refine sg_cb69 _ _ _ _ _ rfl rfl rfl rfl rfl hB2 ?_
        intro τ3 y3 hB3 hF3 _ _ _ _
        exact ⟨hB3, hF2'.tr hF3, Or.inl rfl⟩
theorem m_canBeNext {σ : pm_S} (hB : an_GB pm_B σ) {d s : Int} {k n : Nat} (hd : 0 ≤ d ∧ d ≤ 29) (hk : k ≤ 9) (hs : 0 ≤ s ∧ s ≤ 9) (hn : 2 ≤ n ∧ n ≤ 10) (hr : ∀ i, i < k → 0 ≤ zR σ i ∧ zR σ i ≤ 29) : Sp 205 11 [.ref 93, .int (Int32.ofInt d), .int (Int32.ofInt (k : Int)), .int (Int32.ofInt s), .int (Int32.ofInt (n : Int))] σ (qCB σ d k n) := by
  refine Sp.at rfl rfl ?_
  refine sg_cb0 d k s n _ rfl hB ⟨hd, by omega, hs, by omega, trivial⟩ ?_ ?_ ?_
  · intro τ y hB1 hF1 _ _ _ _
    exact ⟨hB1, hF1, Or.inl rfl⟩
  · intro τ y v5 hv5 hB1 hF1 f1 _ _ c1
    have E := FQ.e1 hF1
    have hk1 : 1 ≤ k := by omega
    have e10 : y 10 = zR σ (k - 1) := by
      rw [← c1.2.2.1, E, show ((k : Int) + (-1)).toNat = k - 1 by omega]
    have e6 : y 6 = zD σ d := by rw [← c1.1, E]
    have h0 : zH σ d = 0 := by
      have : y 4 = zH σ d := by rw [← c1.2.1, E]
      omega
    have hrk := hr (k - 1) (by omega)
    rw [e10]
    refine Ok.ald (n := 30) rfl rfl rfl (by decide) (by omega) (by omega) ?_
    rw [E, e6]
    refine Ok.ic rfl rfl (ai_rng _).1 (ai_rng _).2 (ai_rng _).1 (ai_rng _).2 (fun h => ?_) (fun h => ?_)
    · have h : zD σ d = zC σ (zR σ (k - 1)) := h
      refine sg_cb31 d k s n v5 hv5 hB1 ⟨hd, by omega, hs, by omega, trivial⟩ ?_
      intro τ2 y2 v6 hv6 hB2 hF2 _ _ _ _
      have hF2' : FQ [] σ τ2 := FQ.tr hF1 hF2
      refine Ok.ic rfl rfl (by omega) (by omega) (by omega) (by omega) (fun h2 => ?_) (fun h2 => ?_)
      · refine sg_cb52 d k s n v6 hv6 hB2 ⟨hd, by omega, hs, by omega, trivial⟩ ?_
        intro τ3 y3 hB3 hF3 _ _ _ _
        exact cb_loop hd ⟨hk1, hk⟩ hs hn hr h0 h k 0 τ3 (by omega) hB3 (hF2'.tr hF3) (fun j hj => absurd hj (by omega))
      · have h2 : (k : Int) = (n : Int) + (-1) := h2
        refine sg_cb36 d k s n v6 hv6 hB2 ⟨hd, by omega, hs, by omega, trivial⟩ ?_
        intro τ3 y3 v7 hv7 hB3 hF3 f3 _ _ c3
        have E3 := FQ.e1 (hF2'.tr hF3)
        have e5 : y3 5 = zR σ 0 := by rw [← c3.1, E3]
        have hr0 := hr 0 (by omega)
        rw [e5]
        refine Ok.ald (n := 30) rfl rfl rfl (by decide) (by omega) (by omega) ?_
        have fin : ∀ (τ4 : pm_S) (r : Int), (r = 0 ∨ r = 1) → an_GB pm_B τ4 → FQ [] τ3 τ4 → qCB σ d k n (some (.int (Int32.ofInt r))) τ4 := by
          intro τ4 r hr4 hB4 hF4
          refine ⟨hB4, (hF2'.tr hF3).tr hF4, ?_⟩
          rcases hr4 with rfl | rfl
          · exact Or.inl rfl
          · exact Or.inr ⟨rfl, h0, Or.inr h, Or.inr (Or.inl (by omega))⟩
        refine sg_cb47 _ (y3 4) _ _ _ _ _ rfl rfl rfl rfl hv7 hB3 ⟨ai_rng _, by omega, trivial⟩ ?_ ?_
        · intro τ4 y4 hB4 hF4 _ _ _ _
          exact fin τ4 0 (Or.inl rfl) hB4 hF4
        · intro τ4 y4 hB4 hF4 _ _ _ _
          exact fin τ4 1 (Or.inr rfl) hB4 hF4
    · refine sg_cb29 _ _ _ _ _ rfl rfl rfl rfl hv5 hB1 ?_
      intro τ2 y2 hB2 hF2 _ _ _ _
      exact ⟨hB2, FQ.tr hF1 hF2, Or.inl rfl⟩
  · intro τ y hB1 hF1 f1 _ _ c1
    have E := FQ.e1 hF1
    have h0 : zH σ d = 0 := by
      have : y 4 = zH σ d := by rw [← c1.1, E]
      omega
    have hk0 : k = 0 := by omega
    exact ⟨hB1, hF1, Or.inr ⟨rfl, h0, Or.inl hk0, Or.inl hk0⟩⟩
/-- what is so of the debts in the row: the first k places are pf -/
def rIP (σ0 : pm_S) (pf : Nat → Int) (k : Nat) : Prop := (∀ i, i < k → 0 ≤ pf i ∧ pf i < cI σ0 11 ∧ zH σ0 (pf i) = 0) ∧ (∀ i j, i < j → j < k → zD σ0 (pf j) ≠ zD σ0 (pf i))
def rIE (σ0 : pm_S) (pf : Nat → Int) (k : Nat) : Prop := ∀ i j, i ≤ j → j < k → zC σ0 (pf j) ≠ zD σ0 (pf i)
def rPre (σ : pm_S) (pf : Nat → Int) (k : Nat) : Prop := ∀ i, i < k → zR σ i = pf i
abbrev FRw : List (Nat × Nat) := [(124, 9999)]
abbrev qFR (σ0 : pm_S) (n : Nat) : Option Value → pm_S → Prop := fun r τ => an_GB pm_B τ ∧ FQ FRw σ0 τ ∧ (r = some (.int (Int32.ofInt 0)) ∨ (r = some (.int (Int32.ofInt 1)) ∧ ∃ pf, rIP σ0 pf n ∧ rPre τ pf n))
/-- looking for the next debt -/
theorem fr_16 {σ0 : pm_S} {s : Int} {n k : Nat} (hs : 0 ≤ s ∧ s ≤ 9) (hn : 2 ≤ n ∧ n ≤ 10) (hk : k ≤ 9) {Qz : Option Value → pm_S → Prop} {pf : Nat → Int} {d0 : Int} (hpf : ∀ i, i < k → 0 ≤ pf i ∧ pf i ≤ 29)
    (hend : ∀ (σ : pm_S) (d : Int), an_GB pm_B σ → FQ FRw σ0 σ → rPre σ pf k → 0 ≤ d ∧ d ≤ cI σ0 11 → (d = cI σ0 11 ∨ (zH σ0 d = 0 ∧ (k = 0 ∨ zD σ0 d = zC σ0 (pf (k - 1))) ∧ (k = 0 ∨ k + 1 = n ∨ ∀ i : Nat, i < k → zC σ0 d ≠ zD σ0 (pf i)))) → d0 ≤ d → Ok 204 21 32 [.ref 93, .int (Int32.ofInt s), .int (Int32.ofInt (n : Int)), .int (Int32.ofInt (k : Int)), .int (Int32.ofInt d)] [] σ Qz) :
    ∀ (N : Nat) (d : Int) (σ : pm_S), 0 ≤ d ∧ d ≤ cI σ0 11 → d0 ≤ d → cI σ0 11 - d < N → an_GB pm_B σ → FQ FRw σ0 σ → rPre σ pf k → Ok 204 21 16 [.ref 93, .int (Int32.ofInt s), .int (Int32.ofInt (n : Int)), .int (Int32.ofInt (k : Int)), .int (Int32.ofInt d)] [] σ Qz := by
  intro N
  induction N with
  | zero => intro d σ hd hd0 hN; exfalso; omega
  | succ N ih =>
    intro d σ hd hd0 hN hB hF hp
    have gD : 0 ≤ cI σ 11 ∧ cI σ 11 ≤ 30 := hB 93 11 (by decide)
    have eD : cI σ 11 = cI σ0 11 := hF.c 11 rfl
    refine sg_fr16 s n k d (cI σ 11) hB ⟨hs, by omega, by omega, by omega, gD, trivial⟩ ⟨rfl, trivial⟩ ?_
    intro τ y hB1 hF1 _ _ _ _
    have hFa : FQ FRw σ0 τ := hF.tr (FQ.up (G := []) rfl hF1)
    have hpa : rPre τ pf k := fun i hi => by show (τ.1 124 i).toInt = _; rw [hF1 124 i rfl]; exact hp i hi
    refine Ok.ic rfl rfl (by omega) (by omega) (by omega) (by omega) (fun h => ?_) (fun h => ?_)
    · have h : cI σ 11 ≤ d := h
      exact hend τ d hB1 hFa hpa hd (Or.inl (by omega)) hd0
    · have h : d < cI σ 11 := h
      refine sg_fr20 s n k d hB1 ⟨hs, by omega, by omega, by omega, trivial⟩ ?_
      intro τ2 y2 hB2 hF2 _ _ _ _
      have hFb : FQ FRw σ0 τ2 := hFa.tr (FQ.up (G := []) rfl hF2)
      have hpb : rPre τ2 pf k := fun i hi => by show (τ2.1 124 i).toInt = _; rw [hF2 124 i rfl]; exact hpa i hi
      refine Ok.cv rfl rfl rfl rfl rfl rfl rfl ?_
      refine (m_canBeNext hB2 (d := d) (k := k) (n := n) (by omega) hk hs hn (fun i hi => by rw [hpb i hi]; exact hpf i hi)).use (by decide) (fun r3 τ3 q3 => ?_)
      obtain ⟨hB3, hF3, q3⟩ := q3
      have hFc : FQ FRw σ0 τ3 := hFb.tr (FQ.up (G := []) rfl hF3)
      have hpc : rPre τ3 pf k := fun i hi => by show (τ3.1 124 i).toInt = _; rw [hF3 124 i rfl]; exact hpb i hi
      rcases q3 with rfl | ⟨rfl, z0, z1, z2⟩
      · refine sg_fr26 s n k d 0 hB3 ⟨hs, by omega, by omega, by omega, by omega, trivial⟩ ?_ ?_
        · intro τ4 y4 _ _ f; exfalso; omega
        · intro τ4 y4 hB4 hF4 _ _ _ _
          exact ih (d + 1) τ4 (by omega) (by omega) (by omega) hB4 (hFc.tr (FQ.up (G := []) rfl hF4)) (fun i hi => by show (τ4.1 124 i).toInt = _; rw [hF4 124 i rfl]; exact hpc i hi)
      · refine sg_fr26 s n k d 1 hB3 ⟨hs, by omega, by omega, by omega, by omega, trivial⟩ ?_ ?_
        · intro τ4 y4 hB4 hF4 _ _ _ _
          refine hend τ4 d hB4 (hFc.tr (FQ.up (G := []) rfl hF4)) (fun i hi => by show (τ4.1 124 i).toInt = _; rw [hF4 124 i rfl]; exact hpc i hi) hd (Or.inr ⟨?_, ?_, ?_⟩) hd0
          · show (σ0.1 107 d.toNat).toInt = 0
            rw [← hFb 107 _ rfl]; exact z0
          · rcases z1 with z1 | z1
            · exact Or.inl z1
            · by_cases k0 : k = 0
              · exact Or.inl k0
              · right
                have z1' : (τ2.1 101 d.toNat).toInt = (τ2.1 102 (zR τ2 (k - 1)).toNat).toInt := z1
                rw [hpb (k - 1) (by omega), hFb 101 _ rfl, hFb 102 _ rfl] at z1'
                exact z1'
          · rcases z2 with z2 | z2 | z2
            · exact Or.inl z2
            · exact Or.inr (Or.inl z2)
            · refine Or.inr (Or.inr (fun i hi => ?_))
              have z2' : (τ2.1 102 d.toNat).toInt ≠ (τ2.1 101 (zR τ2 i).toNat).toInt := z2 i hi
              rw [hpb i hi, hFb 101 _ rfl, hFb 102 _ rfl] at z2'
              exact z2'
        · intro τ4 y4 _ _ f; exfalso; omega
def pfU (pf : Nat → Int) (k : Nat) (d : Int) : Nat → Int := fun i => if i = k then d else pf i
theorem pfU_eq {pf : Nat → Int} {k : Nat} {d : Int} : pfU pf k d k = d := if_pos rfl
theorem pfU_ne {pf : Nat → Int} {k i : Nat} {d : Int} (h : i ≠ k) : pfU pf k d i = pf i := if_neg h
theorem rPre.fr {σ τ : pm_S} {pf : Nat → Int} {k : Nat} (hF : FQ [] σ τ) (h : rPre σ pf k) : rPre τ pf k := fun i hi => by
  show (τ.1 124 i).toInt = _
  rw [hF 124 i rfl]
  exact h i hi
theorem fr_body {σ0 : pm_S} (hU : unl σ0) {s : Int} {n k : Nat} (hs : 0 ≤ s ∧ s ≤ 9) (hn : 2 ≤ n ∧ n ≤ 10) (hk : k + 1 ≤ n) {pf : Nat → Int} (hI : rIP σ0 pf k) (hE : rIE σ0 pf k) {σ : pm_S}
    (Hpop : ∀ (σ' : pm_S) (v : Value), v.category = 1 → an_GB pm_B σ' → FQ FRw σ0 σ' → rPre σ' pf k → Ok 204 21 7 [.ref 93, .int (Int32.ofInt s), .int (Int32.ofInt (n : Int)), .int (Int32.ofInt ((k : Int) + (-1))), v] [] σ' (qFR σ0 n))
    (Hpush : ∀ (d : Int) (σ' : pm_S) (v : Value), v.category = 1 → k + 1 < n → zR σ k < d → 0 ≤ d → d < cI σ0 11 → rIP σ0 (pfU pf k d) (k + 1) → rIE σ0 (pfU pf k d) (k + 1) → an_GB pm_B σ' → FQ FRw σ0 σ' → rPre σ' (pfU pf k d) (k + 1) → zR σ' (k + 1) = pfU pf k d 0 → Ok 204 21 7 [.ref 93, .int (Int32.ofInt s), .int (Int32.ofInt (n : Int)), .int (Int32.ofInt ((k : Int) + 1)), v] [] σ' (qFR σ0 n))
    (v : Value) (hv : v.category = 1) (hB : an_GB pm_B σ) (hF : FQ FRw σ0 σ) (hp : rPre σ pf k) (h1 : -1 ≤ zR σ k) (h2 : zR σ k < cI σ0 11) : Ok 204 21 7 [.ref 93, .int (Int32.ofInt s), .int (Int32.ofInt (n : Int)), .int (Int32.ofInt (k : Int)), v] [] σ (qFR σ0 n) := by
  have gD : 0 ≤ cI σ 11 ∧ cI σ 11 ≤ 30 := hB 93 11 (by decide)
  have eD : cI σ 11 = cI σ0 11 := hF.c 11 rfl
  refine sg_fr7 s n k v hv hB ⟨hs, by omega, by omega, trivial⟩ ?_
  intro τ y hB1 hF1 _ _ _ c1
  have e3 : y 3 = zR σ k := by rw [← c1.1, hF1 124 _ rfl]; rfl
  rw [e3]
  have hFa : FQ FRw σ0 τ := hF.tr (FQ.up (G := []) rfl hF1)
  refine fr_16 (σ0 := σ0) (pf := pf) (d0 := zR σ k + 1) hs hn (by omega) (fun i hi => by have := hI.1 i hi; omega) ?_ 40 (zR σ k + 1) τ (by omega) (Int.le_refl _) (by omega) hB1 hFa (hp.fr hF1)
  intro σ2 d hB2 hF2 hp2 hd hcase hd0
  have gD2 : 0 ≤ cI σ2 11 ∧ cI σ2 11 ≤ 30 := hB2 93 11 (by decide)
  have eD2 : cI σ2 11 = cI σ0 11 := hF2.c 11 rfl
  refine sg_fr32 s n k d (cI σ2 11) hB2 ⟨hs, by omega, by omega, by omega, gD2, trivial⟩ ⟨rfl, trivial⟩ ?_
  intro τ3 y3 hB3 hF3 _ _ _ _
  have hFc : FQ FRw σ0 τ3 := hF2.tr (FQ.up (G := []) rfl hF3)
  have hpc := hp2.fr hF3
  refine Ok.ic rfl rfl (by omega) (by omega) (by omega) (by omega) (fun h => ?_) (fun h => ?_)
  · have h : d ≠ cI σ2 11 := h
    have hc := hcase.resolve_left (by omega)
    obtain ⟨z0, z1, z2⟩ := hc
    have hIP : rIP σ0 (pfU pf k d) (k + 1) := by
      refine ⟨fun i hi => ?_, fun i j hij hj => ?_⟩
      · by_cases e : i = k
        · rw [e, pfU_eq]; exact ⟨hd.1, by omega, z0⟩
        · rw [pfU_ne e]; exact hI.1 i (by omega)
      · by_cases e : j = k
        · rw [e, pfU_eq, pfU_ne (by omega), z1.resolve_left (by omega)]
          exact hE i (k - 1) (by omega) (by omega)
        · rw [pfU_ne e, pfU_ne (by omega)]
          exact hI.2 i j hij (by omega)
    refine sg_fr41 s n k d hB3 ⟨hs, by omega, by omega, by omega, trivial⟩ ?_
    intro τ4 y4 hB4 hF4 _ _ _ _
    have hFd : FQ FRw σ0 τ4 := hFc.tr (FQ.up (G := []) rfl hF4)
    refine Ok.ast (n := 10) rfl rfl rfl (by decide) (by omega) (by omega) ?_
    have ed : (Int32.ofInt d).toInt = d := ti_of (by omega) (by omega)
    have hB5 : an_GB pm_B (put τ4 124 ((k : Int)).toNat (Int32.ofInt d)) := put_GB hB4 (by
      show (-1 : Int) ≤ (Int32.ofInt d).toInt ∧ (Int32.ofInt d).toInt ≤ 29
      omega)
    have ixk : ((k : Int)).toNat = k := by omega
    rw [ixk] at hB5 ⊢
    have hp5 : rPre (put τ4 124 k (Int32.ofInt d)) (pfU pf k d) (k + 1) := by
      intro i hi
      show ((put τ4 124 k (Int32.ofInt d)).1 124 i).toInt = _
      by_cases e : i = k
      · rw [e, put_eq, pfU_eq]; exact ed
      · rw [put_nj e, pfU_ne e]; exact (hpc.fr hF4) i (by omega)
    have hFe : FQ FRw σ0 (put τ4 124 k (Int32.ofInt d)) := hFd.tr (FQ.put rfl)
    generalize put τ4 124 k (Int32.ofInt d) = σ5 at hB5 hp5 hFe
    refine sg_fr46 s n k _ rfl hB5 ⟨hs, by omega, by omega, trivial⟩ ?_
    intro τ6 y6 v6 hv6 hB6 hF6 _ _ _ _
    have hFf : FQ FRw σ0 τ6 := hFe.tr (FQ.up (G := []) rfl hF6)
    refine Ok.ic rfl rfl (by omega) (by omega) (by omega) (by omega) (fun h3 => ?_) (fun h3 => ?_)
    · have h3 : (k : Int) ≠ (n : Int) + (-1) := h3
      have hkn : k + 1 < n := by omega
      refine sg_fr53 s n k v6 hv6 hB6 ⟨hs, by omega, by omega, trivial⟩ ?_
      intro τ7 y7 v7 hv7 hB7 hF7 f7 _ _ c7
      have hp7 := (hp5.fr hF6).fr hF7
      have e7 : y7 3 = pfU pf k d 0 := by rw [← c7.1]; exact hp7 0 (by omega)
      have hFg : FQ FRw σ0 τ7 := hFf.tr (FQ.up (G := []) rfl hF7)
      refine Ok.ast (n := 10) rfl rfl rfl (by decide) (by omega) (by omega) ?_
      have e8 : (Int32.ofInt (y7 3)).toInt = y7 3 := ti_of (by omega) (by omega)
      have ix8 : ((k : Int) + 1).toNat = k + 1 := by omega
      have hB8 : an_GB pm_B (put τ7 124 ((k : Int) + 1).toNat (Int32.ofInt (y7 3))) := put_GB hB7 (by
        show (-1 : Int) ≤ (Int32.ofInt (y7 3)).toInt ∧ (Int32.ofInt (y7 3)).toInt ≤ 29
        omega)
      rw [ix8] at hB8 ⊢
      have hp8 : rPre (put τ7 124 (k + 1) (Int32.ofInt (y7 3))) (pfU pf k d) (k + 1) := by
        intro i hi
        show ((put τ7 124 (k + 1) (Int32.ofInt (y7 3))).1 124 i).toInt = _
        rw [put_nj (by omega)]
        exact hp7 i hi
      have hz8 : zR (put τ7 124 (k + 1) (Int32.ofInt (y7 3))) (k + 1) = pfU pf k d 0 := by
        show ((put τ7 124 (k + 1) (Int32.ofInt (y7 3))).1 124 (k + 1)).toInt = _
        rw [put_eq, e8, e7]
      have hFh : FQ FRw σ0 (put τ7 124 (k + 1) (Int32.ofInt (y7 3))) := hFg.tr (FQ.put rfl)
      generalize put τ7 124 (k + 1) (Int32.ofInt (y7 3)) = σ8 at hB8 hp8 hz8 hFh
      refine sg_fr65 s n ((k : Int) + 1) v7 hv7 hB8 ⟨hs, by omega, by omega, trivial⟩ ?_
      intro τ9 y9 v9 hv9 hB9 hF9 _ _ _ _
      have hIE : rIE σ0 (pfU pf k d) (k + 1) := by
        intro i j hij hj
        by_cases e : j = k
        · rw [e, pfU_eq]
          by_cases e2 : i = k
          · rw [e2, pfU_eq]
            have := hU d.toNat (by omega)
            exact fun z => this z.symm
          · rw [pfU_ne e2]
            exact (z2.resolve_left (by omega)).resolve_left (by omega) i (by omega)
        · rw [pfU_ne e, pfU_ne (by omega)]
          exact hE i j hij (by omega)
      refine Hpush d τ9 v9 hv9 hkn (by omega) hd.1 (by omega) hIP hIE hB9 (hFh.tr (FQ.up (G := []) rfl hF9)) (hp8.fr hF9) ?_
      show (τ9.1 124 (k + 1)).toInt = _
      rw [hF9 124 _ rfl]
      exact hz8
    · have h3 : (k : Int) = (n : Int) + (-1) := h3
      refine sg_fr51 _ _ _ _ rfl rfl rfl hv6 hB6 ?_
      intro τ7 y7 hB7 hF7 _ _ _ _
      have hkn : k + 1 = n := by omega
      refine ⟨hB7, hFf.tr (FQ.up (G := []) rfl hF7), Or.inr ⟨rfl, pfU pf k d, ?_, ?_⟩⟩
      · rw [← hkn]; exact hIP
      · rw [← hkn]; exact (hp5.fr hF6).fr hF7
  · refine sg_fr36 s n k _ rfl hB3 ⟨hs, by omega, by omega, trivial⟩ ?_
    intro τ4 y4 v4 hv4 hB4 hF4 _ _ _ _
    exact Hpop τ4 v4 hv4 hB4 (hFc.tr (FQ.up (G := []) rfl hF4)) (hpc.fr hF4)
theorem fr_lvl {σ0 : pm_S} (hU : unl σ0) {s : Int} {n : Nat} (hs : 0 ≤ s ∧ s ≤ 9) (hn : 2 ≤ n ∧ n ≤ 10) : ∀ (j k : Nat) (pf : Nat → Int), k + j + 1 = n → rIP σ0 pf k → rIE σ0 pf k →
    (∀ (σ' : pm_S) (v : Value), v.category = 1 → an_GB pm_B σ' → FQ FRw σ0 σ' → rPre σ' pf k → Ok 204 21 7 [.ref 93, .int (Int32.ofInt s), .int (Int32.ofInt (n : Int)), .int (Int32.ofInt ((k : Int) + (-1))), v] [] σ' (qFR σ0 n)) →
    ∀ (N : Nat) (σ : pm_S) (v : Value), v.category = 1 → cI σ0 11 - zR σ k < N → an_GB pm_B σ → FQ FRw σ0 σ → rPre σ pf k → -1 ≤ zR σ k → zR σ k < cI σ0 11 → Ok 204 21 7 [.ref 93, .int (Int32.ofInt s), .int (Int32.ofInt (n : Int)), .int (Int32.ofInt (k : Int)), v] [] σ (qFR σ0 n) := by
  intro j
  induction j with
  | zero =>
    intro k pf hk hI hE Hpop N σ v hv hN hB hF hp h1 h2
    refine fr_body hU hs hn (by omega) hI hE Hpop ?_ v hv hB hF hp h1 h2
    intro d σ' v' _ hkn
    exfalso
    omega
  | succ j ihj =>
    intro k pf hk hI hE Hpop N
    induction N with
    | zero => intro σ v hv hN hB hF hp h1 h2; exfalso; omega
    | succ N ihN =>
      intro σ v hv hN hB hF hp h1 h2
      refine fr_body hU hs hn (by omega) hI hE Hpop ?_ v hv hB hF hp h1 h2
      intro d σ' v' hv' hkn hlt hd0 hd1 hIP hIE hB' hF' hp' hz
      have h0 : 0 ≤ pfU pf k d 0 ∧ pfU pf k d 0 < cI σ0 11 := ⟨(hIP.1 0 (by omega)).1, (hIP.1 0 (by omega)).2.1⟩
      refine ihj (k + 1) (pfU pf k d) (by omega) hIP hIE ?_ 40 σ' v' hv' ?_ hB' hF' hp' (by omega) (by omega)
      · intro σ3 v3 hv3 hB3 hF3 hp3
        have e : zR σ3 k = d := by rw [hp3 k (by omega), pfU_eq]
        have := ihN σ3 v3 hv3 (by omega) hB3 hF3 (fun i hi => by rw [hp3 i (by omega), pfU_ne (by omega)]) (by omega) (by omega)
        rw [show ((k + 1 : Nat) : Int) + (-1) = (k : Int) by omega]
        exact this
      · have gD : 0 ≤ cI σ 11 ∧ cI σ 11 ≤ 30 := hB 93 11 (by decide)
        have eD : cI σ 11 = cI σ0 11 := hF.c 11 rfl
        omega
theorem m_findsRound {σ : pm_S} (hB : an_GB pm_B σ) (hU : unl σ) {s : Int} {n : Nat} (hs : 0 ≤ s ∧ s ≤ 9) (hn : 2 ≤ n ∧ n ≤ 10) : Sp 204 21 [.ref 93, .int (Int32.ofInt s), .int (Int32.ofInt (n : Int))] σ (qFR σ n) := by
  have gD : 0 ≤ cI σ 11 ∧ cI σ 11 ≤ 30 := hB 93 11 (by decide)
  refine Sp.at rfl rfl ?_
  refine sg_fr0 s n _ _ rfl rfl hB ⟨hs, by omega, trivial⟩ ?_
  intro τ y v4 hv4 hB1 hF1 _ _ _ _
  refine Ok.ast (n := 10) (j := 0) rfl rfl rfl (by decide) (by omega) (by omega) ?_
  have hB2 : an_GB pm_B (put τ 124 (0 : Int).toNat (Int32.ofInt (-1))) := put_GB hB1 (by
    show (-1 : Int) ≤ (Int32.ofInt (-1)).toInt ∧ (Int32.ofInt (-1)).toInt ≤ 29
    exact ⟨by decide, by decide⟩)
  have hz : zR (put τ 124 (0 : Int).toNat (Int32.ofInt (-1))) 0 = -1 := by
    show ((put τ 124 0 (Int32.ofInt (-1))).1 124 0).toInt = -1
    rw [put_eq]
    decide
  have hF2 : FQ FRw σ (put τ 124 (0 : Int).toNat (Int32.ofInt (-1))) := (FQ.up (G := []) rfl hF1).tr (FQ.put rfl)
  generalize put τ 124 (0 : Int).toNat (Int32.ofInt (-1)) = σ2 at hB2 hz hF2
  refine fr_lvl hU hs hn (n - 1) 0 (fun _ => 0) (by omega) ⟨fun i hi => absurd hi (by omega), fun i j _ hj => absurd hj (by omega)⟩ (fun i j _ hj => absurd hj (by omega)) ?_ 40 σ2 v4 hv4 (by omega) hB2 hF2 (fun i hi => absurd hi (by omega)) (by omega) (by omega)
  intro σ' v hv hB' hF' _
  refine sg_fr7m s n (((0 : Nat) : Int) + (-1)) v hv hB' ⟨hs, by omega, by omega, trivial⟩ ?_
  intro τ3 y3 hB3 hF3 _ _ _ _
  exact ⟨hB3, hF'.tr (FQ.up (G := []) rfl hF3), Or.inl rfl⟩
