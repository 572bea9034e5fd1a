/-! a round cancels -/
abbrev zK (σ : pm_S) (d : Int) : Int := (σ.1 103 d.toNat).toInt
abbrev FPa : List (Nat × Nat) := [(107, 9999), (106, 9999), (93, 53)]
theorem m_isPaid {σ : pm_S} (hB : an_GB pm_B σ) {d b : Int} (hd : 0 ≤ d ∧ d ≤ 29) (hb : 1 ≤ b ∧ b ≤ 2) : Sp 206 6 [.ref 93, .int (Int32.ofInt d), .int (Int32.ofInt b)] σ (fun r τ => r = none ∧ an_GB pm_B τ ∧ FQ FPa σ τ ∧ ∀ j, τ.1 107 j = if j = d.toNat then Int32.ofInt b else σ.1 107 j) := by
  refine Sp.at rfl rfl ?_
  refine sg_ip0 d b hB ⟨hd, hb, trivial⟩ ?_
  intro τ y hB1 hF1 _ _ _ _
  refine Ok.ast (n := 30) rfl rfl rfl (by decide) (by omega) (by omega) ?_
  have hB2 : an_GB pm_B (put τ 107 d.toNat (Int32.ofInt b)) := put_GB hB1 (ai_rng _)
  refine sg_ip5 d b hB2 ⟨hd, hb, trivial⟩ ?_
  intro τ3 y3 hB3 hF3 _ _ _ _
  refine Ok.ast (n := 30) rfl rfl rfl (by decide) (by omega) (by omega) ?_
  have hB4 : an_GB pm_B (put τ3 106 d.toNat (Int32.ofInt (y3 2))) := put_GB hB3 (ai_rng _)
  refine sg_ip11 _ _ rfl rfl hB4 ?_
  intro τ5 y5 hB5 hF5 _ _ _ _
  refine ⟨rfl, hB5, FQ.tr (FQ.tr (FQ.tr (FQ.tr (FQ.up (G := []) rfl hF1) (FQ.put rfl)) (FQ.up (G := []) rfl hF3)) (FQ.put rfl)) (FQ.up (G := [(93, 53)]) rfl hF5), fun j => ?_⟩
  rw [hF5 107 j rfl, put_nr (by decide), hF3 107 j rfl, put_get, hF1 107 j rfl]
  by_cases e : j = d.toNat
  · rw [if_pos ⟨rfl, e⟩, if_pos e]
  · rw [if_neg (fun z => e z.2), if_neg e]
abbrev FCn : List (Nat × Nat) := [(124, 9999), (103, 9999), (107, 9999), (106, 9999), (93, 53)]
abbrev FCm : List (Nat × Nat) := [(103, 9999), (107, 9999), (106, 9999), (93, 53)]
/-- behind a round: what is open was open, and one is open no more -/
abbrev qCa (σ0 : pm_S) : Option Value → pm_S → Prop := fun r τ => r = none ∧ an_GB pm_B τ ∧ FQ FCm σ0 τ ∧ (∀ j : Nat, (τ.1 107 j).toInt = 0 → (σ0.1 107 j).toInt = 0) ∧ ∃ j : Nat, j < 30 ∧ (σ0.1 107 j).toInt = 0 ∧ (τ.1 107 j).toInt ≠ 0
section CAN
variable {σ0 : pm_S} {n : Nat} {pf : Nat → Int}
theorem ca_pf (hB0 : an_GB pm_B σ0) (hI : rIP σ0 pf n) {i : Nat} (hi : i < n) : 0 ≤ pf i ∧ pf i ≤ 29 := by
  have gD : 0 ≤ cI σ0 11 ∧ cI σ0 11 ≤ 30 := hB0 93 11 (by decide)
  have := hI.1 i hi
  omega
theorem ca_k (hB0 : an_GB pm_B σ0) {d : Int} (hd : 0 ≤ d ∧ d ≤ 29) : 0 ≤ zK σ0 d ∧ zK σ0 d ≤ 99999 := hB0 103 d.toNat (show d.toNat < 30 by omega)
theorem ca_ne (hI : rIP σ0 pf n) {i j : Nat} (hi : i < n) (hj : j < n) (h : i ≠ j) : pf i ≠ pf j := by
  intro e
  rcases Nat.lt_or_gt_of_ne h with h | h
  · exact hI.2 i j h hj (by rw [e])
  · exact hI.2 j i h hi (by rw [e])
/-- the second walk -/
theorem ca_36 (hB0 : an_GB pm_B σ0) (hn : 2 ≤ n ∧ n ≤ 10) (hI : rIP σ0 pf n) (hp0 : rPre σ0 pf n) {least : Int} (hl : 0 ≤ least ∧ least ≤ 99999) (hle : ∀ i, i < n → least ≤ zK σ0 (pf i)) {i0 : Nat} (hi0 : i0 < n) (he : zK σ0 (pf i0) = least) :
    ∀ (N k : Nat) (σ : pm_S), k + N = n → an_GB pm_B σ → FQ FCm σ0 σ → (∀ i, k ≤ i → i < n → zK σ (pf i) = zK σ0 (pf i) ∧ zH σ (pf i) = zH σ0 (pf i)) → (∀ j : Nat, (σ.1 107 j).toInt = 0 → (σ0.1 107 j).toInt = 0) → (i0 < k → zH σ (pf i0) ≠ 0) → Ok 207 11 36 [.ref 93, .int (Int32.ofInt (n : Int)), .int (Int32.ofInt least), .int (Int32.ofInt (k : Int))] [] σ (qCa σ0) := by
  intro N
  induction N with
  | zero =>
    intro k σ hN hB hF hK hO hz
    refine sg_ca36 n least k hB ⟨by omega, hl, by omega, trivial⟩ ?_
    intro τ y hB1 hF1 _ _ _ _
    refine Ok.ic rfl rfl (by omega) (by omega) (by omega) (by omega) (fun h => ?_) (fun h => ?_)
    · refine sg_ca72 _ _ _ rfl rfl rfl hB1 ?_
      intro τ2 y2 hB2 hF2 _ _ _ _
      have E : τ2.1 = σ.1 := FQ.e1 (FQ.tr hF1 hF2)
      have p0 := ca_pf hB0 hI hi0
      refine ⟨rfl, hB2, hF.tr (FQ.up (G := []) rfl (FQ.tr hF1 hF2)), ?_, (pf i0).toNat, by omega, (hI.1 i0 hi0).2.2, ?_⟩
      · rw [E]; exact hO
      · rw [E]; exact hz (by omega)
    · exfalso
      have h : (k : Int) < n := h
      omega
  | succ N ih =>
    intro k σ hN hB hF hK hO hz
    refine sg_ca36 n least k hB ⟨by omega, hl, by omega, trivial⟩ ?_
    intro τ y hB1 hF1 _ _ _ _
    have hk : k < n := by omega
    have pk := ca_pf hB0 hI hk
    have kk := ca_k hB0 pk
    have lk := hle k hk
    have ixk : ((k : Int)).toNat = k := by omega
    refine Ok.ic rfl rfl (by omega) (by omega) (by omega) (by omega) (fun h => ?_) (fun h => ?_)
    · exfalso
      have h : (n : Int) ≤ k := h
      omega
    · refine sg_ca39 n least k hB1 ⟨by omega, hl, by omega, trivial⟩ ?_
      intro τ2 y2 hB2 hF2 _ _ _ c2
      have F2 : FQ FCm σ0 τ2 := (hF.tr (FQ.up (G := []) rfl hF1)).tr (FQ.up (G := []) rfl hF2)
      have E2 : τ2.1 = σ.1 := FQ.e1 (FQ.tr hF1 hF2)
      have row : ∀ (τ : pm_S), FQ FCm σ0 τ → (τ.1 124 ((k : Int)).toNat).toInt = pf k := fun τ hF => by rw [hF 124 _ rfl, ixk]; exact hp0 k hk
      have e3 : y2 3 = pf k := by rw [← c2.1]; exact row τ2 F2
      rw [e3]
      refine Ok.ald (n := 30) rfl rfl rfl (by decide) (by omega) (by omega) ?_
      have ek : (τ2.1 103 (pf k).toNat).toInt = zK σ0 (pf k) := by rw [E2]; exact (hK k (Nat.le_refl _) hk).1
      rw [ek]
      refine sg_ca52 n least k (zK σ0 (pf k)) (pf k) hB2 ⟨by omega, hl, by omega, kk, pk, trivial⟩ ?_
      intro τ4 y4 hB4 hF4 _ _ d4 _
      have e5 : y4 5 = zK σ0 (pf k) - least := by
        rw [← d4.1]
        show (Int32.ofInt (zK σ0 (pf k)) - Int32.ofInt least).toInt = _
        rw [ai_sub, ti_of (by omega) (by omega), ti_of (by omega) (by omega)] <;> rw [ti_of (by omega) (by omega), ti_of (by omega) (by omega)] <;> omega
      rw [e5]
      refine Ok.ast (n := 30) rfl rfl rfl (by decide) (by omega) (by omega) ?_
      have ev : (Int32.ofInt (zK σ0 (pf k) - least)).toInt = zK σ0 (pf k) - least := ti_of (by omega) (by omega)
      have hB5 : an_GB pm_B (put τ4 103 (pf k).toNat (Int32.ofInt (zK σ0 (pf k) - least))) := put_GB hB4 (by
        show (0 : Int) ≤ _ ∧ _ ≤ (99999 : Int)
        rw [ev]
        omega)
      have F5 : FQ FCm σ0 (put τ4 103 (pf k).toNat (Int32.ofInt (zK σ0 (pf k) - least))) := (F2.tr (FQ.up (G := []) rfl hF4)).tr (FQ.put rfl)
      have K5 : ∀ i, i < n → i ≠ k → ((put τ4 103 (pf k).toNat (Int32.ofInt (zK σ0 (pf k) - least))).1 103 (pf i).toNat).toInt = zK σ (pf i) := by
        intro i hi hik
        have := ca_ne hI hi hk hik
        have pi := ca_pf hB0 hI hi
        rw [put_nj (by omega), hF4 103 _ rfl, E2]
      have Kk : ((put τ4 103 (pf k).toNat (Int32.ofInt (zK σ0 (pf k) - least))).1 103 (pf k).toNat).toInt = zK σ0 (pf k) - least := by rw [put_eq, ev]
      have H5 : ∀ j, (put τ4 103 (pf k).toNat (Int32.ofInt (zK σ0 (pf k) - least))).1 107 j = σ.1 107 j := fun j => by rw [put_nr (by decide), hF4 107 j rfl, E2]
      generalize put τ4 103 (pf k).toNat (Int32.ofInt (zK σ0 (pf k) - least)) = σ5 at hB5 F5 K5 Kk H5
      refine sg_ca55 n least k hB5 ⟨by omega, hl, by omega, trivial⟩ ?_
      intro τ6 y6 hB6 hF6 _ _ _ c6
      have F6 : FQ FCm σ0 τ6 := F5.tr (FQ.up (G := []) rfl hF6)
      have e6 : y6 3 = pf k := by rw [← c6.1]; exact row τ6 F6
      rw [e6]
      refine Ok.ald (n := 30) rfl rfl rfl (by decide) (by omega) (by omega) ?_
      have E6 : τ6.1 = σ5.1 := FQ.e1 hF6
      rw [E6, Kk]
      refine sg_ca62 n least k (zK σ0 (pf k) - least) hB6 ⟨by omega, hl, by omega, by omega, trivial⟩ ?_ ?_
      · -- more is left
        intro τ7 y7 hB7 hF7 f7 _ _ _
        refine sg_ca70 n least k hB7 ⟨by omega, hl, by omega, trivial⟩ ?_
        intro τ8 y8 hB8 hF8 _ _ _ _
        have E8 : τ8.1 = σ5.1 := (FQ.e1 (FQ.tr hF7 hF8)).trans E6
        refine ih (k + 1) τ8 (by omega) hB8 (F6.tr (FQ.up (G := []) rfl (FQ.tr hF7 hF8))) (fun i h1 h2 => ?_) (fun j hj => ?_) (fun h => ?_)
        · have := hK i (by omega) h2
          refine ⟨?_, ?_⟩
          · show (τ8.1 103 _).toInt = _
            rw [E8, K5 i h2 (by omega)]; exact this.1
          · show (τ8.1 107 _).toInt = _
            rw [E8, H5]; exact this.2
        · rw [E8, H5] at hj; exact hO j hj
        · show (τ8.1 107 _).toInt ≠ 0
          rw [E8, H5]
          by_cases e : i0 = k
          · exfalso
            rw [e] at he
            omega
          · exact hz (by omega)
      · -- it is paid
        intro τ7 y7 hB7 hF7 f7 _ _ c7
        have F7 : FQ FCm σ0 τ7 := F6.tr (FQ.up (G := []) rfl hF7)
        have e7 : y7 4 = pf k := by rw [← c7.1]; exact row τ7 F7
        rw [e7]
        refine Ok.cv rfl rfl rfl rfl rfl rfl rfl ?_
        refine (m_isPaid hB7 pk (by omega)).use (by decide) (fun r8 τ8 q8 => ?_)
        obtain ⟨rfl, hB8, F8, h8⟩ := q8
        refine sg_ca70 n least k hB8 ⟨by omega, hl, by omega, trivial⟩ ?_
        intro τ9 y9 hB9 hF9 _ _ _ _
        have E7 : τ7.1 = σ5.1 := (FQ.e1 hF7).trans E6
        have h9 : ∀ j, τ9.1 107 j = if j = (pf k).toNat then Int32.ofInt 2 else σ.1 107 j := fun j => by rw [hF9 107 j rfl, h8 j, E7, H5]
        have k9 : ∀ j, τ9.1 103 j = σ5.1 103 j := fun j => by rw [hF9 103 j rfl, F8 103 j rfl, E7]
        have two : (Int32.ofInt 2).toInt ≠ 0 := by decide
        refine ih (k + 1) τ9 (by omega) hB9 ((F7.tr (F8.up rfl)).tr (FQ.up (G := []) rfl hF9)) (fun i h1 h2 => ?_) (fun j hj => ?_) (fun h => ?_)
        · have := hK i (by omega) h2
          have ne := ca_ne hI h2 hk (by omega)
          have pi := ca_pf hB0 hI h2
          refine ⟨?_, ?_⟩
          · show (τ9.1 103 _).toInt = _
            rw [k9, K5 i h2 (by omega)]; exact this.1
          · show (τ9.1 107 _).toInt = _
            rw [h9, if_neg (by omega)]; exact this.2
        · rw [h9] at hj
          split at hj
          · exact absurd hj two
          · exact hO j hj
        · show (τ9.1 107 _).toInt ≠ 0
          rw [h9]
          split
          · exact two
          · rename_i ne
            by_cases e : i0 = k
            · rw [e] at ne
              exact absurd rfl ne
            · exact hz (by omega)
/-- the first walk -/
theorem ca_10 (hB0 : an_GB pm_B σ0) (hn : 2 ≤ n ∧ n ≤ 10) (hI : rIP σ0 pf n) (hp0 : rPre σ0 pf n) : ∀ (N k : Nat) (least : Int) (σ : pm_S), k + N = n → 1 ≤ k → (0 ≤ least ∧ least ≤ 99999) → (∀ i, i < k → least ≤ zK σ0 (pf i)) → (∃ i0, i0 < k ∧ zK σ0 (pf i0) = least) → an_GB pm_B σ → FQ [] σ0 σ → Ok 207 11 10 [.ref 93, .int (Int32.ofInt (n : Int)), .int (Int32.ofInt least), .int (Int32.ofInt (k : Int))] [] σ (qCa σ0) := by
  intro N
  induction N with
  | zero =>
    intro k least σ hN hk1 hl hle hex hB hF
    obtain ⟨i0, hi0, he⟩ := hex
    refine sg_ca10 n least k hB ⟨by omega, hl, by omega, trivial⟩ ?_
    intro τ y hB1 hF1 _ _ _ _
    refine Ok.ic rfl rfl (by omega) (by omega) (by omega) (by omega) (fun h => ?_) (fun h => ?_)
    · refine sg_ca34 n least _ rfl hB1 ⟨by omega, hl, trivial⟩ ?_
      intro τ2 y2 hB2 hF2 _ _ _ _
      have F2 : FQ [] σ0 τ2 := (hF.tr hF1).tr hF2
      have E := FQ.e1 F2
      refine ca_36 hB0 hn hI hp0 hl (fun i hi => hle i (by omega)) (i0 := i0) (by omega) he n 0 τ2 (by omega) hB2 (FQ.up (G := []) rfl F2) (fun i _ _ => ?_) (fun j hj => ?_) (fun z => absurd z (by omega))
      · constructor
        · show (τ2.1 103 _).toInt = _
          rw [E]
        · show (τ2.1 107 _).toInt = _
          rw [E]
      · rw [E] at hj; exact hj
    · exfalso
      have h : (k : Int) < n := h
      omega
  | succ N ih =>
    intro k least σ hN hk1 hl hle hex hB hF
    have hk : k < n := by omega
    have pk := ca_pf hB0 hI hk
    have kk := ca_k hB0 pk
    have ixk : ((k : Int)).toNat = k := by omega
    have row : ∀ (τ : pm_S), FQ [] σ0 τ → (τ.1 124 ((k : Int)).toNat).toInt = pf k := fun τ hF => by rw [hF 124 _ rfl, ixk]; exact hp0 k hk
    refine sg_ca10 n least k hB ⟨by omega, hl, by omega, trivial⟩ ?_
    intro τ y hB1 hF1 _ _ _ _
    refine Ok.ic rfl rfl (by omega) (by omega) (by omega) (by omega) (fun h => ?_) (fun h => ?_)
    · exfalso
      have h : (n : Int) ≤ k := h
      omega
    · refine sg_ca13 n least k hB1 ⟨by omega, hl, by omega, trivial⟩ ?_
      intro τ2 y2 hB2 hF2 _ _ _ c2
      have F2 : FQ [] σ0 τ2 := (hF.tr hF1).tr hF2
      have e3 : y2 3 = pf k := by rw [← c2.1]; exact row τ2 F2
      rw [e3]
      refine Ok.ald (n := 30) rfl rfl rfl (by decide) (by omega) (by omega) ?_
      have ek : (τ2.1 103 (pf k).toNat).toInt = zK σ0 (pf k) := by rw [F2 103 _ rfl]
      rw [ek]
      refine sg_ca20 n least k (zK σ0 (pf k)) hB2 ⟨by omega, hl, by omega, kk, trivial⟩ ?_
      intro τ3 y3 hB3 hF3 _ _ _ _
      have F3 : FQ [] σ0 τ3 := F2.tr hF3
      refine Ok.ic rfl rfl (by omega) (by omega) (by omega) (by omega) (fun h2 => ?_) (fun h2 => ?_)
      · have h2 : least ≤ zK σ0 (pf k) := h2
        refine sg_ca30 n least k hB3 ⟨by omega, hl, by omega, trivial⟩ ?_
        intro τ4 y4 hB4 hF4 _ _ _ _
        obtain ⟨i0, hi0, he⟩ := hex
        refine ih (k + 1) least τ4 (by omega) (by omega) hl (fun i hi => ?_) ⟨i0, by omega, he⟩ hB4 (F3.tr hF4)
        by_cases e : i = k
        · rw [e]; exact h2
        · exact hle i (by omega)
      · have h2 : zK σ0 (pf k) < least := h2
        refine sg_ca22 n least k hB3 ⟨by omega, hl, by omega, trivial⟩ ?_
        intro τ4 y4 hB4 hF4 _ _ _ c4
        have F4 : FQ [] σ0 τ4 := F3.tr hF4
        have e4 : y4 3 = pf k := by rw [← c4.1]; exact row τ4 F4
        rw [e4]
        refine Ok.ald (n := 30) rfl rfl rfl (by decide) (by omega) (by omega) ?_
        have ek4 : (τ4.1 103 (pf k).toNat).toInt = zK σ0 (pf k) := by rw [F4 103 _ rfl]
        rw [ek4]
        refine sg_ca29 n k (zK σ0 (pf k)) _ rfl hB4 ⟨by omega, by omega, kk, trivial⟩ ?_
        intro τ5 y5 hB5 hF5 _ _ _ _
        refine ih (k + 1) (zK σ0 (pf k)) τ5 (by omega) (by omega) kk (fun i hi => ?_) ⟨k, by omega, rfl⟩ hB5 (F4.tr hF5)
        by_cases e : i = k
        · rw [e]; exact Int.le_refl _
        · have := hle i (by omega)
          omega
theorem m_cancels (hB0 : an_GB pm_B σ0) (hn : 2 ≤ n ∧ n ≤ 10) (hI : rIP σ0 pf n) (hp0 : rPre σ0 pf n) : Sp 207 11 [.ref 93, .int (Int32.ofInt (n : Int))] σ0 (qCa σ0) := by
  have pk := ca_pf hB0 hI (i := 0) (by omega)
  have kk := ca_k hB0 pk
  refine Sp.at rfl rfl ?_
  refine sg_ca0 n _ _ rfl rfl hB0 ⟨by omega, trivial⟩ ?_
  intro τ y v2 v3 hv2 hv3 hB1 hF1 _ _ _ c1
  have e1 : y 1 = pf 0 := by rw [← c1.1, hF1 124 _ rfl]; exact hp0 0 (by omega)
  rw [e1]
  refine Ok.ald (n := 30) rfl rfl rfl (by decide) (by omega) (by omega) ?_
  have ek : (τ.1 103 (pf 0).toNat).toInt = zK σ0 (pf 0) := by rw [hF1 103 _ rfl]
  rw [ek]
  refine sg_ca7 n (zK σ0 (pf 0)) v2 v3 hv2 hv3 hB1 ⟨by omega, kk, trivial⟩ ?_
  intro τ2 y2 hB2 hF2 _ _ _ _
  refine ca_10 hB0 hn hI hp0 (n - 1) 1 (zK σ0 (pf 0)) τ2 (by omega) (by omega) kk (fun i hi => ?_) ⟨0, by omega, rfl⟩ hB2 (FQ.tr hF1 hF2)
  rw [show i = 0 by omega]
  exact Int.le_refl _
end CAN
/-- how many debts are open -/
def opn (f : Nat → Int32) : Nat → Nat
  | 0 => 0
  | k + 1 => opn f k + (if (f k).toInt = 0 then 1 else 0)
theorem opn_le {f g : Nat → Int32} (h : ∀ j : Nat, (g j).toInt = 0 → (f j).toInt = 0) : ∀ k, opn g k ≤ opn f k
  | 0 => Nat.le_refl _
  | k + 1 => by
    have := opn_le h k
    show opn g k + (if (g k).toInt = 0 then 1 else 0) ≤ opn f k + (if (f k).toInt = 0 then 1 else 0)
    by_cases e : (g k).toInt = 0
    · rw [if_pos e, if_pos (h k e)]; omega
    · rw [if_neg e]; omega
theorem opn_lt {f g : Nat → Int32} (h : ∀ j : Nat, (g j).toInt = 0 → (f j).toInt = 0) {j : Nat} (h1 : (f j).toInt = 0) (h2 : (g j).toInt ≠ 0) : ∀ k, j < k → opn g k < opn f k
  | 0, hj => absurd hj (by omega)
  | k + 1, hj => by
    show opn g k + (if (g k).toInt = 0 then 1 else 0) < opn f k + (if (f k).toInt = 0 then 1 else 0)
    by_cases e : j = k
    · have := opn_le h k
      rw [← e, if_neg h2, if_pos h1]
      rw [← e] at this
      omega
    · have := opn_lt h h1 h2 k (by omega)
      by_cases e2 : (g k).toInt = 0
      · rw [if_pos e2, if_pos (h k e2)]; omega
      · rw [if_neg e2]; omega
theorem unl.fr {σ τ : pm_S} (G : List (Nat × Nat)) (h11 : an_inF G 93 11 = false) (h1 : an_inP G 101 = false) (h2 : an_inP G 102 = false) (hF : FQ G σ τ) (h : unl σ) : unl τ := by
  intro d hd
  rw [hF.c 11 h11] at hd
  rw [hF 101 _ (an_inP_ok h1 _), hF 102 _ (an_inP_ok h2 _)]
  exact h d hd
abbrev qAt (σ0 : pm_S) : Option Value → pm_S → Prop := fun r τ => r = none ∧ an_GB pm_B τ ∧ FQ FCn σ0 τ
theorem at_loop {σ0 : pm_S} (hU : unl σ0) {s : Int} (hs : 0 ≤ s ∧ s ≤ 9) : ∀ (C : Nat) (N : Nat) (n : Nat) (σ : pm_S), opn (σ.1 107) 30 < C → 11 < n + N → 2 ≤ n ∧ n ≤ 11 → an_GB pm_B σ → FQ FCn σ0 σ → Ok 208 31 2 [.ref 93, .int (Int32.ofInt s), .int (Int32.ofInt (n : Int))] [] σ (qAt σ0) := by
  intro C
  induction C with
  | zero => intro N n σ hC; exfalso; omega
  | succ C ihC =>
    intro N
    induction N with
    | zero => intro n σ _ h1 h2; exfalso; omega
    | succ N ihN =>
      intro n σ hC hN hn hB hF
      have gP : 0 ≤ cI σ 5 ∧ cI σ 5 ≤ 10 := hB 93 5 (by decide)
      refine sg_at2 s n (cI σ 5) hB ⟨hs, by omega, gP, trivial⟩ ⟨rfl, trivial⟩ ?_
      intro τ y hB1 hF1 _ _ _ _
      have Fa : FQ FCn σ0 τ := hF.tr (FQ.up (G := []) rfl hF1)
      refine Ok.ic rfl rfl (by omega) (by omega) (by omega) (by omega) (fun h => ?_) (fun h => ?_)
      · refine sg_at22 _ _ rfl rfl hB1 ?_
        intro τ2 y2 hB2 hF2 _ _ _ _
        exact ⟨rfl, hB2, Fa.tr (FQ.up (G := []) rfl hF2)⟩
      · have h : (n : Int) ≤ cI σ 5 := h
        refine sg_at6 s n hB1 ⟨hs, by omega, trivial⟩ ?_
        intro τ2 y2 hB2 hF2 _ _ _ _
        have Fb : FQ FCn σ0 τ2 := Fa.tr (FQ.up (G := []) rfl hF2)
        have Eb : τ2.1 = σ.1 := FQ.e1 (FQ.tr hF1 hF2)
        refine Ok.cv rfl rfl rfl rfl rfl rfl rfl ?_
        refine (m_findsRound hB2 (unl.fr FCn rfl rfl rfl Fb hU) (n := n) hs (by omega)).use (by decide) (fun r3 τ3 q3 => ?_)
        obtain ⟨hB3, F3, q3⟩ := q3
        have Fc : FQ FCn σ0 τ3 := Fb.tr (F3.up rfl)
        have E3 : ∀ j, τ3.1 107 j = σ.1 107 j := fun j => by rw [F3 107 j rfl, Eb]
        rcases q3 with rfl | ⟨rfl, pf, hI, hp⟩
        · refine sg_at10 s n 0 hB3 ⟨hs, by omega, by omega, trivial⟩ ?_ ?_
          · intro τ4 y4 hB4 hF4 _ _ _ _
            have e4 : τ4.1 107 = σ.1 107 := funext fun j => by rw [hF4 107 j rfl, E3]
            exact ihN (n + 1) τ4 (by rw [e4]; exact hC) (by omega) (by omega) hB4 (Fc.tr (FQ.up (G := []) rfl hF4))
          · intro τ4 y4 _ _ f; exfalso; omega
        · refine sg_at10 s n 1 hB3 ⟨hs, by omega, by omega, trivial⟩ ?_ ?_
          · intro τ4 y4 _ _ f; exfalso; omega
          · intro τ4 y4 hB4 hF4 _ _ _ _
            have hI4 : rIP τ4 pf n := by
              have z11 : cI τ4 11 = cI τ2 11 := (hF4.c 11 rfl).trans (F3.c 11 rfl)
              refine ⟨fun i hi => ?_, fun i j hij hj => ?_⟩
              · have := hI.1 i hi
                refine ⟨this.1, by omega, ?_⟩
                show (τ4.1 107 _).toInt = 0
                rw [hF4 107 _ rfl, F3 107 _ rfl]
                exact this.2.2
              · have := hI.2 i j hij hj
                show (τ4.1 101 _).toInt ≠ (τ4.1 101 _).toInt
                rw [hF4 101 _ rfl, F3 101 _ rfl, hF4 101 _ rfl, F3 101 _ rfl]
                exact this
            refine Ok.cv rfl rfl rfl rfl rfl rfl rfl ?_
            refine (m_cancels hB4 (by omega) hI4 (hp.fr hF4)).use (by decide) (fun r5 τ5 q5 => ?_)
            obtain ⟨rfl, hB5, F5, O5, j5, hj5, a5, b5⟩ := q5
            refine sg_at14 s _ rfl hB5 ⟨hs, trivial⟩ ?_
            intro τ6 y6 hB6 hF6 _ _ _ _
            have e4 : τ4.1 107 = σ.1 107 := funext fun j => by rw [hF4 107 j rfl, E3]
            have lt := opn_lt O5 a5 b5 30 hj5
            rw [e4] at lt
            have e6 : τ6.1 107 = τ5.1 107 := funext fun j => hF6 107 j rfl
            exact ihC 12 2 τ6 (by rw [e6]; omega) (by omega) (by omega) hB6 (((Fc.tr (FQ.up (G := []) rfl hF4)).tr (F5.up rfl)).tr (FQ.up (G := []) rfl hF6))
theorem m_cancelsAt {σ : pm_S} (hB : an_GB pm_B σ) (hU : unl σ) {s : Int} (hs : 0 ≤ s ∧ s ≤ 9) : Sp 208 31 [.ref 93, .int (Int32.ofInt s)] σ (qAt σ) := by
  refine Sp.at rfl rfl ?_
  refine sg_at0 s _ rfl hB ⟨hs, trivial⟩ ?_
  intro τ y hB1 hF1 _ _ _ _
  exact at_loop hU hs (opn (τ.1 107) 30 + 1) 12 2 τ (by omega) (by omega) (by omega) hB1 (FQ.up (G := []) rfl hF1)
