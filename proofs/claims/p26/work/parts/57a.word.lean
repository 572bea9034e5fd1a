/-! wordAt: keywords -/
def wt (j : Nat) : Int := (an_bd pm_B 115 j).1
def bl : Nat → Int
  | 0 => 0
  | k + 1 => bl k + (if wt k = 32 then 1 else 0)
theorem wt_2 : ∀ j, j < 80 → (an_bd pm_B 115 j).2 = wt j := by decide +kernel
theorem bl_14 : ∀ k, k < 79 → wt k = 32 → 0 ≤ bl k ∧ bl k ≤ 14 := by decide +kernel
theorem bl_15 : ∀ k, k < 80 → 0 ≤ bl k ∧ bl k ≤ 15 := by decide +kernel
theorem wt_79 : wt 79 = 32 := by decide +kernel
theorem wt_0 : wt 0 = 32 := by decide +kernel
theorem wt_ok {σ : pm_S} (hB : an_GB pm_B σ) {j : Int} (h0 : 0 ≤ j) (h1 : j < 80) : (σ.1 115 j.toNat).toInt = wt j.toNat := by
  have h := hB 115 j.toNat (show j.toNat < 80 by omega)
  have e := wt_2 j.toNat (by omega)
  have e2 : (an_bd pm_B 115 j.toNat).1 = wt j.toNat := rfl
  omega
abbrev QW (σ : pm_S) : Option Value → pm_S → Prop := fun r τ => ∃ v : Int, r = some (.int (Int32.ofInt v)) ∧ -1 ≤ v ∧ v ≤ 14 ∧ an_GB pm_B τ ∧ FQ [] σ τ
/-- the row of letters against a keyword -/
theorem w_13 {σ0 : pm_S} (a b : Int) (ha : 0 ≤ a) (hb : b ≤ 400) (num : Int) (k : Nat) (hk : k < 79) (hn : 0 ≤ num) (hn2 : num ≤ 14)
    (hl : ∀ j : Int, a ≤ j → j < b → (σ0.1 114 j.toNat).toInt ≠ 32)
    (h59 : ∀ (σ : pm_S) (v : Value), v.category = 1 → an_GB pm_B σ → FQ [] σ0 σ → Ok 181 11 59 [.ref 93, .int (Int32.ofInt a), .int (Int32.ofInt b), .int (Int32.ofInt num), .int (Int32.ofInt ((k : Int) + 1)), v] [] σ (QW σ0)) :
    ∀ (N : Nat) (i : Int) (σ : pm_S), 0 ≤ i → (k : Int) + 1 + i ≤ 79 → 79 - ((k : Int) + 1 + i) < N → a + i ≤ b → an_GB pm_B σ → FQ [] σ0 σ → Ok 181 11 13 [.ref 93, .int (Int32.ofInt a), .int (Int32.ofInt b), .int (Int32.ofInt num), .int (Int32.ofInt (k : Int)), .int (Int32.ofInt i)] [] σ (QW σ0) := by
  intro N
  induction N with
  | zero => intro i σ hi hle hN; exfalso; omega
  | succ N ih =>
    intro i σ hi hle hN hab hB hF0
    have at55 : ∀ τ, an_GB pm_B τ → FQ [] σ0 τ → Ok 181 11 55 [.ref 93, .int (Int32.ofInt a), .int (Int32.ofInt b), .int (Int32.ofInt num), .int (Int32.ofInt (k : Int)), .int (Int32.ofInt i)] [] τ (QW σ0) := by
      intro τ hBt hFt
      refine sg_wd55 a b num k i hBt ⟨⟨ha, by omega⟩, ⟨by omega, hb⟩, ⟨hn, hn2⟩, ⟨by omega, by omega⟩, ⟨hi, by omega⟩, trivial⟩ ?_
      intro τ2 y hB1 hF1 f r dd c
      exact h59 τ2 _ rfl hB1 (hFt.tr hF1)
    have at38 : ∀ τ, an_GB pm_B τ → FQ [] σ0 τ → Ok 181 11 38 [.ref 93, .int (Int32.ofInt a), .int (Int32.ofInt b), .int (Int32.ofInt num), .int (Int32.ofInt (k : Int)), .int (Int32.ofInt i)] [] τ (QW σ0) := by
      intro τ hBt hFt
      refine sg_wd38 a b num k i hBt ⟨⟨ha, by omega⟩, ⟨by omega, hb⟩, ⟨hn, hn2⟩, ⟨by omega, by omega⟩, ⟨hi, by omega⟩, trivial⟩ ?_
      intro τ2 y hB1 hF1 f r dd c
      have e : y 5 = a + i := by rw [← dd.1]; exact sum0 (by omega) (by omega) (by omega) (by omega) (by omega) (by omega)
      rw [e]
      refine Ok.ic rfl rfl (by omega) (by omega) (by omega) (by omega) (fun h => ?_) (fun h => ?_)
      · exact at55 τ2 hB1 (hFt.tr hF1)
      · refine sg_wd43 a b num k i hB1 ⟨⟨ha, by omega⟩, ⟨by omega, hb⟩, ⟨hn, hn2⟩, ⟨by omega, by omega⟩, ⟨hi, by omega⟩, trivial⟩ ?_
        intro τ3 y hB3 hF3 f r dd c
        have e : y 5 = (k : Int) + 1 + i := by rw [← dd.1]; exact sum0 (by omega) (by omega) (by omega) (by omega) (by omega) (by omega)
        rw [e]
        refine Ok.ald (n := 80) rfl rfl rfl (by decide) (by omega) (by omega) ?_
        refine sg_wd51 a b num k i _ hB3 ⟨⟨ha, by omega⟩, ⟨by omega, hb⟩, ⟨hn, hn2⟩, ⟨by omega, by omega⟩, ⟨hi, by omega⟩, ai_rng _, trivial⟩ ?_ ?_
        · intro τ4 y hB4 hF4 f r dd c
          exact at55 τ4 hB4 (((hFt.tr hF1).tr hF3).tr hF4)
        · intro τ4 y hB4 hF4 f r dd c
          exact ⟨num, rfl, by omega, hn2, hB4, ((hFt.tr hF1).tr hF3).tr hF4⟩
    refine sg_wd13 a b num k i hB ⟨⟨ha, by omega⟩, ⟨by omega, hb⟩, ⟨hn, hn2⟩, ⟨by omega, by omega⟩, ⟨hi, by omega⟩, trivial⟩ ?_
    intro τ y hB1 hF1 f r dd c
    have e : y 5 = a + i := by rw [← dd.1]; exact sum0 (by omega) (by omega) (by omega) (by omega) (by omega) (by omega)
    rw [e]
    refine Ok.ic rfl rfl (by omega) (by omega) (by omega) (by omega) (fun h => ?_) (fun h => ?_)
    · exact at38 τ hB1 (hF0.tr hF1)
    · have h : a + i < b := h
      refine sg_wd18 a b num k i hB1 ⟨⟨ha, by omega⟩, ⟨by omega, hb⟩, ⟨hn, hn2⟩, ⟨by omega, by omega⟩, ⟨hi, by omega⟩, trivial⟩ ?_
      intro τ2 y hB2 hF2 f r dd c
      have e : y 5 = (k : Int) + 1 + i := by rw [← dd.1]; exact sum0 (by omega) (by omega) (by omega) (by omega) (by omega) (by omega)
      rw [e]
      refine Ok.ald (n := 80) rfl rfl rfl (by decide) (by omega) (by omega) ?_
      refine sg_wd26 a b num k i _ hB2 ⟨⟨ha, by omega⟩, ⟨by omega, hb⟩, ⟨hn, hn2⟩, ⟨by omega, by omega⟩, ⟨hi, by omega⟩, ai_rng _, trivial⟩ ?_
      intro τ3 y hB3 hF3 f r dd c
      have e : y 6 = a + i := by rw [← dd.1]; exact sum0 (by omega) (by omega) (by omega) (by omega) (by omega) (by omega)
      rw [e]
      have hF3' : FQ [] σ0 τ3 := ((hF0.tr hF1).tr hF2).tr hF3
      refine Ok.ald (n := 400) rfl rfl rfl (by decide) (by omega) (by omega) ?_
      refine Ok.ic rfl rfl (ai_rng _).1 (ai_rng _).2 (ai_rng _).1 (ai_rng _).2 (fun h2 => ?_) (fun h2 => ?_)
      · exact at38 τ3 hB3 hF3'
      · have h2 : (τ2.1 115 ((k : Int) + 1 + i).toNat).toInt = (τ3.1 114 (a + i).toNat).toInt := h2
        have hw := wt_ok hB2 (j := (k : Int) + 1 + i) (by omega) (by omega)
        have h3 := hl (a + i) (by omega) h
        rw [← hF3' 114 (a + i).toNat rfl, ← h2, hw] at h3
        have hne : (k : Int) + 1 + i ≠ 79 := by
          intro z
          rw [z] at h3
          exact h3 wt_79
        refine sg_wd33 a b num k i hB3 ⟨⟨ha, by omega⟩, ⟨by omega, hb⟩, ⟨hn, hn2⟩, ⟨by omega, by omega⟩, ⟨hi, by omega⟩, trivial⟩ ?_
        intro τ4 y hB4 hF4 f r dd c
        exact ih (i + 1) τ4 (by omega) (by omega) (by omega) (by omega) hB4 (hF3'.tr hF4)
theorem w_4 {σ0 : pm_S} (a b : Int) (ha : 0 ≤ a) (hab : a < b) (hb : b ≤ 400) (hl : ∀ j : Int, a ≤ j → j < b → (σ0.1 114 j.toNat).toInt ≠ 32) :
    ∀ (N k : Nat), k + N = 79 → (∀ (σ : pm_S) (v : Value), v.category = 1 → wt k = 32 → an_GB pm_B σ → FQ [] σ0 σ → Ok 181 11 4 [.ref 93, .int (Int32.ofInt a), .int (Int32.ofInt b), .int (Int32.ofInt (bl k - 1)), .int (Int32.ofInt (k : Int)), v] [] σ (QW σ0)) ∧
      (∀ (σ : pm_S) (v : Value), v.category = 1 → an_GB pm_B σ → FQ [] σ0 σ → Ok 181 11 59 [.ref 93, .int (Int32.ofInt a), .int (Int32.ofInt b), .int (Int32.ofInt (bl k - 1)), .int (Int32.ofInt (k : Int)), v] [] σ (QW σ0)) := by
  intro N
  induction N with
  | zero =>
    intro k hk
    have hk' : k = 79 := by omega
    have b15 := bl_15 k (by omega)
    have c4 : ∀ (σ : pm_S) (v : Value), v.category = 1 → wt k = 32 → an_GB pm_B σ → FQ [] σ0 σ → Ok 181 11 4 [.ref 93, .int (Int32.ofInt a), .int (Int32.ofInt b), .int (Int32.ofInt (bl k - 1)), .int (Int32.ofInt (k : Int)), v] [] σ (QW σ0) := by
      intro σ v hv hw hB hF0
      refine sg_wd4 a b (bl k - 1) k v hv hB ⟨⟨ha, by omega⟩, ⟨by omega, hb⟩, ⟨by omega, by omega⟩, ⟨by omega, by omega⟩, trivial⟩ ?_ ?_
      · intro τ y hB1 hF1 f r dd c
        exact ⟨-1, rfl, by omega, by omega, hB1, hF0.tr hF1⟩
      · intro τ y hB1 hF1 f r dd c
        exfalso
        omega
    refine ⟨c4, ?_⟩
    intro σ v hv hB hF0
    refine sg_wd59 a b (bl k - 1) k v hv hB ⟨⟨ha, by omega⟩, ⟨by omega, hb⟩, ⟨by omega, by omega⟩, ⟨by omega, by omega⟩, trivial⟩ ?_
    intro τ y v1 hv1 hB1 hF1 f r dd c
    refine Ok.ald (n := 80) rfl rfl rfl (by decide) (by omega) (by omega) ?_
    refine sg_wd63 a b (bl k - 1) k _ v1 hv1 hB1 ⟨⟨ha, by omega⟩, ⟨by omega, hb⟩, ⟨by omega, by omega⟩, ⟨by omega, by omega⟩, ai_rng _, trivial⟩ ?_ ?_
    · intro τ2 y v2 hv2 hB2 hF2 f r dd c
      exact c4 τ2 v2 hv2 (by rw [hk']; exact wt_79) hB2 ((hF0.tr hF1).tr hF2)
    · intro τ2 y v2 hv2 hB2 hF2 f r dd c
      exfalso
      have hw := wt_ok hB1 (j := (k : Int)) (by omega) (by omega)
      refine r.1 (hw.trans ?_)
      rw [hk']
      exact wt_79
  | succ N ih =>
    intro k hk
    have b15 := bl_15 k (by omega)
    obtain ⟨-, i59⟩ := ih (k + 1) (by omega)
    have c4 : ∀ (σ : pm_S) (v : Value), v.category = 1 → wt k = 32 → an_GB pm_B σ → FQ [] σ0 σ → Ok 181 11 4 [.ref 93, .int (Int32.ofInt a), .int (Int32.ofInt b), .int (Int32.ofInt (bl k - 1)), .int (Int32.ofInt (k : Int)), v] [] σ (QW σ0) := by
      intro σ v hv hw hB hF0
      have b14 := bl_14 k (by omega) hw
      refine sg_wd4 a b (bl k - 1) k v hv hB ⟨⟨ha, by omega⟩, ⟨by omega, hb⟩, ⟨by omega, by omega⟩, ⟨by omega, by omega⟩, trivial⟩ ?_ ?_
      · intro τ y hB1 hF1 f r dd c
        exfalso
        omega
      · intro τ y hB1 hF1 f r dd c
        rw [show bl k - 1 + 1 = bl k by omega]
        refine w_13 a b ha hb (bl k) k (by omega) b14.1 b14.2 hl ?_ 80 0 τ (by omega) (by omega) (by omega) (by omega) hB1 (hF0.tr hF1)
        intro σ' v' hv' hB' hF'
        have := i59 σ' v' hv' hB' hF'
        have e : bl (k + 1) - 1 = bl k := by
          show bl k + (if wt k = 32 then 1 else 0) - 1 = bl k
          rw [if_pos hw]
          omega
        rw [e] at this
        exact this
    refine ⟨c4, ?_⟩
    intro σ v hv hB hF0
    refine sg_wd59 a b (bl k - 1) k v hv hB ⟨⟨ha, by omega⟩, ⟨by omega, hb⟩, ⟨by omega, by omega⟩, ⟨by omega, by omega⟩, trivial⟩ ?_
    intro τ y v1 hv1 hB1 hF1 f r dd c
    refine Ok.ald (n := 80) rfl rfl rfl (by decide) (by omega) (by omega) ?_
    have hw := wt_ok hB1 (j := (k : Int)) (by omega) (by omega)
    refine sg_wd63 a b (bl k - 1) k _ v1 hv1 hB1 ⟨⟨ha, by omega⟩, ⟨by omega, hb⟩, ⟨by omega, by omega⟩, ⟨by omega, by omega⟩, ai_rng _, trivial⟩ ?_ ?_
    · intro τ2 y v2 hv2 hB2 hF2 f r dd c
      refine c4 τ2 v2 hv2 ?_ hB2 ((hF0.tr hF1).tr hF2)
      have e : wt k = wt ((k : Int).toNat) := rfl
      omega
    · intro τ2 y v2 hv2 hB2 hF2 f r dd c
      have := i59 τ2 v2 hv2 hB2 ((hF0.tr hF1).tr hF2)
      have e : bl (k + 1) = bl k := by
        show bl k + (if wt k = 32 then 1 else 0) = bl k
        rw [if_neg (show ¬ wt k = 32 from fun z => r.1 (hw.trans z))]
        omega
      rw [e] at this
      exact this
theorem m_wordAt {σ : pm_S} (hB : an_GB pm_B σ) (a b : Int) (ha : 0 ≤ a) (hab : a < b) (hb : b ≤ 400) (hl : ∀ j : Int, a ≤ j → j < b → (σ.1 114 j.toNat).toInt ≠ 32) : Sp 181 11 [.ref 93, .int (Int32.ofInt a), .int (Int32.ofInt b)] σ (QW σ) := by
  refine Sp.at rfl rfl ?_
  refine sg_wd0 a b _ _ _ rfl rfl rfl hB ⟨⟨ha, by omega⟩, ⟨by omega, hb⟩, trivial⟩ ?_
  intro τ y v5 hv5 hB1 hF1 f r dd c
  exact (w_4 a b ha hab hb hl 79 0 rfl).1 τ v5 hv5 wt_0 hB1 hF1
