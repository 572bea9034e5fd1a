/-! the model's tokens: what they come to -/
/-- the model's tape -/
abbrev mt_B (tp : Nat → Int) (n : Nat) (σ : pm_S) : Prop := n ≤ 400 ∧ cI σ 30 = (n : Int) ∧ (∀ j, j < n → sI σ 114 j = tp j) ∧ ∀ j, j < n → 0 ≤ tp j ∧ tp j ≤ 255
theorem mt_B.fq {tp : Nat → Int} {n : Nat} {σ τ : pm_S} (h : mt_B tp n σ) {G : List (Nat × Nat)} (hG : (an_inF G 93 30 || an_inP G 114) = false) (F : FQ G σ τ) : mt_B tp n τ := by
  rw [Bool.or_eq_false_iff] at hG
  exact ⟨h.1, (congrArg Int32.toInt (F 93 30 hG.1)).trans h.2.1, fun j hj => (congrArg Int32.toInt (F 114 j (an_inP_ok hG.2 j))).trans (h.2.2.1 j hj), h.2.2.2⟩
/-- a token in the model's words -/
def mtok (t v z : Int) : Prop := (0 ≤ z → t = 3 ∧ v = z) ∧ ((-15) ≤ z ∧ z ≤ -1 → t = 2 ∧ v = -1 - z) ∧ ((-25) ≤ z ∧ z ≤ -16 → t = 4 ∧ ts_s v = z) ∧ (z = -26 → t = 0) ∧ (z = -27 → t = 1)
section MTOK
variable {tp : Nat → Int} {n : Nat}
theorem mb_r {σ : pm_S} (hb : mt_B tp n σ) (p : Nat) : (-1) ≤ ts_b tp n p ∧ ts_b tp n p ≤ 255 := by
  unfold ts_b
  split
  · rename_i c
    have := hb.2.2.2 p c
    omega
  · decide
set_option maxRecDepth 20000 in
theorem x_mraw {σ : pm_S} (p : Nat) (hB : an_GB pm_B σ) (hb : mt_B tp n σ) (hp : p ≤ 400) : Sp 177 4 [.ref 93, .int (Int32.ofInt (p : Int))] σ (fun r τ => r = some (.int (Int32.ofInt (ts_b tp n p))) ∧ an_GB pm_B τ ∧ FQ [] σ τ) := by
  have hn := hb.1
  refine Sp.at rfl rfl ?_
  refine mq_r0 p n hB ⟨by omega, by omega, trivial⟩ ⟨hb.2.1, trivial⟩ ?_
  intro τ y hB1 F1 _ _ _ _
  refine Ok.ic rfl rfl (by omega) (by omega) (by omega) (by omega) (fun z => ?_) (fun z => ?_)
  · have z : (n : Int) ≤ (p : Int) := z
    refine mq_r9 p hB1 ⟨by omega, trivial⟩ ?_
    intro τ2 y2 hB2 F2 _ _ _ _
    have e : ts_b tp n p = -1 := if_neg (by omega)
    rw [e]
    exact ⟨rfl, hB2, FQ.tr F1 F2⟩
  · have z : (p : Int) < (n : Int) := z
    refine mq_r4 p hB1 ⟨by omega, trivial⟩ ?_
    intro τ2 y2 hB2 F2 _ _ _ c2
    have e : ts_b tp n p = tp p := if_pos (by omega)
    have e2 : y2 1 = tp p := by
      rw [← c2.1, Int.toNat_natCast, (FQ.tr F1 F2) 114 p rfl]
      exact hb.2.2.1 p (by omega)
    rw [e, ← e2]
    exact ⟨rfl, hB2, FQ.tr F1 F2⟩
set_option maxRecDepth 20000 in
theorem xw_13 {σ0 : pm_S} {Q : Option Value → pm_S → Prop} (a b k : Nat) (hab : a ≤ b) (hbn : b ≤ n) (hk : k < 79) (hw : wt k = 32) (hb0 : mt_B tp n σ0) (hl : ∀ j, a ≤ j → j < b → tp j ≠ 32)
    (h59 : ¬ ts_m tp k a b = true → ∀ (σ : pm_S) (v : Value), v.category = 1 → an_GB pm_B σ → FQ [] σ0 σ → Ok 181 11 59 [.ref 93, .int (Int32.ofInt (a : Int)), .int (Int32.ofInt (b : Int)), .int (Int32.ofInt (bl k)), .int (Int32.ofInt ((k : Int) + 1)), v] [] σ Q)
    (hret : ts_m tp k a b = true → ∀ (σ : pm_S), an_GB pm_B σ → FQ [] σ0 σ → Q (some (.int (Int32.ofInt (bl k)))) σ) :
    ∀ (N i : Nat) (σ : pm_S), 79 - (k + 1 + i) < N → k + 1 + i ≤ 79 → a + i ≤ b → (∀ j, j < i → wt (k + 1 + j) = tp (a + j)) → an_GB pm_B σ → FQ [] σ0 σ → Ok 181 11 13 [.ref 93, .int (Int32.ofInt (a : Int)), .int (Int32.ofInt (b : Int)), .int (Int32.ofInt (bl k)), .int (Int32.ofInt (k : Int)), .int (Int32.ofInt (i : Int))] [] σ Q := by
  have hn := hb0.1
  have b14 := bl_14 k hk hw
  intro N
  induction N with
  | zero => intro i σ hN; exact absurd hN (Nat.not_lt_zero _)
  | succ N ih =>
    intro i σ hN hk2 hai hm hB hF0
    have at55 : ¬ ts_m tp k a b = true → ∀ τ, an_GB pm_B τ → FQ [] σ0 τ → Ok 181 11 55 [.ref 93, .int (Int32.ofInt (a : Int)), .int (Int32.ofInt (b : Int)), .int (Int32.ofInt (bl k)), .int (Int32.ofInt (k : Int)), .int (Int32.ofInt (i : Int))] [] τ Q := by
      intro hmm τ hBt hFt
      refine sg_wd55 a b (bl k) k i hBt ⟨by omega, by omega, b14, by omega, by omega, trivial⟩ ?_
      intro τ2 y hB1 hF1 _ _ _ _
      exact h59 hmm τ2 _ rfl hB1 (hFt.tr hF1)
    have at38 : (a + i < b → wt (k + 1 + i) ≠ tp (a + i)) → ∀ τ, an_GB pm_B τ → FQ [] σ0 τ → Ok 181 11 38 [.ref 93, .int (Int32.ofInt (a : Int)), .int (Int32.ofInt (b : Int)), .int (Int32.ofInt (bl k)), .int (Int32.ofInt (k : Int)), .int (Int32.ofInt (i : Int))] [] τ Q := by
      intro hne τ hBt hFt
      refine sg_wd38 a b (bl k) k i hBt ⟨by omega, by omega, b14, by omega, by omega, trivial⟩ ?_
      intro τ2 y hB1 hF1 _ _ dd _
      have e : y 5 = (a : Int) + i := addC (by omega) (by omega) dd.1
      rw [e]
      refine Ok.ic rfl rfl (by omega) (by omega) (by omega) (by omega) (fun h => ?_) (fun h => ?_)
      · have h : (a : Int) + i ≠ (b : Int) := h
        refine at55 (fun z => ?_) τ2 hB1 (hFt.tr hF1)
        have z1 := (ts_m_i.mp z).1 i (by omega)
        exact hne (by omega) z1
      · have h : (a : Int) + i = (b : Int) := h
        refine sg_wd43 a b (bl k) k i hB1 ⟨by omega, by omega, b14, by omega, by omega, trivial⟩ ?_
        intro τ3 y hB3 hF3 _ _ dd _
        have e : y 5 = (k : Int) + 1 + i := addC (by omega) (by omega) dd.1
        rw [e]
        refine Ok.ald (n := 80) rfl rfl rfl (by decide) (by omega) (by omega) ?_
        have hv := wt_ok hB3 (j := (k : Int) + 1 + i) (by omega) (by omega)
        rw [hv, show ((k : Int) + 1 + i).toNat = k + 1 + i by omega]
        have wr := wt_r (k + 1 + i) (by omega)
        have mm : ts_m tp k a b = true ↔ wt (k + 1 + i) = 32 := by
          rw [ts_m_i, show b - a = i by omega]
          exact ⟨fun z => z.2, fun z => ⟨hm, z⟩⟩
        refine sg_wd51 a b (bl k) k i (wt (k + 1 + i)) hB3 ⟨by omega, by omega, b14, by omega, by omega, by omega, trivial⟩ ?_ ?_
        · intro τ4 y hB4 hF4 _ r _ _
          exact at55 (fun z => r.1 (mm.mp z)) τ4 hB4 (((hFt.tr hF1).tr hF3).tr hF4)
        · intro τ4 y hB4 hF4 f _ _ _
          have f6 := f.2.2.2.2.2.1
          exact hret (mm.mpr (by omega)) τ4 hB4 (((hFt.tr hF1).tr hF3).tr hF4)
    refine sg_wd13 a b (bl k) k i hB ⟨by omega, by omega, b14, by omega, by omega, trivial⟩ ?_
    intro τ y hB1 hF1 _ _ dd _
    have e : y 5 = (a : Int) + i := addC (by omega) (by omega) dd.1
    rw [e]
    refine Ok.ic rfl rfl (by omega) (by omega) (by omega) (by omega) (fun h => ?_) (fun h => ?_)
    · have h : (b : Int) ≤ (a : Int) + i := h
      exact at38 (fun z => absurd z (by omega)) τ hB1 (hF0.tr hF1)
    · have h : (a : Int) + i < (b : Int) := h
      refine sg_wd18 a b (bl k) k i hB1 ⟨by omega, by omega, b14, by omega, by omega, trivial⟩ ?_
      intro τ2 y hB2 hF2 _ _ dd _
      have e : y 5 = (k : Int) + 1 + i := addC (by omega) (by omega) dd.1
      rw [e]
      refine Ok.ald (n := 80) rfl rfl rfl (by decide) (by omega) (by omega) ?_
      have hv := wt_ok hB2 (j := (k : Int) + 1 + i) (by omega) (by omega)
      rw [hv, show ((k : Int) + 1 + i).toNat = k + 1 + i by omega]
      have wr := wt_r (k + 1 + i) (by omega)
      refine sg_wd26 a b (bl k) k i (wt (k + 1 + i)) hB2 ⟨by omega, by omega, b14, by omega, by omega, by omega, trivial⟩ ?_
      intro τ3 y hB3 hF3 _ _ dd _
      have e : y 6 = (a : Int) + i := addC (by omega) (by omega) dd.1
      rw [e]
      have hF3' : FQ [] σ0 τ3 := ((hF0.tr hF1).tr hF2).tr hF3
      refine Ok.ald (n := 400) rfl rfl rfl (by decide) (by omega) (by omega) ?_
      have ht : (τ3.1 114 ((a : Int) + i).toNat).toInt = tp (a + i) := by
        rw [hF3' 114 _ rfl, show ((a : Int) + i).toNat = a + i by omega]
        exact hb0.2.2.1 (a + i) (by omega)
      rw [ht]
      have tr := hb0.2.2.2 (a + i) (by omega)
      refine Ok.ic rfl rfl (by omega) (by omega) (by omega) (by omega) (fun h2 => ?_) (fun h2 => ?_)
      · have h2 : wt (k + 1 + i) ≠ tp (a + i) := h2
        exact at38 (fun _ => h2) τ3 hB3 hF3'
      · have h2 : wt (k + 1 + i) = tp (a + i) := h2
        have h3 := hl (a + i) (by omega) (by omega)
        have hne : k + 1 + i ≠ 79 := by
          intro z
          rw [z, wt_79] at h2
          exact h3 h2.symm
        refine sg_wd33 a b (bl k) k i hB3 ⟨by omega, by omega, b14, by omega, by omega, trivial⟩ ?_
        intro τ4 y hB4 hF4 _ _ _ _
        refine ih (i + 1) τ4 (by omega) (by omega) (by omega) (fun j hj => ?_) hB4 (hF3'.tr hF4)
        by_cases ej : j = i
        · rw [ej]
          exact h2
        · exact hm j (by omega)
set_option maxRecDepth 20000 in
theorem xw_4 {σ0 : pm_S} {Q : Option Value → pm_S → Prop} (a b : Nat) (hab : a ≤ b) (hbn : b ≤ n) (hb0 : mt_B tp n σ0) (hl : ∀ j, a ≤ j → j < b → tp j ≠ 32) (hQ : ∀ (σ : pm_S), an_GB pm_B σ → FQ [] σ0 σ → Q (some (.int (Int32.ofInt (ts_w tp a b)))) σ) :
    ∀ (N k : Nat), k + N = 79 → (∀ (σ : pm_S) (v : Value), v.category = 1 → wt k = 32 → ts_w tp a b = ts_wk tp a b (79 - k) k → an_GB pm_B σ → FQ [] σ0 σ → Ok 181 11 4 [.ref 93, .int (Int32.ofInt (a : Int)), .int (Int32.ofInt (b : Int)), .int (Int32.ofInt (bl k - 1)), .int (Int32.ofInt (k : Int)), v] [] σ Q) ∧
      (∀ (σ : pm_S) (v : Value), v.category = 1 → ts_w tp a b = ts_wk tp a b (79 - k) k → an_GB pm_B σ → FQ [] σ0 σ → Ok 181 11 59 [.ref 93, .int (Int32.ofInt (a : Int)), .int (Int32.ofInt (b : Int)), .int (Int32.ofInt (bl k - 1)), .int (Int32.ofInt (k : Int)), v] [] σ Q) := by
  have hn := hb0.1
  intro N
  induction N with
  | zero =>
    intro k hk
    have hk' : k = 79 := by omega
    have b15 := bl_15 k (by omega)
    have c4 : ∀ (σ : pm_S) (v : Value), v.category = 1 → wt k = 32 → ts_w tp a b = ts_wk tp a b (79 - k) k → an_GB pm_B σ → FQ [] σ0 σ → Ok 181 11 4 [.ref 93, .int (Int32.ofInt (a : Int)), .int (Int32.ofInt (b : Int)), .int (Int32.ofInt (bl k - 1)), .int (Int32.ofInt (k : Int)), v] [] σ Q := by
      intro σ v hv hw hs hB hF0
      refine sg_wd4 a b (bl k - 1) k v hv hB ⟨by omega, by omega, by omega, by omega, trivial⟩ ?_ ?_
      · intro τ y hB1 hF1 _ _ _ _
        have q := hQ τ hB1 (hF0.tr hF1)
        rw [hs, hk'] at q
        exact q
      · intro τ y hB1 hF1 f _ _ _
        have f4 := f.2.2.2.1
        exfalso
        omega
    refine ⟨c4, ?_⟩
    intro σ v hv hs hB hF0
    refine sg_wd59 a b (bl k - 1) k v hv hB ⟨by omega, by omega, by omega, by omega, trivial⟩ ?_
    intro τ y v1 hv1 hB1 hF1 _ _ _ _
    refine Ok.ald (n := 80) rfl rfl rfl (by decide) (by omega) (by omega) ?_
    have hw := wt_ok hB1 (j := (k : Int)) (by omega) (by omega)
    rw [hw, Int.toNat_natCast]
    have wr := wt_r k (by omega)
    refine sg_wd63 a b (bl k - 1) k (wt k) v1 hv1 hB1 ⟨by omega, by omega, by omega, by omega, by omega, trivial⟩ ?_ ?_
    · intro τ2 y v2 hv2 hB2 hF2 _ _ _ _
      exact c4 τ2 v2 hv2 (by rw [hk']; exact wt_79) hs hB2 ((hF0.tr hF1).tr hF2)
    · intro τ2 y v2 hv2 hB2 hF2 _ r _ _
      exact absurd (by rw [hk']; exact wt_79) r.1
  | succ N ih =>
    intro k hk
    have b15 := bl_15 k (by omega)
    obtain ⟨-, i59⟩ := ih (k + 1) (by omega)
    have c4 : ∀ (σ : pm_S) (v : Value), v.category = 1 → wt k = 32 → ts_w tp a b = ts_wk tp a b (79 - k) k → an_GB pm_B σ → FQ [] σ0 σ → Ok 181 11 4 [.ref 93, .int (Int32.ofInt (a : Int)), .int (Int32.ofInt (b : Int)), .int (Int32.ofInt (bl k - 1)), .int (Int32.ofInt (k : Int)), v] [] σ Q := by
      intro σ v hv hw hs hB hF0
      have b14 := bl_14 k (by omega) hw
      have at2 := wk_at (tp := tp) (a := a) (b := b) (Nat.le_refl k) (show k < 79 by omega) hw (fun j h1 h2 => absurd h1 (by omega))
      refine sg_wd4 a b (bl k - 1) k v hv hB ⟨by omega, by omega, by omega, by omega, trivial⟩ ?_ ?_
      · intro τ y hB1 hF1 f _ _ _
        have f4 := f.2.2.2.1
        exfalso
        omega
      · intro τ y hB1 hF1 _ _ _ _
        rw [show bl k - 1 + 1 = bl k by omega]
        refine xw_13 a b k hab hbn (by omega) hw hb0 hl ?_ ?_ 80 0 τ (by omega) (by omega) (by omega) (fun j hj => absurd hj (Nat.not_lt_zero _)) hB1 (hF0.tr hF1)
        · intro hm σ' v' hv' hB' hF'
          rw [if_neg hm] at at2
          have := i59 σ' v' hv' (hs.trans at2) hB' hF'
          have e : bl (k + 1) - 1 = bl k := by
            rw [bl_s, if_pos hw]
            omega
          rw [e] at this
          exact this
        · intro hm σ' hB' hF'
          rw [if_pos hm] at at2
          have q := hQ σ' hB' hF'
          rw [hs, at2] at q
          exact q
    refine ⟨c4, ?_⟩
    intro σ v hv hs hB hF0
    refine sg_wd59 a b (bl k - 1) k v hv hB ⟨by omega, by omega, by omega, by omega, trivial⟩ ?_
    intro τ y v1 hv1 hB1 hF1 _ _ _ _
    refine Ok.ald (n := 80) rfl rfl rfl (by decide) (by omega) (by omega) ?_
    have hw := wt_ok hB1 (j := (k : Int)) (by omega) (by omega)
    rw [hw, Int.toNat_natCast]
    have wr := wt_r k (by omega)
    refine sg_wd63 a b (bl k - 1) k (wt k) v1 hv1 hB1 ⟨by omega, by omega, by omega, by omega, by omega, trivial⟩ ?_ ?_
    · intro τ2 y v2 hv2 hB2 hF2 f _ _ _
      have f5 := f.2.2.2.2.1
      exact c4 τ2 v2 hv2 (by omega) hs hB2 ((hF0.tr hF1).tr hF2)
    · intro τ2 y v2 hv2 hB2 hF2 _ r _ _
      have := i59 τ2 v2 hv2 (hs.trans (wk_skip (by omega) r.1)) hB2 ((hF0.tr hF1).tr hF2)
      have e : bl (k + 1) - 1 = bl k - 1 := by
        rw [bl_s, if_neg r.1]
        omega
      rw [e] at this
      exact this
theorem x_mwd {σ : pm_S} (a b : Nat) (hab : a ≤ b) (hbn : b ≤ n) (hl : ∀ j, a ≤ j → j < b → tp j ≠ 32) (hB : an_GB pm_B σ) (hb : mt_B tp n σ) : Sp 181 11 [.ref 93, .int (Int32.ofInt (a : Int)), .int (Int32.ofInt (b : Int))] σ (fun r τ => r = some (.int (Int32.ofInt (ts_w tp a b))) ∧ an_GB pm_B τ ∧ FQ [] σ τ) := by
  have hn := hb.1
  refine Sp.at rfl rfl ?_
  refine sg_wd0 a b _ _ _ rfl rfl rfl hB ⟨by omega, by omega, trivial⟩ ?_
  intro τ y v5 k5 hB1 F1 _ _ _ _
  exact (xw_4 a b hab hbn (hb.fq (G := []) rfl F1) hl (fun σ' hB' F' => ⟨rfl, hB', FQ.tr F1 F'⟩) 79 0 rfl).1 τ v5 k5 wt_0 rfl hB1 (FQ.rf [] τ)
end MTOK
