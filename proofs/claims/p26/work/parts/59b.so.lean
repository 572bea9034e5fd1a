/-! isSo, lets -/
theorem wR_pre {o a : Nat → Int32} {k : Nat} : ∀ {n : Nat} {s : Nat × Bool}, wR o a k n = some s → ∀ i, i ≤ n → ∃ s', wR o a k i = some s'
  | 0, s, h, i, hi => ⟨s, by rw [show i = 0 by omega]; exact h⟩
  | n + 1, s, h, i, hi => by
    by_cases e : i = n + 1
    · exact ⟨s, by rw [e]; exact h⟩
    · have h' : (wR o a k n).bind (wS (o (k + n)) (a (k + n))) = some s := h
      cases hn : wR o a k n with
      | none => rw [hn] at h'; cases h'
      | some s' => exact wR_pre hn i (by omega)
theorem wS_le {o a : Int32} {s s' : Nat × Bool} (h : wS o a s = some s') : s'.1 ≤ s.1 + 1 := by
  unfold wS at h
  split at h
  · cases h; exact Nat.le_refl _
  · split at h
    · split at h
      · cases h; exact Nat.le_refl _
      · cases h
    · split at h
      · split at h
        · cases h; exact Nat.le_succ _
        · cases h
      · split at h
        · split at h
          · cases h; show s.1 - 1 ≤ s.1 + 1; omega
          · cases h
        · split at h
          · cases h; show s.1 - 1 ≤ s.1 + 1; omega
          · cases h
theorem wR_le {o a : Nat → Int32} {k : Nat} : ∀ {n : Nat} {s : Nat × Bool}, wR o a k n = some s → s.1 ≤ n
  | 0, s, h => by cases h; exact Nat.le_refl _
  | n + 1, s, h => by
    have h' : (wR o a k n).bind (wS (o (k + n)) (a (k + n))) = some s := h
    cases hn : wR o a k n with
    | none => rw [hn] at h'; cases h'
    | some s' =>
      rw [hn] at h'
      have := wR_le hn
      have := wS_le (show wS (o (k + n)) (a (k + n)) s' = some s from h')
      omega
abbrev qSo (σ0 : pm_S) : Option Value → pm_S → Prop := fun r τ => (r = some (.int (Int32.ofInt 0)) ∨ r = some (.int (Int32.ofInt 1))) ∧ an_GB pm_B τ ∧ FQ [(123, 9999)] σ0 τ
theorem so_two {σ : pm_S} (hB : an_GB pm_B σ) (o x y : Int) (ho : 0 ≤ o ∧ o ≤ 11) (hx : (-2147483648) ≤ x ∧ x ≤ 2147483647) (hy : (-2147483648) ≤ y ∧ y ≤ 2147483647) (h5 : o = 5 → y ≠ 0) : Sp 197 20 [.ref 93, .int (Int32.ofInt o), .int (Int32.ofInt x), .int (Int32.ofInt y)] σ (fun r τ => ∃ w : Int32, r = some (.int w) ∧ an_GB pm_B τ ∧ FQ [] σ τ) := by
  have eo : (Int32.ofInt o).toInt = o := ti_of (by omega) (by omega)
  have ex : (Int32.ofInt x).toInt = x := ti_of hx.1 hx.2
  have ey : (Int32.ofInt y).toInt = y := ti_of hy.1 hy.2
  have fin : ∀ (r : Option Value) (τ : pm_S), (an_GB pm_B τ ∧ an_spost r (1, (-2147483648), 2147483647) ∧ (∀ p j, an_inF [] p j = false → τ.1 p j = σ.1 p j) ∧ an_scel τ []) → ∃ w : Int32, r = some (.int w) ∧ an_GB pm_B τ ∧ FQ [] σ τ := by
    intro r τ h
    obtain ⟨h1, ⟨w, e, -, -⟩, h3, -⟩ := h
    exact ⟨w, e, h1, h3⟩
  by_cases h1 : o ≤ 4
  · exact (tw_a_ok σ [.ref 93, .int (Int32.ofInt o), .int (Int32.ofInt x), .int (Int32.ofInt y)] hB ⟨rfl, ⟨_, rfl, by show (0 : Int) ≤ _; omega, by show _ ≤ (4 : Int); omega⟩, ⟨_, rfl, ai_rng _⟩, ⟨_, rfl, ai_rng _⟩, trivial⟩ (fun q hq => absurd hq List.not_mem_nil)).use (by decide) fin
  · by_cases h2 : o = 5
    · have hy0 : ¬ Int32.ofInt y = 0 := by
        intro z
        have : (Int32.ofInt y).toInt = 0 := by rw [z]; rfl
        have := h5 h2
        omega
      exact (tw_c_ok σ [.ref 93, .int (Int32.ofInt o), .int (Int32.ofInt x), .int (Int32.ofInt y)] hB ⟨rfl, ⟨_, rfl, by show (5 : Int) ≤ _; omega, by show _ ≤ (5 : Int); omega⟩, ⟨_, rfl, ai_rng _⟩, ⟨_, rfl, (ai_rng _).1, (ai_rng _).2, hy0⟩, trivial⟩ (fun q hq => absurd hq List.not_mem_nil)).use (by decide) fin
    · exact (tw_b_ok σ [.ref 93, .int (Int32.ofInt o), .int (Int32.ofInt x), .int (Int32.ofInt y)] hB ⟨rfl, ⟨_, rfl, by show (6 : Int) ≤ _; omega, by show _ ≤ (11 : Int); omega⟩, ⟨_, rfl, ai_rng _⟩, ⟨_, rfl, ai_rng _⟩, trivial⟩ (fun q hq => absurd hq List.not_mem_nil)).use (by decide) fin
theorem so_loop {σ0 : pm_S} {l f n : Nat} (hl : l ≤ 15) (h118 : (σ0.1 118 l).toInt = (f : Int) + n) (hle : f + n ≤ 400) {sE : Nat × Bool} (hE : wR (σ0.1 119) (σ0.1 120) f n = some sE) : ∀ (N i : Nat) (d : Nat) (fl : Bool) (σ : pm_S), i + N = n → an_GB pm_B σ → FQ [(123, 9999)] σ0 σ → wR (σ0.1 119) (σ0.1 120) f i = some (d, fl) → (fl = true → 1 ≤ d ∧ (σ.1 123 (d - 1)).toInt ≠ 0) → Ok 198 21 22 [.ref 93, .int (Int32.ofInt 0), .int (Int32.ofInt (l : Int)), .int (Int32.ofInt (d : Int)), .int (Int32.ofInt ((f + i : Nat) : Int))] [] σ (qSo σ0) := by
  intro N
  induction N with
  | zero =>
    intro i d fl σ hN hB hF hw hfl
    have hd := wR_le hw
    dsimp only at hd
    refine sg_so22 l d ((f + i : Nat) : Int) hB ⟨by omega, by omega, by omega, trivial⟩ ?_
    intro τ y hB1 hF1 _ _ _ c
    have e : y 3 = (f : Int) + n := by
      rw [← c.1, hF1 118 _ rfl, hF 118 _ rfl]
      exact h118
    rw [e]
    refine Ok.ic rfl rfl (by omega) (by omega) (by omega) (by omega) (fun h => ?_) (fun h => ?_)
    · refine sg_so118 _ _ _ rfl rfl rfl hB1 ?_ ?_
      · intro τ2 y2 hB2 hF2 _ _ _ _
        exact ⟨Or.inl rfl, hB2, (hF.tr (FQ.up (G := []) rfl hF1)).tr (FQ.up (G := []) rfl hF2)⟩
      · intro τ2 y2 hB2 hF2 _ _ _ _
        exact ⟨Or.inr rfl, hB2, (hF.tr (FQ.up (G := []) rfl hF1)).tr (FQ.up (G := []) rfl hF2)⟩
    · exfalso
      have h : ((f + i : Nat) : Int) < (f : Int) + n := h
      omega
  | succ N ih =>
    intro i d fl σ hN hB hF hw hfl
    have hd := wR_le hw
    dsimp only at hd
    obtain ⟨s', hs'⟩ := wR_pre hE (i + 1) (by omega)
    have hstep : wS (σ0.1 119 (f + i)) (σ0.1 120 (f + i)) (d, fl) = some s' := by
      have h' : (wR (σ0.1 119) (σ0.1 120) f i).bind (wS (σ0.1 119 (f + i)) (σ0.1 120 (f + i))) = some s' := hs'
      rw [hw] at h'
      exact h'
    have cast1 : ((f + (i + 1) : Nat) : Int) = ((f + i : Nat) : Int) + 1 := by omega
    refine sg_so22 l d ((f + i : Nat) : Int) hB ⟨by omega, by omega, by omega, trivial⟩ ?_
    intro τ y hB1 hF1 _ _ _ c
    have e : y 3 = (f : Int) + n := by
      rw [← c.1, hF1 118 _ rfl, hF 118 _ rfl]
      exact h118
    rw [e]
    have hFa : FQ [(123, 9999)] σ0 τ := hF.tr (FQ.up (G := []) rfl hF1)
    have ixk : (((f + i : Nat) : Int)).toNat = f + i := by omega
    refine Ok.ic rfl rfl (by omega) (by omega) (by omega) (by omega) (fun h => ?_) (fun h => ?_)
    · exfalso
      have h : (f : Int) + n ≤ ((f + i : Nat) : Int) := h
      omega
    · refine sg_so32 l d ((f + i : Nat) : Int) hB1 ⟨by omega, by omega, by omega, trivial⟩ ?_ ?_ ?_ ?_
      · -- a number
        intro τ2 y2 hB2 hF2 f2 _ _ c2
        have hFb : FQ [(123, 9999)] σ0 τ2 := hFa.tr (FQ.up (G := []) rfl hF2)
        have o0 : (σ0.1 119 (f + i)).toInt = 0 := by
          have := c2.1
          rw [hFb 119 _ rfl, ixk] at this
          omega
        have a0 : (σ0.1 120 (f + i)).toInt = y2 4 := by
          have := c2.2.1
          rw [hFb 120 _ rfl, ixk] at this
          exact this
        have hs : s' = (d + 1, decide (y2 4 ≠ 0)) := by
          unfold wS at hstep
          rw [if_pos o0, a0] at hstep
          exact (Option.some.inj hstep).symm
        refine Ok.ast (n := 420) rfl rfl rfl (by decide) (by omega) (by omega) ?_
        have hB3 : an_GB pm_B (put τ2 123 ((d : Int)).toNat (Int32.ofInt (y2 4))) := put_GB hB2 (ai_rng _)
        refine sg_so64 l d ((f + i : Nat) : Int) hB3 ⟨by omega, by omega, by omega, trivial⟩ ?_
        intro τ4 y4 hB4 hF4 _ _ _ _
        have := ih (i + 1) (d + 1) (decide (y2 4 ≠ 0)) τ4 (by omega) hB4 ((hFb.tr (FQ.put rfl)).tr (FQ.up (G := []) rfl hF4)) (by rw [hs', hs]) (fun z => ⟨by omega, by
          rw [hF4 123 _ rfl, show d + 1 - 1 = ((d : Int)).toNat by omega, put_eq, ti_of (by omega) (by omega)]
          exact of_decide_eq_true z⟩)
        rw [cast1] at this
        exact this
      · -- not
        intro τ2 y2 hB2 hF2 f2 _ _ c2
        have hFb : FQ [(123, 9999)] σ0 τ2 := hFa.tr (FQ.up (G := []) rfl hF2)
        have o0 : (σ0.1 119 (f + i)).toInt = 9 := by
          have := c2.1
          rw [hFb 119 _ rfl, ixk] at this
          omega
        have hs : 1 ≤ d ∧ s' = (d, false) := by
          unfold wS at hstep
          rw [if_neg (by omega), if_neg (by omega), if_pos o0] at hstep
          split at hstep
          · rename_i h1
            exact ⟨h1, (Option.some.inj hstep).symm⟩
          · cases hstep
        refine sg_so75 l d ((f + i : Nat) : Int) hB2 ⟨by omega, by omega, by omega, trivial⟩ ?_
        intro τ3 y3 hB3 hF3 _ _ _ _
        refine Ok.ast (n := 420) rfl rfl rfl (by decide) (by omega) (by omega) ?_
        have hB4 : an_GB pm_B (put τ3 123 ((d : Int) + (-1)).toNat (Int32.ofInt (y3 4))) := put_GB hB3 (ai_rng _)
        refine sg_so89 l d ((f + i : Nat) : Int) hB4 ⟨by omega, by omega, by omega, trivial⟩ ?_
        intro τ5 y5 hB5 hF5 _ _ _ _
        have := ih (i + 1) d false τ5 (by omega) hB5 (((hFb.tr (FQ.up (G := []) rfl hF3)).tr (FQ.put rfl)).tr (FQ.up (G := []) rfl hF5)) (by rw [hs', hs.2]) (fun z => by cases z)
        rw [cast1] at this
        exact this
      · -- two
        intro τ2 y2 hB2 hF2 f2 r2 _ c2
        have hFb : FQ [(123, 9999)] σ0 τ2 := hFa.tr (FQ.up (G := []) rfl hF2)
        have o0 : (σ0.1 119 (f + i)).toInt = y2 3 := by
          have := c2.1
          rw [hFb 119 _ rfl, ixk] at this
          exact this
        have n9 := r2.1
        have hs : 2 ≤ d ∧ s' = (d - 1, false) ∧ (y2 3 = 5 → fl = true) := by
          unfold wS at hstep
          rw [if_neg (by omega), if_neg (by omega), if_neg (by omega)] at hstep
          split at hstep
          · split at hstep
            · rename_i h1
              exact ⟨h1.1, (Option.some.inj hstep).symm, fun _ => h1.2⟩
            · cases hstep
          · rename_i h5
            split at hstep
            · rename_i h1
              exact ⟨h1, (Option.some.inj hstep).symm, fun z => absurd (o0.trans z) h5⟩
            · cases hstep
        refine sg_so90 l d ((f + i : Nat) : Int) hB2 ⟨by omega, by omega, by omega, trivial⟩ ?_
        intro τ3 y3 hB3 hF3 f3 _ _ c3
        have o3 : y3 3 = y2 3 := by
          have := c3.1
          rw [hF3 119 _ rfl, hFb 119 _ rfl, ixk] at this
          omega
        have s3 : y3 3 = 5 → y3 5 ≠ 0 := by
          intro z
          have hz := hfl (hs.2.2 (by omega))
          have := c3.2.2.1
          rw [hF3 123 _ rfl, hF2 123 _ rfl, hF1 123 _ rfl, show ((d : Int) + (-1)).toNat = d - 1 by omega] at this
          rw [← this]
          exact hz.2
        refine Ok.cv rfl rfl rfl rfl rfl rfl rfl ?_
        refine (so_two hB3 (y3 3) (y3 4) (y3 5) (by omega) (by omega) (by omega) s3).use (Nat.le_refl _) (fun r4 τ4 q4 => ?_)
        obtain ⟨w, rfl, hB4, hF4⟩ := q4
        refine Ok.ast (n := 420) rfl rfl rfl (by decide) (by omega) (by omega) ?_
        have hB5 : an_GB pm_B (put τ4 123 ((d : Int) + (-2)).toNat w) := put_GB hB4 (ai_rng _)
        refine sg_so116 l ((d : Int) + (-1)) ((f + i : Nat) : Int) hB5 ⟨by omega, by omega, by omega, trivial⟩ ?_
        intro τ6 y6 hB6 hF6 _ _ _ _
        have := ih (i + 1) (d - 1) false τ6 (by omega) hB6 ((((hFb.tr (FQ.up (G := []) rfl hF3)).tr (FQ.up (G := []) rfl hF4)).tr (FQ.put rfl)).tr (FQ.up (G := []) rfl hF6)) (by rw [hs', hs.2.1]) (fun z => by cases z)
        rw [cast1, show (((d - 1 : Nat)) : Int) = (d : Int) + (-1) by omega] at this
        exact this
      · -- asked
        intro τ2 y2 hB2 hF2 f2 _ _ c2
        have hFb : FQ [(123, 9999)] σ0 τ2 := hFa.tr (FQ.up (G := []) rfl hF2)
        have o0 : (σ0.1 119 (f + i)).toInt = 1 := by
          have := c2.1
          rw [hFb 119 _ rfl, ixk] at this
          omega
        have a0 : (σ0.1 120 (f + i)).toInt = y2 4 := by
          have := c2.2.1
          rw [hFb 120 _ rfl, ixk] at this
          exact this
        have hs : (0 ≤ y2 4 ∧ y2 4 ≤ 8) ∧ s' = (d + 1, false) := by
          unfold wS at hstep
          rw [if_neg (by omega), if_pos o0, a0] at hstep
          split at hstep
          · rename_i h1
            exact ⟨h1, (Option.some.inj hstep).symm⟩
          · cases hstep
        refine Ok.ald (n := 9) rfl rfl rfl (by decide) (by omega) (by omega) ?_
        refine Ok.ast (n := 420) rfl rfl rfl (by decide) (by omega) (by omega) ?_
        have hB3 : an_GB pm_B (put τ2 123 ((d : Int)).toNat (Int32.ofInt (τ2.1 122 (y2 4).toNat).toInt)) := put_GB hB2 (ai_rng _)
        refine sg_so64 l d ((f + i : Nat) : Int) hB3 ⟨by omega, by omega, by omega, trivial⟩ ?_
        intro τ4 y4 hB4 hF4 _ _ _ _
        have := ih (i + 1) (d + 1) false τ4 (by omega) hB4 ((hFb.tr (FQ.put rfl)).tr (FQ.up (G := []) rfl hF4)) (by rw [hs', hs.2]) (fun z => by cases z)
        rw [cast1] at this
        exact this
theorem m_isSo {σ : pm_S} (hB : an_GB pm_B σ) (l f n : Nat) (hl : l ≤ 15) (h117 : (σ.1 117 l).toInt = (f : Int)) (h118 : (σ.1 118 l).toInt = (f : Int) + n) (hle : f + n ≤ 400) {sE : Nat × Bool} (hE : wR (σ.1 119) (σ.1 120) f n = some sE) : Sp 198 21 [.ref 93, .int (Int32.ofInt 0), .int (Int32.ofInt (l : Int))] σ (qSo σ) := by
  refine Sp.at rfl rfl ?_
  refine sg_so0 l _ _ rfl rfl hB ⟨by omega, trivial⟩ ?_ ?_
  · intro τ y hB1 hF1 _ _ _ c
    have e : y 1 = (f : Int) := by
      rw [← c.1, hF1 117 _ rfl]
      exact h117
    rw [e]
    have := so_loop hl h118 hle hE n 0 0 false τ (by omega) hB1 (FQ.up (G := []) rfl hF1) rfl (fun z => by cases z)
    exact this
  · intro τ y hB1 hF1 _ _ _ _
    exact ⟨Or.inr rfl, hB1, FQ.up (G := []) rfl hF1⟩
abbrev FLe : List (Nat × Nat) := [(122, 9999), (123, 9999)]
abbrev qLe (σ0 : pm_S) : Option Value → pm_S → Prop := fun r τ => (r = some (.int (Int32.ofInt 0)) ∨ r = some (.int (Int32.ofInt 1))) ∧ an_GB pm_B τ ∧ FQ FLe σ0 τ
theorem lwW.fr {σ τ : pm_S} (G : List (Nat × Nat)) (h36 : an_inF G 93 36 = false) (h1 : an_inP G 117 = false) (h2 : an_inP G 118 = false) (h3 : an_inP G 119 = false) (h4 : an_inP G 120 = false) (hF : FQ G σ τ) (h : lwW σ) : lwW τ := by
  intro i hi
  rw [hF.c 36 h36] at hi
  obtain ⟨f, n, e1, e2, e3, s, e4⟩ := h i hi
  refine ⟨f, n, by rw [hF 117 _ (an_inP_ok h1 _)]; exact e1, by rw [hF 118 _ (an_inP_ok h2 _)]; exact e2, e3, s, ?_⟩
  rw [wR_congr n (fun j _ _ => ⟨hF 119 j (an_inP_ok h3 j), hF 120 j (an_inP_ok h4 j)⟩)]
  exact e4
theorem le_loop {σ0 : pm_S} (hW : lwW σ0) (d : Int) (hd : 0 ≤ d ∧ d ≤ 29) : ∀ (N l : Nat) (σ : pm_S), 16 < l + N → l ≤ 16 → an_GB pm_B σ → FQ FLe σ0 σ → Ok 201 41 83 [.ref 93, .int (Int32.ofInt d), .int (Int32.ofInt (l : Int))] [] σ (qLe σ0) := by
  intro N
  induction N with
  | zero => intro l σ h1 h2; exfalso; omega
  | succ N ih =>
    intro l σ hN hl hB hF
    have g36 : 0 ≤ cI σ 36 ∧ cI σ 36 ≤ 16 := hB 93 36 (by decide)
    refine sg_le83 d l (cI σ 36) hB ⟨hd, by omega, g36, trivial⟩ ⟨rfl, trivial⟩ ?_
    intro τ y hB1 hF1 _ _ _ _
    have hFa : FQ FLe σ0 τ := hF.tr (FQ.up (G := []) rfl hF1)
    refine Ok.ic rfl rfl (by omega) (by omega) (by omega) (by omega) (fun h => ?_) (fun h => ?_)
    · refine sg_le103 _ _ rfl rfl hB1 ?_
      intro τ2 y2 hB2 hF2 _ _ _ _
      exact ⟨Or.inr rfl, hB2, hFa.tr (FQ.up (G := []) rfl hF2)⟩
    · have h : (l : Int) < cI σ 36 := h
      refine sg_le87 d l hB1 ⟨hd, by omega, trivial⟩ ?_
      intro τ2 y2 hB2 hF2 _ _ _ _
      have hFb : FQ FLe σ0 τ2 := hFa.tr (FQ.up (G := []) rfl hF2)
      have hW2 : lwW τ2 := lwW.fr FLe rfl rfl rfl rfl rfl hFb hW
      obtain ⟨f, n, e1, e2, e3, s, e4⟩ := hW2 l (by rw [hFb.c 36 rfl, ← hF.c 36 rfl]; exact h)
      refine Ok.cv rfl rfl rfl rfl rfl rfl rfl ?_
      refine (m_isSo hB2 l f n (by omega) e1 e2 e3 e4).use (by decide) (fun r3 τ3 q3 => ?_)
      obtain ⟨q3, hB3, hF3⟩ := q3
      have hFc : FQ FLe σ0 τ3 := hFb.tr (hF3.up rfl)
      have fin : ∀ r : Int, (r = 0 ∨ r = 1) → Ok 201 41 91 [.ref 93, .int (Int32.ofInt d), .int (Int32.ofInt (l : Int))] [.int (Int32.ofInt r)] τ3 (qLe σ0) := by
        intro r hr
        refine sg_le91 d l r hB3 ⟨hd, by omega, by omega, trivial⟩ ?_ ?_ ?_
        · intro τ4 y4 hB4 hF4 _ _ _ _
          exact ih (l + 1) τ4 (by omega) (by omega) hB4 (hFc.tr (FQ.up (G := []) rfl hF4))
        · intro τ4 y4 hB4 hF4 _ _ _ _
          exact ⟨Or.inl rfl, hB4, hFc.tr (FQ.up (G := []) rfl hF4)⟩
        · intro τ4 y4 hB4 hF4 _ _ _ _
          exact ⟨Or.inr rfl, hB4, hFc.tr (FQ.up (G := []) rfl hF4)⟩
      rcases q3 with rfl | rfl
      · exact fin 0 (Or.inl rfl)
      · exact fin 1 (Or.inr rfl)
theorem m_lets {σ : pm_S} (hB : an_GB pm_B σ) (hW : lwW σ) (d : Int) (hd : 0 ≤ d ∧ d ≤ 29) : Sp 201 41 [.ref 93, .int (Int32.ofInt d)] σ (qLe σ) := by
  refine Sp.at rfl rfl ?_
  refine sg_le0 d _ rfl hB ⟨hd, trivial⟩ ?_
  intro τ y hB1 hF1 _ _ _ _
  have hF : FQ FLe σ τ := FQ.up (G := [(122, 9999)]) rfl hF1
  exact le_loop hW d hd 17 0 τ (by omega) (by omega) hB1 hF
