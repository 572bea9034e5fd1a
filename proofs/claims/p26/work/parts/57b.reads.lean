/-! reads: the next token -/
theorem gB {σ : pm_S} (hB : an_GB pm_B σ) : (0 ≤ cI σ 30 ∧ cI σ 30 ≤ 400) ∧ (0 ≤ cI σ 31 ∧ cI σ 31 ≤ 400) ∧ (0 ≤ cI σ 32 ∧ cI σ 32 ≤ 400) ∧ (0 ≤ cI σ 33 ∧ cI σ 33 ≤ 4) ∧ (0 ≤ cI σ 42 ∧ cI σ 42 ≤ 400) ∧ (0 ≤ cI σ 43 ∧ cI σ 43 ≤ 8) ∧ (0 ≤ cI σ 45 ∧ cI σ 45 ≤ 40) :=
  ⟨hB 93 30 (by decide), hB 93 31 (by decide), hB 93 32 (by decide), hB 93 33 (by decide), hB 93 42 (by decide), hB 93 43 (by decide), hB 93 45 (by decide)⟩
def Rd (σ : pm_S) : Prop := cI σ 32 ≤ cI σ 31 ∧ (cI σ 33 ≠ 0 → cI σ 32 + 1 ≤ cI σ 31) ∧ (cI σ 33 = 2 → 0 ≤ cI σ 34 ∧ cI σ 34 ≤ 14)
abbrev FR : List (Nat × Nat) := [(93, 31), (93, 32), (93, 33), (93, 34)]
abbrev QR (σ0 : pm_S) : Option Value → pm_S → Prop := fun r τ => r = none ∧ an_GB pm_B τ ∧ Rd τ ∧ cI σ0 31 ≤ cI τ 32 ∧ FQ FR σ0 τ
theorem r_90 {σ0 : pm_S} : ∀ (N : Nat) (σ : pm_S) (v : Value), v.category = 1 → 400 - cI σ 31 < N → an_GB pm_B σ → FQ FR σ0 σ → cI σ 32 < cI σ 31 → cI σ 33 = 1 → cI σ0 31 ≤ cI σ 32 → Ok 182 41 90 [.ref 93, v] [] σ (QR σ0) := by
  intro N
  induction N with
  | zero => intro σ v hv hN hB; have := gB hB; exfalso; omega
  | succ N ih =>
    intro σ v hv hN hB hF h1 h2 h3
    have g := gB hB
    refine sg_rd90 (cI σ 31) (cI σ 32) v hv hB ⟨g.2.1, g.2.2.1, trivial⟩ ⟨rfl, rfl, h2, trivial⟩ ?_ ?_ ?_
    · intro τ y hB1 hF1 f r dd c
      refine ⟨rfl, hB1, ⟨?_, ?_, ?_⟩, ?_, hF.tr hF1⟩ <;> dsimp only [cI] at * <;> omega
    · intro τ y hB1 hF1 f r dd c
      refine ⟨rfl, hB1, ⟨?_, ?_, ?_⟩, ?_, hF.tr hF1⟩ <;> dsimp only [cI] at * <;> omega
    · intro τ y v1 hv1 hB1 hF1 f r dd c
      refine ih τ v1 hv1 ?_ hB1 (hF.tr hF1) ?_ ?_ ?_ <;> dsimp only [cI] at * <;> omega
theorem r_51 {σ0 : pm_S} : ∀ (N : Nat) (σ : pm_S) (v : Value), v.category = 1 → 400 - cI σ 31 < N → an_GB pm_B σ → FQ FR σ0 σ → cI σ 32 < cI σ 31 → cI σ 33 = 1 → cI σ0 31 ≤ cI σ 32 → (∀ j : Int, cI σ 32 ≤ j → j < cI σ 31 → (σ.1 114 j.toNat).toInt ≠ 32) → Ok 182 41 51 [.ref 93, v] [] σ (QR σ0) := by
  intro N
  induction N with
  | zero => intro σ v hv hN hB; have := gB hB; exfalso; omega
  | succ N ih =>
    intro σ v hv hN hB hF h1 h2 h3 hl
    have g := gB hB
    refine sg_rd51 (cI σ 31) (cI σ 32) v hv hB ⟨g.2.1, g.2.2.1, trivial⟩ ⟨rfl, rfl, h2, trivial⟩ ?_ ?_
    · intro τ y v1 hv1 hB1 hF1 f r dd c
      refine Ok.cv rfl rfl rfl rfl rfl rfl rfl ?_
      refine (m_wordAt hB1 (cI σ 32) (cI σ 31) g.2.2.1.1 h1 g.2.1.2 ?_).use (by decide) (fun r2 τ2 hr => ?_)
      · intro j j1 j2
        rw [hF1 114 j.toNat rfl]
        exact hl j j1 j2
      · obtain ⟨w, rfl, w1, w2, hB2, hF2⟩ := hr
        have hF2' : FQ FR σ0 τ2 := (hF.tr hF1).tr (hF2.up rfl)
        refine sg_rd72 (cI σ 31) (cI σ 32) w v1 hv1 hB2 ⟨g.2.1, g.2.2.1, ⟨w1, w2⟩, trivial⟩ ⟨?_, ?_, ?_, trivial⟩ ?_ ?_
        · rw [hF2 93 31 rfl]; exact c.1
        · rw [hF2 93 32 rfl]; exact c.2.1
        · rw [hF2 93 33 rfl]; exact c.2.2.1
        · intro τ3 y hB3 hF3 f r dd c
          refine ⟨rfl, hB3, ⟨?_, ?_, ?_⟩, ?_, hF2'.tr hF3⟩ <;> dsimp only [cI] at * <;> omega
        · intro τ3 y hB3 hF3 f r dd c
          refine ⟨rfl, hB3, ⟨?_, ?_, ?_⟩, ?_, hF2'.tr hF3⟩ <;> dsimp only [cI] at * <;> omega
    · intro τ y v1 hv1 hB1 hF1 f r dd c
      refine ih τ v1 hv1 ?_ hB1 (hF.tr hF1) ?_ ?_ ?_ ?_
      · dsimp only [cI] at *; omega
      · dsimp only [cI] at *; omega
      · exact c.2.2.1
      · dsimp only [cI] at *; omega
      · intro j j1 j2
        by_cases e : j = cI σ 31
        · rw [e, c.2.2.2.1]
          omega
        · rw [hF1 114 j.toNat rfl]
          refine hl j ?_ ?_ <;> dsimp only [cI] at * <;> omega
theorem r_0 {σ0 : pm_S} : ∀ (N : Nat) (σ : pm_S) (v : Value), v.category = 1 → 400 - cI σ 31 < N → an_GB pm_B σ → FQ FR σ0 σ → cI σ0 31 ≤ cI σ 31 → Ok 182 41 0 [.ref 93, v] [] σ (QR σ0) := by
  intro N
  induction N with
  | zero => intro σ v hv hN hB; have := gB hB; exfalso; omega
  | succ N ih =>
    intro σ v hv hN hB hF h1
    have g := gB hB
    refine sg_rd0 (cI σ 31) v hv hB ⟨g.2.1, trivial⟩ ⟨rfl, trivial⟩ ?_ ?_
    · intro τ y v1 hv1 hB1 hF1 f r dd c
      have hF2 : FQ FR σ0 τ := hF.tr hF1
      refine sg_rd19 (cI σ 31) v1 hv1 hB1 ⟨g.2.1, trivial⟩ ⟨c.1, trivial⟩ ?_ ?_ ?_ ?_ ?_
      · intro τ3 y hB3 hF3 f r dd c
        refine ⟨rfl, hB3, ⟨?_, ?_, ?_⟩, ?_, hF2.tr hF3⟩ <;> dsimp only [cI] at * <;> omega
      · intro τ3 y hB3 hF3 f r dd c
        refine ⟨rfl, hB3, ⟨?_, ?_, ?_⟩, ?_, hF2.tr hF3⟩ <;> dsimp only [cI] at * <;> omega
      · intro τ3 y hB3 hF3 f r dd c
        refine ⟨rfl, hB3, ⟨?_, ?_, ?_⟩, ?_, hF2.tr hF3⟩ <;> dsimp only [cI] at * <;> omega
      · intro τ3 y hB3 hF3 f r dd c
        refine r_90 401 τ3 _ rfl ?_ hB3 (hF2.tr hF3) ?_ ?_ ?_ <;> dsimp only [cI] at * <;> omega
      · intro τ3 y hB3 hF3 f r dd c
        refine r_51 401 τ3 _ rfl ?_ hB3 (hF2.tr hF3) ?_ ?_ ?_ ?_
        · dsimp only [cI] at *; omega
        · dsimp only [cI] at *; omega
        · dsimp only [cI] at *; omega
        · dsimp only [cI] at *; omega
        · intro j j1 j2
          have e : j = cI σ 31 := by dsimp only [cI] at *; omega
          rw [e, c.2.2.2.2.1]
          omega
    · intro τ y v1 hv1 hB1 hF1 f r dd c
      refine ih τ v1 hv1 ?_ hB1 (hF.tr hF1) ?_ <;> dsimp only [cI] at * <;> omega
theorem m_reads {σ : pm_S} (hB : an_GB pm_B σ) : Sp 182 41 [.ref 93] σ (QR σ) :=
  Sp.at rfl rfl (r_0 402 σ _ rfl (by have := gB hB; omega) hB (FQ.rf _ _) (Int.le_refl _))
