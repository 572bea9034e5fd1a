/-! products, sums, comparisons -/
theorem FQ.c {F : List (Nat × Nat)} {σ τ : pm_S} (h : FQ F σ τ) (j : Nat) (hj : an_inF F 93 j = false) : cI τ j = cI σ j := by
  show (τ.1 93 j).toInt = (σ.1 93 j).toInt
  rw [h 93 j hj]
def IP (σ0 σ : pm_S) : Prop := Rd σ ∧ cI σ0 32 - cI σ0 42 ≤ cI σ 32 - cI σ 42 ∧ cI σ0 32 < cI σ 32 ∧ ∀ b d fl, Wd σ0 b d fl → ∃ fl', Wd σ b (d + 1) fl'
abbrev QT (σ0 : pm_S) : Option Value → pm_S → Prop := fun r τ => PX FU σ0 τ ∧ (r = some (.int (Int32.ofInt (-1))) ∨ (r = some (.int (Int32.ofInt 0)) ∧ IP σ0 τ))
theorem IP.fr {σ0 σ τ : pm_S} (hF : FQ [] σ τ) (h : IP σ0 σ) : IP σ0 τ := by
  refine ⟨Rd.fr [] rfl rfl rfl rfl hF h.1, ?_, ?_, ?_⟩
  · rw [hF.c 32 rfl, hF.c 42 rfl]; exact h.2.1
  · rw [hF.c 32 rfl]; exact h.2.2.1
  · intro b d fl hW
    obtain ⟨fl', h'⟩ := h.2.2.2 b d fl hW
    exact ⟨fl', Wd.fr [] rfl rfl rfl hF h'⟩
abbrev FRE : List (Nat × Nat) := [(93, 31), (93, 32), (93, 33), (93, 34), (93, 46), (93, 47)]
theorem wS_op {w : Int} (hw : 2 ≤ w ∧ w ≤ 8) {d : Nat} {fl : Bool} (h : fl = true ∨ w ≠ 5) : wS (Int32.ofInt w) (Int32.ofInt 0) (d + 2, fl) = some (d + 1, false) := by
  unfold wS
  have e : (Int32.ofInt w).toInt = w := ti_of (by omega) (by omega)
  rw [e, if_neg (by omega), if_neg (by omega), if_neg (by omega)]
  by_cases h5 : w = 5
  · rw [if_pos h5, if_pos ⟨by omega, h.resolve_right (fun z => z h5)⟩]
    rfl
  · rw [if_neg h5, if_pos (by omega)]
    rfl
theorem ip_op {σ0 σ τ3 τ4 τ5 : pm_S} {r : Option Value} {w : Int} (hw : 2 ≤ w ∧ w ≤ 8) (h : IP σ0 σ) (hF : FQ FRE σ τ3) (h32 : cI σ 32 + 1 ≤ cI τ3 32) (hR4 : Rd τ4) (hs4 : cI τ3 32 - cI τ3 42 ≤ cI τ4 32 - cI τ4 42) (hp : cI τ3 32 < cI τ4 32) (hW : ∀ b d fl, Wd τ3 b d fl → ∃ fl', Wd τ4 b (d + 1) fl' ∧ (fl' = true ∨ w ≠ 5)) (hE : QE τ4 w 0 r τ5) : IP σ0 τ5 := by
  have e42 := hF.c 42 rfl
  have a32 := hE.2.2.1.c 32 rfl
  have a42 := hE.2.2.2.1
  have h1 := h.2.1
  have h2 := h.2.2.1
  refine ⟨Rd.fr FEm rfl rfl rfl rfl hE.2.2.1 hR4, by omega, by omega, ?_⟩
  intro b d fl hW0
  obtain ⟨fl1, w1⟩ := h.2.2.2 b d fl hW0
  obtain ⟨fl2, w2, w3⟩ := hW b (d + 1) fl1 (Wd.fr FRE rfl rfl rfl hF w1)
  exact ⟨false, Wd.em w2 hE (wS_op hw w3)⟩
theorem r_prod {σ0 : pm_S} (hc0 : cI σ0 42 ≤ cI σ0 32) : ∀ (N : Nat) (σ : pm_S) (v : Value), v.category = 1 → 400 - cI σ 32 < N → an_GB pm_B σ → PX FU σ0 σ → IP σ0 σ → Ok 188 61 6 [.ref 93, v] [] σ (QT σ0) := by
  intro N
  induction N with
  | zero => intro σ v hv hN hB; have := gB hB; exfalso; omega
  | succ N ih =>
    intro σ v hv hN hB hP hI
    have g := gB hB
    have hsl := hI.2.1
    have tail : ∀ (t : Int) (τ3 : pm_S), (t = 0 ∨ t = 1) → an_GB pm_B τ3 → FQ FRE σ τ3 → Rd τ3 → cI σ 32 + 1 ≤ cI τ3 32 → (t = 0 → cI τ3 33 = 3 ∧ cI τ3 34 ≠ 0) → Ok 188 61 40 [.ref 93, .int (Int32.ofInt t)] [.ref 93] τ3 (QT σ0) := by
      intro t τ3 ht hB3 hF3 hR3 h32 hfl
      have e42 := hF3.c 42 rfl
      have hP3 : PX FU σ0 τ3 := hP.tr (PX.fr FRE rfl rfl rfl rfl hB3 hF3)
      refine Ok.cv rfl rfl rfl rfl rfl rfl rfl ?_
      refine (m_readUnit hB3 hR3 (by omega)).use (by decide) (fun r4 τ4 q4 => ?_)
      obtain ⟨hP4, q4⟩ := q4
      have g4 := gB hP4.1
      rcases q4 with rfl | ⟨rfl, hR4, hs4, hp4, hW4⟩
      · refine sg_rP41 t (-1) hP4.1 ⟨by omega, by omega, trivial⟩ ?_ ?_ ?_
        · intro τ y _ _ f; exfalso; omega
        · intro τ y _ _ f; exfalso; omega
        · intro τ y hB5 hF5 f r dd c
          exact ⟨(hP3.tr hP4).tr (PX.fr [] rfl rfl rfl rfl hB5 hF5), Or.inl rfl⟩
      · have fin : ∀ (w : Int) (τ5 : pm_S), 2 ≤ w ∧ w ≤ 8 → (t = 0 ∨ w ≠ 5) → an_GB pm_B τ5 → FQ [] τ4 τ5 → Ok 188 61 52 [.ref 93, .int (Int32.ofInt t)] [.int (Int32.ofInt 0), .int (Int32.ofInt w), .ref 93] τ5 (QT σ0) := by
          intro w τ5 hw hwt hB5 hF5
          have k42 := hF5.c 42 rfl
          have k32 := hF5.c 32 rfl
          refine Ok.cv rfl rfl rfl rfl rfl rfl rfl ?_
          refine (m_emits hB5 w 0 (by omega) (by omega) (by omega)).use (by decide) (fun r6 τ6 q6 => ?_)
          have q0 := q6
          obtain ⟨rfl, hB6, hF6, c6, -, -, -⟩ := q6
          refine sg_rP53 _ rfl hB6 ?_
          intro τ7 y v7 hv7 hB7 hF7 _ _ _ _
          have hI6 : IP σ0 τ6 := by
            refine ip_op hw hI hF3 h32 (Rd.fr [] rfl rfl rfl rfl hF5 hR4) (by omega) (by omega) ?_ q0
            intro b d fl hW
            refine ⟨_, Wd.fr [] rfl rfl rfl hF5 (hW4 b d fl hW), ?_⟩
            rcases hwt with h | h
            · left; simp [hfl h]
            · exact Or.inr h
          have k7 := hF7.c 32 rfl
          have k6 := hF6.c 32 rfl
          exact ih τ7 v7 hv7 (by omega) hB7 ((((hP3.tr hP4).tr (PX.fr [] rfl rfl rfl rfl hB5 hF5)).tr (PX.em rfl hB5 q0)).tr (PX.fr [] rfl rfl rfl rfl hB7 hF7)) (hI6.fr hF7)
        refine sg_rP41 t 0 hP4.1 ⟨by omega, by omega, trivial⟩ ?_ ?_ ?_
        · intro τ5 y hB5 hF5 f r dd c
          exact fin 5 τ5 (by omega) (Or.inl (by omega)) hB5 hF5
        · intro τ5 y hB5 hF5 f r dd c
          exact fin 4 τ5 (by omega) (Or.inr (by omega)) hB5 hF5
        · intro τ5 y _ _ f; exfalso; omega
    refine sg_rP6 (cI σ 33) (cI σ 34) v hv hB ⟨g.2.2.2.1, ai_rng _, trivial⟩ ⟨rfl, rfl, trivial⟩ ?_ ?_ ?_
    · intro τ y hB1 hF1 f r dd c
      exact ⟨hP.tr (PX.fr [] rfl rfl rfl rfl hB1 hF1), Or.inr ⟨rfl, hI.fr hF1⟩⟩
    · intro τ y hB1 hF1 f r dd c
      refine Ok.cv rfl rfl rfl rfl rfl rfl rfl ?_
      refine (m_reads hB1).use (by decide) (fun r2 τ2 q2 => ?_)
      obtain ⟨rfl, hB2, hR2, c2, hF2⟩ := q2
      have g2 := gB hB2
      have z1 := hI.1.2.1 (by omega)
      have z2 := hF1.c 31 rfl
      refine sg_rP20d (cI τ2 33) (cI τ2 34) hB2 ⟨g2.2.2.2.1, ai_rng _, trivial⟩ ⟨rfl, rfl, trivial⟩ ?_ ?_
      · intro τ3 y hB3 hF3 f r dd c
        have k3 := hF3.c 32 rfl
        refine tail 0 τ3 (Or.inl rfl) hB3 (((FQ.up (G := []) rfl hF1).tr (FQ.up (G := FR) rfl hF2)).tr (FQ.up (G := [(93, 46), (93, 47)]) rfl hF3)) (Rd.fr _ rfl rfl rfl rfl hF3 hR2) (by omega) (fun _ => ?_)
        rw [hF3.c 33 rfl, hF3.c 34 rfl]
        exact ⟨by omega, r.1⟩
      · intro τ3 y hB3 hF3 f r dd c
        exact ⟨((hP.tr (PX.fr [] rfl rfl rfl rfl hB1 hF1)).tr (PX.fr FR rfl rfl rfl rfl hB2 hF2)).tr (PX.fr [(93, 46), (93, 47)] rfl rfl rfl rfl hB3 hF3), Or.inl rfl⟩
    · intro τ y hB1 hF1 f r dd c
      refine Ok.cv rfl rfl rfl rfl rfl rfl rfl ?_
      refine (m_reads hB1).use (by decide) (fun r2 τ2 q2 => ?_)
      obtain ⟨rfl, hB2, hR2, c2, hF2⟩ := q2
      have g2 := gB hB2
      have z1 := hI.1.2.1 (by omega)
      have z2 := hF1.c 31 rfl
      refine sg_rP20t (cI τ2 33) (cI τ2 34) hB2 ⟨g2.2.2.2.1, ai_rng _, trivial⟩ ⟨rfl, rfl, trivial⟩ ?_
      intro τ3 y hB3 hF3 f r dd c
      have k3 := hF3.c 32 rfl
      exact tail 1 τ3 (Or.inr rfl) hB3 (((FQ.up (G := []) rfl hF1).tr (FQ.up (G := FR) rfl hF2)).tr (FQ.up (G := [(93, 46), (93, 47)]) rfl hF3)) (Rd.fr _ rfl rfl rfl rfl hF3 hR2) (by omega) (fun z => absurd z (by decide))
theorem QU.ip {σ τ : pm_S} (hR : Rd τ) (hs : cI σ 32 - cI σ 42 ≤ cI τ 32 - cI τ 42) (hp : cI σ 32 < cI τ 32) {fx : Bool} (hW : ∀ b d fl, Wd σ b d fl → Wd τ b (d + 1) fx) : IP σ τ := ⟨hR, hs, hp, fun b d fl h => ⟨_, hW b d fl h⟩⟩
theorem m_readProduct {σ : pm_S} (hB : an_GB pm_B σ) (hR : Rd σ) (hc : cI σ 42 ≤ cI σ 32) : Sp 188 61 [.ref 93] σ (QT σ) := by
  refine Sp.at rfl rfl ?_
  refine sg_rP0 _ rfl hB ?_
  intro τ y v1 hv1 hB1 hF1 _ _ _ _
  have a42 := hF1.c 42 rfl
  have a32 := hF1.c 32 rfl
  refine Ok.cv rfl rfl rfl rfl rfl rfl rfl ?_
  refine (m_readUnit hB1 (Rd.fr [] rfl rfl rfl rfl hF1 hR) (by omega)).use (by decide) (fun r4 τ4 q4 => ?_)
  obtain ⟨hP4, q4⟩ := q4
  have hP0 : PX FU σ τ := PX.fr [] rfl rfl rfl rfl hB1 hF1
  rcases q4 with rfl | ⟨rfl, hR4, hs4, hp4, hW4⟩
  · refine sg_rP2 (-1) v1 hv1 hP4.1 ⟨by omega, trivial⟩ ?_ ?_
    · intro τ y _ _ _ _ f; exfalso; omega
    · intro τ5 y hB5 hF5 f r dd c
      exact ⟨(hP0.tr hP4).tr (PX.fr [] rfl rfl rfl rfl hB5 hF5), Or.inl rfl⟩
  · refine sg_rP2 0 v1 hv1 hP4.1 ⟨by omega, trivial⟩ ?_ ?_
    · intro τ5 y v5 hv5 hB5 hF5 f r dd c
      have g5 := gB hB5
      have hI : IP σ τ4 := QU.ip hR4 (by omega) (by omega) (fun b d fl h => hW4 b d fl (Wd.fr [] rfl rfl rfl hF1 h))
      exact r_prod hc 402 τ5 v5 hv5 (by omega) hB5 ((hP0.tr hP4).tr (PX.fr [] rfl rfl rfl rfl hB5 hF5)) (hI.fr hF5)
    · intro τ y _ _ f; exfalso; omega
