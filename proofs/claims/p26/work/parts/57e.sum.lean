theorem r_sum {σ0 : pm_S} (hc0 : cI σ0 42 ≤ cI σ0 32) : ∀ (N : Nat) (σ : pm_S) (v : Value), v.category = 1 → 400 - cI σ 32 < N → an_GB pm_B σ → PX FU σ0 σ → IP σ0 σ → Ok 189 71 6 [.ref 93, v] [] σ (QT σ0) := by
  intro N
  induction N with
  | zero => intro σ v hv hN hB; have := gB hB; exfalso; omega
  | succ N ih =>
    intro σ v hv hN hB hP hI
    have g := gB hB
    have hsl := hI.2.1
    have tail : ∀ (w : Int) (τ : pm_S), (w = 2 ∨ w = 3) → cI σ 33 = 4 → an_GB pm_B τ → FQ [] σ τ → Ok 189 71 23 [.ref 93, .int (Int32.ofInt w)] [.ref 93] τ (QT σ0) := by
      intro w τ hw h33 hB1 hF1
      refine Ok.cv rfl rfl rfl rfl rfl rfl rfl ?_
      refine (m_reads hB1).use (by decide) (fun r2 τ2 q2 => ?_)
      obtain ⟨rfl, hB2, hR2, c2, hF2⟩ := q2
      have g2 := gB hB2
      have z1 := hI.1.2.1 (by omega)
      have z2 := hF1.c 31 rfl
      have z3 := hF1.c 42 rfl
      have z4 := hF2.c 42 rfl
      refine sg_rS24 w hB2 ⟨by omega, trivial⟩ ?_
      intro τ3 y hB3 hF3 f r dd c
      have k32 := hF3.c 32 rfl
      have k42 := hF3.c 42 rfl
      have hF3' : FQ FRE σ τ3 := ((FQ.up (G := []) rfl hF1).tr (FQ.up (G := FR) rfl hF2)).tr (FQ.up (G := []) rfl hF3)
      have hP3 : PX FU σ0 τ3 := hP.tr (PX.fr FRE rfl rfl rfl rfl hB3 hF3')
      refine Ok.cv rfl rfl rfl rfl rfl rfl rfl ?_
      refine (m_readProduct hB3 (Rd.fr [] rfl rfl rfl rfl hF3 hR2) (by omega)).use (by decide) (fun r4 τ4 q4 => ?_)
      obtain ⟨hP4, q4⟩ := q4
      have g4 := gB hP4.1
      rcases q4 with rfl | ⟨rfl, hI4⟩
      · refine sg_rS26 w (-1) hP4.1 ⟨by omega, by omega, trivial⟩ ?_ ?_
        · intro τ y _ _ f; exfalso; omega
        · intro τ y hB5 hF5 f r dd c
          exact ⟨(hP3.tr hP4).tr (PX.fr [] rfl rfl rfl rfl hB5 hF5), Or.inl rfl⟩
      · refine sg_rS26 w 0 hP4.1 ⟨by omega, by omega, trivial⟩ ?_ ?_
        · intro τ5 y hB5 hF5 f r dd c
          have j42 := hF5.c 42 rfl
          have j32 := hF5.c 32 rfl
          have i1 := hI4.2.1
          have i2 := hI4.2.2.1
          refine Ok.cv rfl rfl rfl rfl rfl rfl rfl ?_
          refine (m_emits hB5 w 0 (by omega) (by omega) (by omega)).use (by decide) (fun r6 τ6 q6 => ?_)
          have q0 := q6
          obtain ⟨rfl, hB6, hF6, c6, -, -, -⟩ := q6
          refine sg_rS34 _ rfl hB6 ?_
          intro τ7 y v7 hv7 hB7 hF7 _ _ _ _
          have hI6 : IP σ0 τ6 := by
            refine ip_op (by omega) hI hF3' (by omega) (Rd.fr [] rfl rfl rfl rfl hF5 hI4.1) (by omega) (by omega) ?_ q0
            intro b d fl hW
            obtain ⟨fl', h'⟩ := hI4.2.2.2 b d fl hW
            exact ⟨fl', Wd.fr [] rfl rfl rfl hF5 h', Or.inr (by omega)⟩
          have k7 := hF7.c 32 rfl
          have k6 := hF6.c 32 rfl
          exact ih τ7 v7 hv7 (by omega) hB7 ((((hP3.tr hP4).tr (PX.fr [] rfl rfl rfl rfl hB5 hF5)).tr (PX.em rfl hB5 q0)).tr (PX.fr [] rfl rfl rfl rfl hB7 hF7)) (hI6.fr hF7)
        · intro τ5 y _ _ f; exfalso; omega
    refine sg_rS6 (cI σ 33) (cI σ 34) v hv hB ⟨g.2.2.2.1, ai_rng _, trivial⟩ ⟨rfl, rfl, trivial⟩ ?_ ?_ ?_
    · intro τ y hB1 hF1 f r dd c
      exact ⟨hP.tr (PX.fr [] rfl rfl rfl rfl hB1 hF1), Or.inr ⟨rfl, hI.fr hF1⟩⟩
    · intro τ y hB1 hF1 f r dd c
      exact tail 3 τ (Or.inr rfl) (by omega) hB1 hF1
    · intro τ y hB1 hF1 f r dd c
      exact tail 2 τ (Or.inl rfl) (by omega) hB1 hF1
theorem m_readSum {σ : pm_S} (hB : an_GB pm_B σ) (hR : Rd σ) (hc : cI σ 42 ≤ cI σ 32) : Sp 189 71 [.ref 93] σ (QT σ) := by
  refine Sp.at rfl rfl ?_
  refine sg_rS0 _ rfl hB ?_
  intro τ y v1 hv1 hB1 hF1 _ _ _ _
  have a42 := hF1.c 42 rfl
  have a32 := hF1.c 32 rfl
  refine Ok.cv rfl rfl rfl rfl rfl rfl rfl ?_
  refine (m_readProduct hB1 (Rd.fr [] rfl rfl rfl rfl hF1 hR) (by omega)).use (by decide) (fun r4 τ4 q4 => ?_)
  obtain ⟨hP4, q4⟩ := q4
  have hP0 : PX FU σ τ := PX.fr [] rfl rfl rfl rfl hB1 hF1
  rcases q4 with rfl | ⟨rfl, hI4⟩
  · refine sg_rS2 (-1) v1 hv1 hP4.1 ⟨by omega, trivial⟩ ?_ ?_
    · intro τ y _ _ _ _ f; exfalso; omega
    · intro τ5 y hB5 hF5 f r dd c
      exact ⟨(hP0.tr hP4).tr (PX.fr [] rfl rfl rfl rfl hB5 hF5), Or.inl rfl⟩
  · refine sg_rS2 0 v1 hv1 hP4.1 ⟨by omega, trivial⟩ ?_ ?_
    · intro τ5 y v5 hv5 hB5 hF5 f r dd c
      have g5 := gB hB5
      have hI : IP σ τ4 := ⟨hI4.1, by have := hI4.2.1; omega, by have := hI4.2.2.1; omega, fun b d fl h => hI4.2.2.2 b d fl (Wd.fr [] rfl rfl rfl hF1 h)⟩
      exact r_sum hc 402 τ5 v5 hv5 (by omega) hB5 ((hP0.tr hP4).tr (PX.fr [] rfl rfl rfl rfl hB5 hF5)) (hI.fr hF5)
    · intro τ y _ _ f; exfalso; omega
theorem m_readCompared {σ : pm_S} (hB : an_GB pm_B σ) (hR : Rd σ) (hc : cI σ 42 ≤ cI σ 32) : Sp 190 81 [.ref 93] σ (QT σ) := by
  refine Sp.at rfl rfl ?_
  refine sg_rC0 _ rfl hB ?_
  intro τ y v1 hv1 hB1 hF1 _ _ _ _
  have a42 := hF1.c 42 rfl
  have a32 := hF1.c 32 rfl
  refine Ok.cv rfl rfl rfl rfl rfl rfl rfl ?_
  refine (m_readSum hB1 (Rd.fr [] rfl rfl rfl rfl hF1 hR) (by omega)).use (by decide) (fun r4 τ4 q4 => ?_)
  obtain ⟨hP4, q4⟩ := q4
  have hP0 : PX FU σ τ := PX.fr [] rfl rfl rfl rfl hB1 hF1
  rcases q4 with rfl | ⟨rfl, hI4⟩
  · refine sg_rC2 (-1) v1 hv1 hP4.1 ⟨by omega, trivial⟩ ?_ ?_
    · intro τ y _ _ _ _ f; exfalso; omega
    · intro τ5 y hB5 hF5 f r dd c
      exact ⟨(hP0.tr hP4).tr (PX.fr [] rfl rfl rfl rfl hB5 hF5), Or.inl rfl⟩
  · refine sg_rC2 0 v1 hv1 hP4.1 ⟨by omega, trivial⟩ ?_ ?_
    · intro τ5 y v5 hv5 hB5 hF5 f r dd c
      have g5 := gB hB5
      have hI : IP σ τ4 := ⟨hI4.1, by have := hI4.2.1; omega, by have := hI4.2.2.1; omega, fun b d fl h => hI4.2.2.2 b d fl (Wd.fr [] rfl rfl rfl hF1 h)⟩
      have hI5 : IP σ τ5 := hI.fr hF5
      have hP5 : PX FU σ τ5 := (hP0.tr hP4).tr (PX.fr [] rfl rfl rfl rfl hB5 hF5)
      have hsl := hI5.2.1
      have tail : ∀ (w : Int) (τ6 : pm_S), (6 ≤ w ∧ w ≤ 8) → cI τ5 33 = 4 → an_GB pm_B τ6 → FQ [(93, 46), (93, 47)] τ5 τ6 → Ok 190 81 37 [.ref 93, .int (Int32.ofInt w)] [.ref 93] τ6 (QT σ) := by
        intro w τ6 hw h33 hB6 hF6
        refine Ok.cv rfl rfl rfl rfl rfl rfl rfl ?_
        refine (m_reads hB6).use (by decide) (fun r7 τ7 q7 => ?_)
        obtain ⟨rfl, hB7, hR7, c7, hF7⟩ := q7
        have g7 := gB hB7
        have z1 := hI5.1.2.1 (by omega)
        have z2 := hF6.c 31 rfl
        have z3 := hF6.c 42 rfl
        have z4 := hF7.c 42 rfl
        refine sg_rC38 w hB7 ⟨by omega, trivial⟩ ?_
        intro τ8 y hB8 hF8 f r dd c
        have k32 := hF8.c 32 rfl
        have k42 := hF8.c 42 rfl
        have hF8' : FQ FRE τ5 τ8 := ((FQ.up (G := [(93, 46), (93, 47)]) rfl hF6).tr (FQ.up (G := FR) rfl hF7)).tr (FQ.up (G := []) rfl hF8)
        have hP8 : PX FU σ τ8 := hP5.tr (PX.fr FRE rfl rfl rfl rfl hB8 hF8')
        refine Ok.cv rfl rfl rfl rfl rfl rfl rfl ?_
        refine (m_readSum hB8 (Rd.fr [] rfl rfl rfl rfl hF8 hR7) (by omega)).use (by decide) (fun r9 τ9 q9 => ?_)
        obtain ⟨hP9, q9⟩ := q9
        have g9 := gB hP9.1
        rcases q9 with rfl | ⟨rfl, hI9⟩
        · refine sg_rC40 w (-1) hP9.1 ⟨by omega, by omega, trivial⟩ ?_ ?_
          · intro τ y _ _ f; exfalso; omega
          · intro τ y hBa hFa f r dd c
            exact ⟨(hP8.tr hP9).tr (PX.fr [] rfl rfl rfl rfl hBa hFa), Or.inl rfl⟩
        · refine sg_rC40 w 0 hP9.1 ⟨by omega, by omega, trivial⟩ ?_ ?_
          · intro τa y hBa hFa f r dd c
            have j42 := hFa.c 42 rfl
            have j32 := hFa.c 32 rfl
            have i1 := hI9.2.1
            have i2 := hI9.2.2.1
            refine Ok.cv rfl rfl rfl rfl rfl rfl rfl ?_
            refine (m_emits hBa w 0 (by omega) (by omega) (by omega)).use (by decide) (fun rb τb qb => ?_)
            have q0 := qb
            obtain ⟨rfl, hBb, hFb, cb, -, -, -⟩ := qb
            refine sg_rC48 _ rfl hBb ?_
            intro τc y hBc hFc _ _ _ _
            have hIb : IP σ τb := by
              refine ip_op (by omega) hI5 hF8' (by omega) (Rd.fr [] rfl rfl rfl rfl hFa hI9.1) (by omega) (by omega) ?_ q0
              intro b d fl hW
              obtain ⟨fl', h'⟩ := hI9.2.2.2 b d fl hW
              exact ⟨fl', Wd.fr [] rfl rfl rfl hFa h', Or.inr (by omega)⟩
            exact ⟨(((hP8.tr hP9).tr (PX.fr [] rfl rfl rfl rfl hBa hFa)).tr (PX.em rfl hBa q0)).tr (PX.fr [] rfl rfl rfl rfl hBc hFc), Or.inr ⟨rfl, hIb.fr hFc⟩⟩
          · intro τ y _ _ f; exfalso; omega
      refine sg_rC6 (cI τ5 33) (cI τ5 34) v5 hv5 hB5 ⟨g5.2.2.2.1, ai_rng _, trivial⟩ ⟨rfl, rfl, trivial⟩ ?_ ?_ ?_ ?_
      · intro τ6 y hB6 hF6 f r dd c
        exact ⟨hP5.tr (PX.fr [(93, 46), (93, 47)] rfl rfl rfl rfl hB6 hF6), Or.inl rfl⟩
      · intro τ6 y hB6 hF6 f r dd c
        exact tail 8 τ6 (by omega) (by omega) hB6 hF6
      · intro τ6 y hB6 hF6 f r dd c
        exact tail 7 τ6 (by omega) (by omega) hB6 hF6
      · intro τ6 y hB6 hF6 f r dd c
        exact tail 6 τ6 (by omega) (by omega) hB6 hF6
    · intro τ y _ _ f; exfalso; omega
