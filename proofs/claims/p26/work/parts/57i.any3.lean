theorem a_loop {σ0 : pm_S} : ∀ (N : Nat) (σ : pm_S), 400 - cI σ 32 < N → (∀ (br : Int) (l : List Int) (v : Value), v.category = 1 → JA σ0 σ 0 br l → Ok 193 91 7 [.ref 93, .int (Int32.ofInt br), .int (Int32.ofInt 1), v] [] σ (QA σ0)) ∧ (∀ (br : Int) (l : List Int) (v : Value), v.category = 1 → JA σ0 σ 1 br l → Ok 193 91 7 [.ref 93, .int (Int32.ofInt br), .int (Int32.ofInt 0), v] [] σ (QA σ0)) := by
  intro N
  induction N with
  | zero =>
    intro σ hN
    constructor
    · intro br l v hv hJ; have := gB hJ.1.1; exfalso; omega
    · intro br l v hv hJ; have := gB hJ.1.1; exfalso; omega
  | succ N ih =>
    intro σ hN
    have H : HA σ0 σ := ⟨fun τ br l v hv h32 hJ => (ih τ (by omega)).1 br l v hv hJ, fun τ br l v hv h32 hJ => (ih τ (by omega)).2 br l v hv hJ⟩
    constructor
    · intro br l v hv hJ
      have hB := hJ.1.1
      have g := gB hB
      refine sg_ra7d (cI σ 33) (cI σ 34) (cI σ 43) br v hv hB ⟨g.2.2.2.1, ai_rng _, g.2.2.2.2.2.1, hJ.br, trivial⟩ ⟨rfl, rfl, rfl, trivial⟩ ?_ ?_ ?_ ?_
      · intro τ y hB1 hF1 f r dd c
        exact a_opd hJ H hB1 hF1 c.1 _ rfl
      · intro τ y hB1 hF1 f r dd c
        exact a_push hJ H hB1 hF1 (by omega) c.1 (Or.inl ⟨rfl, rfl⟩) _ rfl
      · intro τ y hB1 hF1 f r dd c
        exact ⟨hJ.1.tr (PX.fr _ rfl rfl rfl rfl hB1 hF1), Or.inl rfl⟩
      · intro τ y hB1 hF1 f r dd c
        exact a_push hJ H hB1 hF1 (by omega) c.1 (Or.inr ⟨rfl, rfl⟩) _ rfl
    · intro br l v hv hJ
      have hB := hJ.1.1
      have g := gB hB
      have hbr := hJ.br
      obtain ⟨hP, hR, hD, hK, e1, e2, e3, fl, hW⟩ := hJ
      refine sg_ra7n (cI σ 33) (cI σ 34) br v hv hB ⟨g.2.2.2.1, ai_rng _, hbr, trivial⟩ ⟨rfl, rfl, trivial⟩ ?_ ?_ ?_
      · -- the end of a bracket, or of all
        intro τ y v1 hv1 hB1 hF1 f r dd c
        refine Ok.cv rfl rfl rfl rfl rfl rfl rfl ?_
        refine (a_set10 (l := l) (fl := fl) (hP.tr (PX.fr [] rfl rfl rfl rfl hB1 hF1)) (Rd.fr [] rfl rfl rfl rfl hF1 hR) (PD.fr [] rfl rfl hF1 hD) hK (by rw [hF1.c 43 rfl]; exact e2) (by rw [hF1.c 42 rfl, hF1.c 32 rfl]; exact e3.1) (Wd.fr [] rfl rfl rfl hF1 hW)).use (Nat.le_refl _) (fun r2 τ2 q2 => ?_)
        obtain ⟨rfl, hP2, hF2, l2, hK2, hD2, b2, o2, s2, fl2, hW2⟩ := q2
        refine sg_ra97 br v1 hv1 hP2.1 ⟨hbr, trivial⟩ ?_
        intro τ3 y v3 hv3 hB3 hF3 _ _ _ _
        have hR2 : Rd τ2 := Rd.fr FS rfl rfl rfl rfl hF2 (Rd.fr [] rfl rfl rfl rfl hF1 hR)
        refine Ok.cv rfl rfl rfl rfl rfl rfl rfl ?_
        refine (a_set11 (l := l2) (fl := fl2) (hP2.tr (PX.fr [] rfl rfl rfl rfl hB3 hF3)) (Rd.fr [] rfl rfl rfl rfl hF3 hR2) (PD.fr [] rfl rfl hF3 hD2) hK2 (by rw [hF3.c 43 rfl]; exact o2) (by rw [hF3.c 42 rfl, hF3.c 32 rfl]; exact s2) (Wd.fr [] rfl rfl rfl hF3 hW2)).use (Nat.le_refl _) (fun r4 τ4 q4 => ?_)
        obtain ⟨rfl, hP4, hF4, l4, hK4, hD4, b4, o4, s4, fl4, hW4⟩ := q4
        have hR4 : Rd τ4 := Rd.fr FS rfl rfl rfl rfl hF4 (Rd.fr [] rfl rfl rfl rfl hF3 hR2)
        have g4 := gB hP4.1
        have k32 : cI τ4 32 = cI σ 32 := (((hF4.c 32 rfl).trans (hF3.c 32 rfl)).trans (hF2.c 32 rfl)).trans (hF1.c 32 rfl)
        have hbr4 : br = ct 12 l4 := by omega
        refine sg_ra100 (cI τ4 33) (cI τ4 34) br v3 hv3 hP4.1 ⟨g4.2.2.2.1, ai_rng _, hbr, trivial⟩ ⟨rfl, rfl, trivial⟩ ?_ ?_ ?_
        · intro τ5 y hB5 hF5 _ _ _ _
          exact ⟨hP4.tr (PX.fr _ rfl rfl rfl rfl hB5 hF5), Or.inl rfl⟩
        · intro τ5 y v5 hv5 hB5 hF5 f5 _ _ _
          match l4, hK4, hD4, o4, s4, hW4, hbr4 with
          | [], _, _, _, _, _, hbr4 =>
            exfalso
            have : br = 0 := hbr4
            omega
          | x :: q, hK4, hD4, o4, s4, hW4, hbr4 =>
            have hx : x = 12 ∧ KK 0 q := by
              rcases hK4 with h | ⟨-, h, -⟩ | ⟨-, h, -⟩ | ⟨-, h, -⟩
              · exact h
              · omega
              · omega
              · omega
            obtain ⟨rfl, hKq⟩ := hx
            rw [ct_c, if_pos rfl] at hbr4
            rw [ct_c, ct_c, if_neg (by decide), if_pos rfl] at o4
            rw [List.length_cons] at s4
            rw [no_c, if_neg (by decide)] at hW4
            have n9 := ct_nn 9 q
            have n12 := ct_nn 12 q
            have d4 : cI τ4 45 = ((q.length + 1 : Nat) : Int) := hD4.1
            have z45 := hF5.c 45 rfl
            have z43 := hF5.c 43 rfl
            have z42 := hF5.c 42 rfl
            have z32 := hF5.c 32 rfl
            have g5 := gB hB5
            refine sg_ra112 br (cI τ5 45) (cI τ5 43) v5 hv5 hB5 ⟨by omega, by omega, by omega, trivial⟩ ⟨rfl, rfl, trivial⟩ ?_
            intro τ6 y v6 hv6 hB6 hF6 _ _ _ c6
            have y43 : cI τ6 43 = cI τ5 43 + (-1) := c6.1
            have y45 : cI τ6 45 = cI τ5 45 + (-1) := c6.2.1
            have y42 := hF6.c 42 rfl
            have y32 := hF6.c 32 rfl
            have hD6 : PD τ6 q := ⟨by omega, PL_congr q (fun j _ => by rw [hF6 121 j rfl, hF5 121 j rfl]) hD4.2.2⟩
            have hP6 : PX FA σ0 τ6 := (hP4.tr (PX.fr _ rfl rfl rfl rfl hB5 hF5)).tr (PX.fr _ rfl rfl rfl rfl hB6 hF6)
            have hR6 : Rd τ6 := Rd.fr _ rfl rfl rfl rfl hF6 (Rd.fr _ rfl rfl rfl rfl hF5 hR4)
            have hW6 := Wd.fr _ rfl rfl rfl hF6 (Wd.fr _ rfl rfl rfl hF5 hW4)
            have h33 : cI τ6 33 = 4 := ((hF6.c 33 rfl).trans (hF5.c 33 rfl)).trans (by omega)
            have hr := hR6.2.1 (by omega)
            refine Ok.cv rfl rfl rfl rfl rfl rfl rfl ?_
            refine (m_settles hB6 9 (by omega) q hD6 (by omega) (fun _ => by omega)).use (by decide) (fun r7 τ7 q7 => ?_)
            obtain ⟨rfl, hP7, m, l', el, hh, hD7, c7, d7, hW7⟩ := q7
            rw [if_pos rfl] at d7
            have c9 : ct 9 q = (m : Int) + ct 9 l' := by rw [el, ct_rep, if_pos rfl]
            have c12 : ct 12 q = ct 12 l' := by rw [el, ct_rep, if_neg (by decide)]; omega
            have cn : no q = no l' := by rw [el, no_rep, if_neg (by decide)]; omega
            have cl : (q.length : Int) = m + l'.length := by rw [el]; simp
            refine sg_ra131 (br + (-1)) v6 hv6 hP7.1 ⟨by omega, trivial⟩ ?_
            intro τ8 y v8 hv8 hB8 hF8 _ _ _ _
            refine Ok.cv rfl rfl rfl rfl rfl rfl rfl ?_
            refine (m_reads hB8).use (by decide) (fun r9 τ9 q9 => ?_)
            obtain ⟨rfl, hB9, hR9, c9', hF9⟩ := q9
            refine sg_ra133 (br + (-1)) v8 hv8 hB9 ⟨by omega, trivial⟩ ?_
            intro τa y va hva hBa hFa _ _ _ _
            obtain ⟨fla, wa⟩ := hW7 _ _ _ hW6 (fun _ => by omega) (fun z => absurd rfl z)
            rw [if_pos rfl] at wa
            have wb := Wd.fr [] rfl rfl rfl hFa (Wd.fr FR rfl rfl rfl hF9 (Wd.fr [] rfl rfl rfl hF8 wa))
            have x31 : cI τ8 31 = cI τ6 31 := (hF8.c 31 rfl).trans (hP7.2.1.c 31 rfl)
            have xa32 := hFa.c 32 rfl
            have xa42 : cI τa 42 = cI τ7 42 := ((hFa.c 42 rfl).trans (hF9.c 42 rfl)).trans (hF8.c 42 rfl)
            have xa43 : cI τa 43 = cI τ7 43 := ((hFa.c 43 rfl).trans (hF9.c 43 rfl)).trans (hF8.c 43 rfl)
            refine H.2 τa (br + (-1)) l' va hva (by omega) ⟨(((hP6.tr (hP7.up rfl)).tr (PX.fr [] rfl rfl rfl rfl hB8 hF8)).tr (PX.fr FR rfl rfl rfl rfl hB9 hF9)).tr (PX.fr [] rfl rfl rfl rfl hBa hFa), Rd.fr [] rfl rfl rfl rfl hFa hR9, PD.fr [] rfl rfl hFa (PD.fr FR rfl rfl hF9 (PD.fr [] rfl rfl hF8 hD7)), KK_9 m l' (el ▸ hKq) hh, by omega, by omega, by omega, fla, ?_⟩
            rw [← cn]
            rw [show 0 + no q + 1 = no q + 1 by omega] at wb
            exact wb
        · intro τ5 y hB5 hF5 f5 _ _ _
          match l4, hK4, hD4, o4, s4, hW4, hbr4 with
          | [], _, _, o4, s4, hW4, _ =>
            have z43 := hF5.c 43 rfl
            have z42 := hF5.c 42 rfl
            have z32 := hF5.c 32 rfl
            have o5 : cI τ4 43 = 0 + 0 := o4
            have s5 : cI τ4 42 + ((0 : Nat) : Int) ≤ cI τ4 32 := s4
            exact ⟨hP4.tr (PX.fr _ rfl rfl rfl rfl hB5 hF5), Or.inr ⟨rfl, Rd.fr _ rfl rfl rfl rfl hF5 hR4, by omega, by omega, fl4, Wd.fr _ rfl rfl rfl hF5 hW4⟩⟩
          | x :: q, hK4, _, _, _, _, hbr4 =>
            exfalso
            have hx : x = 12 := by
              rcases hK4 with h | ⟨-, h, -⟩ | ⟨-, h, -⟩ | ⟨-, h, -⟩
              · exact h.1
              · omega
              · omega
              · omega
            rw [ct_c, if_pos hx] at hbr4
            have := ct_nn 12 q
            omega
      · -- or
        intro τ y v1 hv1 hB1 hF1 f r dd c
        refine Ok.cv rfl rfl rfl rfl rfl rfl rfl ?_
        refine (a_set10 (l := l) (fl := fl) (hP.tr (PX.fr [] rfl rfl rfl rfl hB1 hF1)) (Rd.fr [] rfl rfl rfl rfl hF1 hR) (PD.fr [] rfl rfl hF1 hD) hK (by rw [hF1.c 43 rfl]; exact e2) (by rw [hF1.c 42 rfl, hF1.c 32 rfl]; exact e3.1) (Wd.fr [] rfl rfl rfl hF1 hW)).use (Nat.le_refl _) (fun r2 τ2 q2 => ?_)
        obtain ⟨rfl, hP2, hF2, l2, hK2, hD2, b2, o2, s2, fl2, hW2⟩ := q2
        refine sg_ra83 br v1 hv1 hP2.1 ⟨hbr, trivial⟩ ?_
        intro τ3 y v3 hv3 hB3 hF3 _ _ _ _
        have hR2 : Rd τ2 := Rd.fr FS rfl rfl rfl rfl hF2 (Rd.fr [] rfl rfl rfl rfl hF1 hR)
        refine Ok.cv rfl rfl rfl rfl rfl rfl rfl ?_
        refine (a_set11 (l := l2) (fl := fl2) (hP2.tr (PX.fr [] rfl rfl rfl rfl hB3 hF3)) (Rd.fr [] rfl rfl rfl rfl hF3 hR2) (PD.fr [] rfl rfl hF3 hD2) hK2 (by rw [hF3.c 43 rfl]; exact o2) (by rw [hF3.c 42 rfl, hF3.c 32 rfl]; exact s2) (Wd.fr [] rfl rfl rfl hF3 hW2)).use (Nat.le_refl _) (fun r4 τ4 q4 => ?_)
        obtain ⟨rfl, hP4, hF4, l4, hK4, hD4, b4, o4, s4, fl4, hW4⟩ := q4
        have hR4 : Rd τ4 := Rd.fr FS rfl rfl rfl rfl hF4 (Rd.fr [] rfl rfl rfl rfl hF3 hR2)
        refine sg_ra86 br v3 hv3 hP4.1 ⟨hbr, trivial⟩ ?_
        intro τ5 y v5 hv5 hB5 hF5 _ _ _ _
        have k32 : cI τ5 32 = cI σ 32 := ((((hF5.c 32 rfl).trans (hF4.c 32 rfl)).trans (hF3.c 32 rfl)).trans (hF2.c 32 rfl)).trans (hF1.c 32 rfl)
        have k33 : cI τ5 33 = cI σ 33 := ((((hF5.c 33 rfl).trans (hF4.c 33 rfl)).trans (hF3.c 33 rfl)).trans (hF2.c 33 rfl)).trans (hF1.c 33 rfl)
        refine Ok.cv rfl rfl rfl rfl rfl rfl rfl ?_
        refine (a_andor (σ := σ) (br := br) (l := l4) (fl := fl4) (w := 11) (hP4.tr (PX.fr [] rfl rfl rfl rfl hB5 hF5)) (Rd.fr [] rfl rfl rfl rfl hF5 hR4) (PD.fr [] rfl rfl hF5 hD4) (Or.inr hK4) (Or.inr ⟨rfl, hK4⟩) (by omega) (by rw [hF5.c 43 rfl]; exact o4) (by rw [hF5.c 42 rfl, hF5.c 32 rfl]; exact s4) (Wd.fr [] rfl rfl rfl hF5 hW4) (by omega) k32 e3.2 H).use (Nat.le_refl _) (fun r6 τ6 q6 => ?_)
        obtain ⟨rfl, hB6, q6⟩ := q6
        refine sg_ra89 br v5 hv5 hB6 ⟨hbr, trivial⟩ ?_
        intro τ7 y v7 hv7 hB7 hF7 _ _ _ _
        refine Ok.cv rfl rfl rfl rfl rfl rfl rfl ?_
        refine (q6 τ7 hF7 hB7).use (Nat.le_refl _) (fun r8 τ8 q8 => ?_)
        obtain ⟨rfl, hB8, q8⟩ := q8
        refine sg_ra91 br v7 hv7 hB8 ⟨hbr, trivial⟩ ?_
        intro τ9 y v9 hv9 hB9 hF9 _ _ _ _
        exact q8 τ9 v9 hv9 hF9 hB9
      · -- and
        intro τ y v1 hv1 hB1 hF1 f r dd c
        refine Ok.cv rfl rfl rfl rfl rfl rfl rfl ?_
        refine (a_set10 (l := l) (fl := fl) (hP.tr (PX.fr [] rfl rfl rfl rfl hB1 hF1)) (Rd.fr [] rfl rfl rfl rfl hF1 hR) (PD.fr [] rfl rfl hF1 hD) hK (by rw [hF1.c 43 rfl]; exact e2) (by rw [hF1.c 42 rfl, hF1.c 32 rfl]; exact e3.1) (Wd.fr [] rfl rfl rfl hF1 hW)).use (Nat.le_refl _) (fun r2 τ2 q2 => ?_)
        obtain ⟨rfl, hP2, hF2, l2, hK2, hD2, b2, o2, s2, fl2, hW2⟩ := q2
        refine sg_ra68 br v1 hv1 hP2.1 ⟨hbr, trivial⟩ ?_
        intro τ5 y v5 hv5 hB5 hF5 _ _ _ _
        have hR2 : Rd τ2 := Rd.fr FS rfl rfl rfl rfl hF2 (Rd.fr [] rfl rfl rfl rfl hF1 hR)
        have k32 : cI τ5 32 = cI σ 32 := ((hF5.c 32 rfl).trans (hF2.c 32 rfl)).trans (hF1.c 32 rfl)
        have k33 : cI τ5 33 = cI σ 33 := ((hF5.c 33 rfl).trans (hF2.c 33 rfl)).trans (hF1.c 33 rfl)
        refine Ok.cv rfl rfl rfl rfl rfl rfl rfl ?_
        refine (a_andor (σ := σ) (br := br) (l := l2) (fl := fl2) (w := 10) (hP2.tr (PX.fr [] rfl rfl rfl rfl hB5 hF5)) (Rd.fr [] rfl rfl rfl rfl hF5 hR2) (PD.fr [] rfl rfl hF5 hD2) (Or.inl hK2) (Or.inl ⟨rfl, hK2⟩) (by omega) (by rw [hF5.c 43 rfl]; exact o2) (by rw [hF5.c 42 rfl, hF5.c 32 rfl]; exact s2) (Wd.fr [] rfl rfl rfl hF5 hW2) (by omega) k32 e3.2 H).use (Nat.le_refl _) (fun r6 τ6 q6 => ?_)
        obtain ⟨rfl, hB6, q6⟩ := q6
        refine sg_ra71 br v5 hv5 hB6 ⟨hbr, trivial⟩ ?_
        intro τ7 y v7 hv7 hB7 hF7 _ _ _ _
        refine Ok.cv rfl rfl rfl rfl rfl rfl rfl ?_
        refine (q6 τ7 hF7 hB7).use (Nat.le_refl _) (fun r8 τ8 q8 => ?_)
        obtain ⟨rfl, hB8, q8⟩ := q8
        refine sg_ra73 br v7 hv7 hB8 ⟨hbr, trivial⟩ ?_
        intro τ9 y v9 hv9 hB9 hF9 _ _ _ _
        exact q8 τ9 v9 hv9 hF9 hB9
theorem m_readAny {σ : pm_S} (hB : an_GB pm_B σ) (hR : Rd σ) (hc : cI σ 42 ≤ cI σ 32) (ho : cI σ 43 = 0) : Sp 193 91 [.ref 93] σ (QA σ) := by
  have g := gB hB
  refine Sp.at rfl rfl ?_
  refine sg_ra0 _ _ _ rfl rfl rfl hB ?_
  intro τ y v1 hv1 hB1 hF1 _ _ _ c
  have g1 := gB hB1
  have z42 := hF1.c 42 rfl
  have z32 := hF1.c 32 rfl
  have z43 := hF1.c 43 rfl
  refine (a_loop 402 τ (by omega)).1 0 [] v1 hv1 ⟨PX.fr _ rfl rfl rfl rfl hB1 hF1, Rd.fr _ rfl rfl rfl rfl hF1 hR, ⟨c.1, trivial⟩, trivial, rfl, ?_, ?_, false, 0, ?_, rfl⟩
  · show cI τ 43 = 0 + 0
    omega
  · show cI τ 42 + ((0 : Nat) : Int) ≤ cI τ 32 ∧ cI σ 32 ≤ cI τ 32
    omega
  · omega
