/-! readAny, its ways -/
/-- an operand -/
theorem a_opd {σ0 σ τ : pm_S} {br : Int} {l : List Int} (hJ : JA σ0 σ 0 br l) (H : HA σ0 σ) (hB1 : an_GB pm_B τ) (hF1 : FQ [(93, 46), (93, 47), (93, 43)] σ τ) (h43 : cI τ 43 = cI σ 43) (v : Value) (hv : v.category = 1) : Ok 193 91 50 [.ref 93, .int (Int32.ofInt br), .int (Int32.ofInt 1), v] [.ref 93] τ (QA σ0) := by
  have hbr := hJ.br
  obtain ⟨hP, hR, hD, hK, e1, e2, e3, fl, hW⟩ := hJ
  have z42 := hF1.c 42 rfl
  have z32 := hF1.c 32 rfl
  have n12 := ct_nn 12 l
  have hP1 : PX FA σ0 τ := hP.tr (PX.fr _ rfl rfl rfl rfl hB1 hF1)
  refine Ok.cv rfl rfl rfl rfl rfl rfl rfl ?_
  refine (m_readCompared hB1 (Rd.fr _ rfl rfl rfl rfl hF1 hR) (by omega)).use (by decide) (fun r2 τ2 q2 => ?_)
  obtain ⟨hP2, q2⟩ := q2
  have g2 := gB hP2.1
  have hPA : PX FA τ τ2 := hP2.up rfl
  rcases q2 with rfl | ⟨rfl, hI⟩
  · refine sg_ra51 (-1) br v hv hP2.1 ⟨by omega, hbr, trivial⟩ ?_ ?_
    · intro τ3 y _ _ _ _ f; exfalso; omega
    · intro τ3 y hB3 hF3 _ _ _ _
      exact ⟨(hP1.tr hPA).tr (PX.fr [] rfl rfl rfl rfl hB3 hF3), Or.inl rfl⟩
  · refine sg_ra51 0 br v hv hP2.1 ⟨by omega, hbr, trivial⟩ ?_ ?_
    · intro τ3 y v3 hv3 hB3 hF3 _ _ _ _
      have i1 := hI.2.1
      have i2 := hI.2.2.1
      have y42 := hF3.c 42 rfl
      have y32 := hF3.c 32 rfl
      have y43 : cI τ3 43 = cI σ 43 := ((hF3.c 43 rfl).trans (hP2.2.1.c 43 rfl)).trans h43
      have hD3 : PD τ3 l := PD.fr [] rfl rfl hF3 (PD.fr FU rfl rfl hP2.2.1 (PD.fr _ rfl rfl hF1 hD))
      refine Ok.cv rfl rfl rfl rfl rfl rfl rfl ?_
      refine (m_settles hB3 9 (by omega) l hD3 (by omega) (fun _ => by omega)).use (by decide) (fun r4 τ4 q4 => ?_)
      obtain ⟨rfl, hP4, m, l', el, hh, hD4, c4, d4, hW4⟩ := q4
      refine sg_ra58 br _ v3 rfl hv3 hP4.1 ⟨hbr, trivial⟩ ?_
      intro τ5 y v5 hv5 hB5 hF5 _ _ _ _
      have x42 := hF5.c 42 rfl
      have x32 := (hF5.c 32 rfl).trans (hP4.2.1.c 32 rfl)
      have x43 := hF5.c 43 rfl
      rw [if_pos rfl] at d4
      have c9 : ct 9 l = (m : Int) + ct 9 l' := by rw [el, ct_rep, if_pos rfl]
      have c12 : ct 12 l = ct 12 l' := by rw [el, ct_rep, if_neg (by decide)]; omega
      have cn : no l = no l' := by rw [el, no_rep, if_neg (by decide)]; omega
      have cl : (l.length : Int) = m + l'.length := by rw [el]; simp
      have hPe : PX FA σ0 τ5 := (((hP1.tr hPA).tr (PX.fr [] rfl rfl rfl rfl hB3 hF3)).tr (hP4.up rfl)).tr (PX.fr [] rfl rfl rfl rfl hB5 hF5)
      have hR5 : Rd τ5 := Rd.fr [] rfl rfl rfl rfl hF5 (Rd.fr FS rfl rfl rfl rfl hP4.2.1 (Rd.fr [] rfl rfl rfl rfl hF3 hI.1))
      obtain ⟨fl2, w2⟩ := hI.2.2.2 _ _ _ (Wd.fr _ rfl rfl rfl hF1 hW)
      obtain ⟨fl3, w3⟩ := hW4 _ _ _ (Wd.fr [] rfl rfl rfl hF3 w2) (fun _ => by omega) (fun z => absurd rfl z)
      rw [if_pos rfl] at w3
      have w5 := Wd.fr [] rfl rfl rfl hF5 w3
      refine H.2 τ5 br l' v5 hv5 (by omega) ⟨hPe, hR5, PD.fr [] rfl rfl hF5 hD4, KK_9 m l' (el ▸ hK) hh, by omega, by omega, by omega, fl3, ?_⟩
      rw [← cn]
      exact w5
    · intro τ3 y _ _ f; exfalso; omega
/-- and, or: what is settled, then what waits -/
theorem a_andor {σ0 σ τ : pm_S} {br : Int} {l : List Int} (hP : PX FA σ0 τ) (hR : Rd τ) (hD : PD τ l) (hK : KK 2 l ∨ KK 3 l) {w : Int} (hw : (w = 10 ∧ KK 2 l) ∨ (w = 11 ∧ KK 3 l)) (e1 : br = ct 12 l) (e2 : cI τ 43 = ct 9 l + ct 12 l) (e3 : cI τ 42 + l.length ≤ cI τ 32) {fl : Bool} (hW : Wd τ (cI σ0 42).toNat (no l + 1) fl) (h33 : cI τ 33 ≠ 0) (h32 : cI τ 32 = cI σ 32) (hm : cI σ0 32 ≤ cI σ 32) (H : HA σ0 σ) :
    Sp 191 90 [.ref 93, .int (Int32.ofInt w)] τ (fun r τ2 => r = none ∧ an_GB pm_B τ2 ∧ ∀ τ3, FQ [] τ2 τ3 → an_GB pm_B τ3 → Sp 182 90 [.ref 93] τ3 (fun r τ4 => r = none ∧ an_GB pm_B τ4 ∧ ∀ τ5 v, v.category = 1 → FQ [] τ4 τ5 → an_GB pm_B τ5 → Ok 193 91 7 [.ref 93, .int (Int32.ofInt br), .int (Int32.ofInt 1), v] [] τ5 (QA σ0))) := by
  have g := gB hP.1
  have n9 := ct_nn 9 l
  have n12 := ct_nn 12 l
  have hlen : (l.length : Int) ≤ 3 * (ct 9 l + ct 12 l) + 2 := by
    rcases hK with h | h
    · have := KK_len l 2 h
      rw [if_neg (by omega), if_pos rfl] at this
      omega
    · have := KK_len l 3 h
      rw [if_neg (by omega), if_neg (by omega)] at this
      omega
  have d1 := hD.1
  refine (m_waits hP.1 w (by omega) (by omega)).use (by decide) (fun r2 τ2 q2 => ?_)
  obtain ⟨rfl, hB2, hF2, hD2⟩ := q2
  refine ⟨rfl, hB2, ?_⟩
  intro τ3 hF3 hB3
  refine (m_reads hB3).use (by decide) (fun r4 τ4 q4 => ?_)
  obtain ⟨rfl, hB4, hR4, c4, hF4⟩ := q4
  refine ⟨rfl, hB4, ?_⟩
  intro τ5 v hv hF5 hB5
  have hr := hR.2.1 h33
  have y31 : cI τ3 31 = cI τ 31 := (hF3.c 31 rfl).trans (hF2.c 31 rfl)
  have y42 : cI τ5 42 = cI τ 42 := (((hF5.c 42 rfl).trans (hF4.c 42 rfl)).trans (hF3.c 42 rfl)).trans (hF2.c 42 rfl)
  have y43 : cI τ5 43 = cI τ 43 := (((hF5.c 43 rfl).trans (hF4.c 43 rfl)).trans (hF3.c 43 rfl)).trans (hF2.c 43 rfl)
  have y32 : cI τ5 32 = cI τ4 32 := hF5.c 32 rfl
  have hP5 : PX FA σ0 τ5 := (((hP.tr (PX.fr _ rfl rfl rfl rfl hB2 hF2)).tr (PX.fr [] rfl rfl rfl rfl hB3 hF3)).tr (PX.fr FR rfl rfl rfl rfl hB4 hF4)).tr (PX.fr [] rfl rfl rfl rfl hB5 hF5)
  have hD5 : PD τ5 (w :: l) := PD.fr [] rfl rfl hF5 (PD.fr FR rfl rfl hF4 (PD.fr [] rfl rfl hF3 (hD2 l hD)))
  have hW5 : Wd τ5 (cI σ0 42).toNat (no l + 1) fl := Wd.fr [] rfl rfl rfl hF5 (Wd.fr FR rfl rfl rfl hF4 (Wd.fr [] rfl rfl rfl hF3 (Wd.fr _ rfl rfl rfl hF2 hW)))
  refine H.1 τ5 br (w :: l) v hv (by omega) ⟨hP5, Rd.fr [] rfl rfl rfl rfl hF5 hR4, hD5, ?_, ?_, ?_, ?_, fl, ?_⟩
  · rcases hw with h | h
    · exact Or.inr (Or.inr (Or.inl ⟨h.1, by omega, h.2⟩))
    · exact Or.inr (Or.inr (Or.inr ⟨h.1, by omega, h.2⟩))
  · rw [ct_c, if_neg (by omega)]; omega
  · rw [ct_c, ct_c, y43, if_neg (by omega), if_neg (by omega)]; omega
  · rw [List.length_cons]; omega
  · rw [no_c, if_pos (by omega)]
    rw [show 1 + no l + 0 = no l + 1 by omega]
    exact hW5
/-- settling and, behind an operand -/
theorem a_set10 {σ0 τ : pm_S} {l : List Int} (hP : PX FA σ0 τ) (hR : Rd τ) (hD : PD τ l) (hK : KK 1 l) (e2 : cI τ 43 = ct 9 l + ct 12 l) (e3 : cI τ 42 + l.length ≤ cI τ 32) {fl : Bool} (hW : Wd τ (cI σ0 42).toNat (no l + 1) fl) : Sp 192 90 [.ref 93, .int (Int32.ofInt 10)] τ (fun r τ2 => r = none ∧ PX FA σ0 τ2 ∧ FQ FS τ τ2 ∧ ∃ l', KK 2 l' ∧ PD τ2 l' ∧ ct 12 l' = ct 12 l ∧ cI τ2 43 = ct 9 l' + ct 12 l' ∧ cI τ2 42 + l'.length ≤ cI τ2 32 ∧ ∃ fl', Wd τ2 (cI σ0 42).toNat (no l' + 1) fl') := by
  have g := gB hP.1
  refine (m_settles hP.1 10 (by omega) l hD (by omega) (fun z => absurd z (by decide))).use (by decide) (fun r4 τ4 q4 => ?_)
  obtain ⟨rfl, hP4, m, l', el, hh, hD4, c4, d4, hW4⟩ := q4
  rw [if_neg (by decide)] at d4
  have c9 : ct 9 l = ct 9 l' := by rw [el, ct_rep, if_neg (by decide)]; omega
  have c12 : ct 12 l = ct 12 l' := by rw [el, ct_rep, if_neg (by decide)]; omega
  have cn : no l = m + no l' := by rw [el, no_rep, if_pos (by decide)]
  have cl : (l.length : Int) = m + l'.length := by rw [el]; simp
  have x32 := hP4.2.1.c 32 rfl
  obtain ⟨fl3, w3⟩ := hW4 _ _ _ hW (fun z => absurd z (by decide)) (fun _ => by omega)
  rw [if_neg (by decide), show no l + 1 - m = no l' + 1 by omega] at w3
  exact ⟨rfl, hP.tr (hP4.up rfl), hP4.2.1, l', KK_10 m l' (el ▸ hK) hh, hD4, by omega, by omega, by omega, fl3, w3⟩
theorem a_set11 {σ0 τ : pm_S} {l : List Int} (hP : PX FA σ0 τ) (hR : Rd τ) (hD : PD τ l) (hK : KK 2 l) (e2 : cI τ 43 = ct 9 l + ct 12 l) (e3 : cI τ 42 + l.length ≤ cI τ 32) {fl : Bool} (hW : Wd τ (cI σ0 42).toNat (no l + 1) fl) : Sp 192 90 [.ref 93, .int (Int32.ofInt 11)] τ (fun r τ2 => r = none ∧ PX FA σ0 τ2 ∧ FQ FS τ τ2 ∧ ∃ l', KK 3 l' ∧ PD τ2 l' ∧ ct 12 l' = ct 12 l ∧ cI τ2 43 = ct 9 l' + ct 12 l' ∧ cI τ2 42 + l'.length ≤ cI τ2 32 ∧ ∃ fl', Wd τ2 (cI σ0 42).toNat (no l' + 1) fl') := by
  have g := gB hP.1
  refine (m_settles hP.1 11 (by omega) l hD (by omega) (fun z => absurd z (by decide))).use (by decide) (fun r4 τ4 q4 => ?_)
  obtain ⟨rfl, hP4, m, l', el, hh, hD4, c4, d4, hW4⟩ := q4
  rw [if_neg (by decide)] at d4
  have c9 : ct 9 l = ct 9 l' := by rw [el, ct_rep, if_neg (by decide)]; omega
  have c12 : ct 12 l = ct 12 l' := by rw [el, ct_rep, if_neg (by decide)]; omega
  have cn : no l = m + no l' := by rw [el, no_rep, if_pos (by decide)]
  have cl : (l.length : Int) = m + l'.length := by rw [el]; simp
  have x32 := hP4.2.1.c 32 rfl
  obtain ⟨fl3, w3⟩ := hW4 _ _ _ hW (fun z => absurd z (by decide)) (fun _ => by omega)
  rw [if_neg (by decide), show no l + 1 - m = no l' + 1 by omega] at w3
  exact ⟨rfl, hP.tr (hP4.up rfl), hP4.2.1, l', KK_11 m l' (el ▸ hK) hh, hD4, by omega, by omega, by omega, fl3, w3⟩
