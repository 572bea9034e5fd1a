/-! readText, text -/
def lwD (σ : pm_S) (k : Nat) : Prop := ∀ i : Nat, i < k → ∃ f n : Nat, (σ.1 117 (16 + i)).toInt = f ∧ (σ.1 118 (16 + i)).toInt = (f : Int) + n ∧ (f : Int) + n ≤ cI σ 42 ∧ ∃ s, wR (σ.1 119) (σ.1 120) (400 + f) n = some s
def lwP (σ0 σ : pm_S) : Prop := (∀ j : Nat, j < 400 → σ.1 119 j = σ0.1 119 j ∧ σ.1 120 j = σ0.1 120 j) ∧ (∀ j : Nat, j < 16 → σ.1 116 j = σ0.1 116 j ∧ σ.1 117 j = σ0.1 117 j ∧ σ.1 118 j = σ0.1 118 j)
/-- the law as it stands is well-formed -/
def lwW (σ : pm_S) : Prop := ∀ i : Nat, (i : Int) < cI σ 36 → ∃ f n : Nat, (σ.1 117 i).toInt = f ∧ (σ.1 118 i).toInt = (f : Int) + n ∧ f + n ≤ 400 ∧ ∃ s, wR (σ.1 119) (σ.1 120) f n = some s
abbrev FT : List (Nat × Nat) := [(93, 31), (93, 32), (93, 33), (93, 34), (93, 42), (93, 46), (93, 47), (119, 9999), (120, 9999), (93, 43), (93, 45), (121, 9999), (116, 9999), (117, 9999), (118, 9999)]
def tbK (σ0 σ : pm_S) (k : Nat) : Prop := an_GB pm_B σ ∧ FQ FT σ0 σ ∧ lwP σ0 σ ∧ lwD σ k
theorem tbK.px {σ0 σ τ : pm_S} {k : Nat} (h : tbK σ0 σ k) (hP : PX FA σ τ) : tbK σ0 τ k := by
  obtain ⟨hB, hF, hL, hD⟩ := h
  have g := gB hB
  refine ⟨hP.1, hF.tr (hP.2.1.up rfl), ⟨fun j hj => ?_, fun j hj => ?_⟩, fun i hi => ?_⟩
  · have := hP.2.2.1 j (by omega)
    rw [this.1, this.2]
    exact hL.1 j hj
  · rw [hP.2.1 116 j rfl, hP.2.1 117 j rfl, hP.2.1 118 j rfl]
    exact hL.2 j hj
  · obtain ⟨f, n, e1, e2, e3, s, e4⟩ := hD i hi
    have hm := hP.2.2.2
    refine ⟨f, n, by rw [hP.2.1 117 _ rfl]; exact e1, by rw [hP.2.1 118 _ rfl]; exact e2, by omega, s, ?_⟩
    rw [wR_congr n (fun j h1 h2 => hP.2.2.1 j (by omega))]
    exact e4
theorem tbK.pt {σ0 σ : pm_S} {k p j : Nat} {w : Int32} (h : tbK σ0 σ k) (hp : p = 116 ∨ p = 117 ∨ p = 118) (hj : 16 + k ≤ j) (hB : an_GB pm_B (put σ p j w)) : tbK σ0 (put σ p j w) k := by
  obtain ⟨-, hF, hL, hD⟩ := h
  refine ⟨hB, hF.tr (FQ.put (by rcases hp with rfl | rfl | rfl <;> rfl)), ⟨fun i hi => ?_, fun i hi => ?_⟩, fun i hi => ?_⟩
  · rw [put_nr (by omega), put_nr (by omega)]
    exact hL.1 i hi
  · rw [put_ne (by omega), put_ne (by omega), put_ne (by omega)]
    exact hL.2 i hi
  · obtain ⟨f, n, e1, e2, e3, s, e4⟩ := hD i hi
    refine ⟨f, n, by rw [put_ne (by omega)]; exact e1, by rw [put_ne (by omega)]; exact e2, ?_, s, ?_⟩
    · show (f : Int) + n ≤ ((put σ p j w).1 93 42).toInt
      rw [put_nr (by omega)]
      exact e3
    · rw [wR_congr n (fun i h1 h2 => ⟨put_nr (by omega), put_nr (by omega)⟩)]
      exact e4
abbrev QX (σ0 : pm_S) : Option Value → pm_S → Prop := fun r τ => an_GB pm_B τ ∧ FQ FT σ0 τ ∧ lwP σ0 τ ∧ (r = some (.int (Int32.ofInt (-1))) ∨ ∃ k : Nat, k ≤ 16 ∧ r = some (.int (Int32.ofInt k)) ∧ lwD τ k)
theorem tbK.neg {σ0 σ : pm_S} {k : Nat} (h : tbK σ0 σ k) : QX σ0 (some (.int (Int32.ofInt (-1)))) σ := ⟨h.1, h.2.1, h.2.2.1, Or.inl rfl⟩
theorem put_c {σ : pm_S} {p j : Nat} {w : Int32} (hp : p ≠ 93) (i : Nat) : cI (put σ p j w) i = cI σ i := by
  show ((put σ p j w).1 93 i).toInt = _
  rw [put_nr (fun z => hp z.symm)]
theorem Rd.pt {σ : pm_S} {p j : Nat} {w : Int32} (hp : p ≠ 93) (h : Rd σ) : Rd (put σ p j w) := by
  unfold Rd
  rw [put_c hp, put_c hp, put_c hp, put_c hp]
  exact h
theorem t_loop {σ0 : pm_S} : ∀ (N : Nat) (σ : pm_S) (k : Nat) (v : Value), v.category = 1 → 400 - cI σ 32 < N → k ≤ 16 → tbK σ0 σ k → Rd σ → cI σ 42 ≤ cI σ 32 → cI σ 43 = 0 → Ok 194 101 2 [.ref 93, .int (Int32.ofInt (k : Int)), v] [] σ (QX σ0) := by
  intro N
  induction N with
  | zero => intro σ k v hv hN hk hT; have := gB hT.1; exfalso; omega
  | succ N ih =>
    intro σ k v hv hN hk hT hR hc ho
    have hB := hT.1
    have g := gB hB
    -- the line's end
    have at47 : ∀ (σ' : pm_S) (b n : Nat) (s : Nat × Bool), k ≤ 15 → tbK σ0 σ' k → Rd σ' → cI σ' 42 ≤ cI σ' 32 → cI σ' 43 = 0 → cI σ 32 < cI σ' 32 → (σ'.1 117 (16 + k)).toInt = (b : Int) → cI σ' 42 = (b : Int) + n → wR (σ'.1 119) (σ'.1 120) (400 + b) n = some s → Ok 194 101 47 [.ref 93, .int (Int32.ofInt (k : Int)), .int (Int32.ofInt ((k : Int) + 16))] [] σ' (QX σ0) := by
      intro σ' b n s hk15 hT' hR' hc' ho' hpr hfr hcn hwr
      have g' := gB hT'.1
      refine sg_rT47 k ((k : Int) + 16) (cI σ' 42) hT'.1 ⟨by omega, by omega, by omega, trivial⟩ ⟨rfl, trivial⟩ ?_
      intro τ y hB1 hF1 _ _ _ _
      have hT1 : tbK σ0 τ k := hT'.px (PX.fr [] rfl rfl rfl rfl hB1 hF1)
      refine Ok.ast (n := 32) rfl rfl rfl (by decide) (by omega) (by omega) ?_
      have ix : ((k : Int) + 16).toNat = 16 + k := by omega
      rw [ix]
      have hB2 : an_GB pm_B (put τ 118 (16 + k) (Int32.ofInt (cI σ' 42))) := put_GB hB1 (by
        show (0 : Int) ≤ (Int32.ofInt (cI σ' 42)).toInt ∧ (Int32.ofInt (cI σ' 42)).toInt ≤ 400
        rw [ti_of (by omega) (by omega)]
        omega)
      have hT2 := hT1.pt (w := Int32.ofInt (cI σ' 42)) (Or.inr (Or.inr rfl)) (Nat.le_refl (16 + k)) hB2
      have z42 : cI τ 42 = cI σ' 42 := hF1.c 42 rfl
      have hT3 : tbK σ0 (put τ 118 (16 + k) (Int32.ofInt (cI σ' 42))) (k + 1) := by
        refine ⟨hB2, hT2.2.1, hT2.2.2.1, fun i hi => ?_⟩
        by_cases e : i = k
        · subst e
          refine ⟨b, n, ?_, ?_, ?_, s, ?_⟩
          · rw [put_nr (by decide), hF1 117 _ rfl]; exact hfr
          · rw [put_eq, ti_of (by omega) (by omega)]; exact hcn
          · rw [put_c (by decide), z42]; omega
          · rw [wR_congr n (fun j _ _ => ⟨put_nr (by decide), put_nr (by decide)⟩), FQ.e1 hF1]
            exact hwr
        · exact hT2.2.2.2 i (by omega)
      generalize hσ2 : put τ 118 (16 + k) (Int32.ofInt (cI σ' 42)) = σ2 at hT3 hB2
      have a33 : cI σ2 33 = cI σ' 33 := by rw [← hσ2, put_c (by decide)]; exact hF1.c 33 rfl
      have a42 : cI σ2 42 = cI σ' 42 := by rw [← hσ2, put_c (by decide)]; exact hF1.c 42 rfl
      have a32 : cI σ2 32 = cI σ' 32 := by rw [← hσ2, put_c (by decide)]; exact hF1.c 32 rfl
      have a31 : cI σ2 31 = cI σ' 31 := by rw [← hσ2, put_c (by decide)]; exact hF1.c 31 rfl
      have a43 : cI σ2 43 = cI σ' 43 := by rw [← hσ2, put_c (by decide)]; exact hF1.c 43 rfl
      have hR2 : Rd σ2 := by rw [← hσ2]; exact Rd.pt (by decide) (Rd.fr [] rfl rfl rfl rfl hF1 hR')
      have g2 := gB hB2
      refine sg_rT53 (cI σ2 33) (cI σ2 34) k ((k : Int) + 16) hB2 ⟨g2.2.2.2.1, ai_rng _, by omega, by omega, trivial⟩ ⟨rfl, rfl, trivial⟩ ?_ ?_
      · intro τ3 y hB3 hF3 _ _ _ _
        exact (hT3.px (PX.fr _ rfl rfl rfl rfl hB3 hF3)).neg
      · intro τ3 y hB3 hF3 f3 _ _ _
        have hT4 := hT3.px (PX.fr (F := FA) _ rfl rfl rfl rfl hB3 hF3)
        refine Ok.cv rfl rfl rfl rfl rfl rfl rfl ?_
        refine (m_reads hB3).use (by decide) (fun r5 τ5 q5 => ?_)
        obtain ⟨rfl, hB5, hR5, c5, hF5⟩ := q5
        refine sg_rT63 k ((k : Int) + 16) hB5 ⟨by omega, by omega, trivial⟩ ?_
        intro τ6 y hB6 hF6 _ _ _ _
        have hr := hR2.2.1 (by omega)
        have b31 := hF3.c 31 rfl
        have b32 := hF6.c 32 rfl
        have b42 : cI τ6 42 = cI σ2 42 := ((hF6.c 42 rfl).trans (hF5.c 42 rfl)).trans (hF3.c 42 rfl)
        have b43 : cI τ6 43 = cI σ2 43 := ((hF6.c 43 rfl).trans (hF5.c 43 rfl)).trans (hF3.c 43 rfl)
        exact ih τ6 (k + 1) _ rfl (by omega) (by omega) ((hT4.px (PX.fr FR rfl rfl rfl rfl hB5 hF5)).px (PX.fr [] rfl rfl rfl rfl hB6 hF6)) (Rd.fr [] rfl rfl rfl rfl hF6 hR5) (by omega) (by omega)
    refine sg_rT2 (cI σ 33) (cI σ 34) k v hv hB ⟨g.2.2.2.1, ai_rng _, by omega, trivial⟩ ⟨rfl, rfl, trivial⟩ ?_ ?_ ?_
    · intro τ y hB1 hF1 _ _ _ _
      exact (hT.px (PX.fr _ rfl rfl rfl rfl hB1 hF1)).neg
    · intro τ y hB1 hF1 _ _ _ _
      have h1 := hT.px (PX.fr (F := FA) _ rfl rfl rfl rfl hB1 hF1)
      exact ⟨hB1, h1.2.1, h1.2.2.1, Or.inr ⟨k, hk, rfl, h1.2.2.2⟩⟩
    · intro τ y hB1 hF1 f1 _ _ _
      have hT1 := hT.px (PX.fr (F := FA) _ rfl rfl rfl rfl hB1 hF1)
      refine Ok.ast (n := 32) rfl rfl rfl (by decide) (by omega) (by omega) ?_
      have ix : ((k : Int) + 16).toNat = 16 + k := by omega
      rw [ix]
      have hB2 : an_GB pm_B (put τ 116 (16 + k) (Int32.ofInt (cI σ 34))) := put_GB hB1 (ai_rng _)
      have hT2 := hT1.pt (w := Int32.ofInt (cI σ 34)) (Or.inl rfl) (Nat.le_refl (16 + k)) hB2
      generalize hσ2 : put τ 116 (16 + k) (Int32.ofInt (cI σ 34)) = σ2 at hT2 hB2
      have a42 : cI σ2 42 = cI σ 42 := by rw [← hσ2, put_c (by decide)]; exact hF1.c 42 rfl
      have a31 : cI σ2 31 = cI σ 31 := by rw [← hσ2, put_c (by decide)]; exact hF1.c 31 rfl
      have a43 : cI σ2 43 = cI σ 43 := by rw [← hσ2, put_c (by decide)]; exact hF1.c 43 rfl
      have hr := hR.2.1 (by omega)
      refine sg_rT27 k ((k : Int) + 16) hB2 ⟨by omega, by omega, trivial⟩ ?_
      intro τ3 y hB3 hF3 _ _ _ _
      refine Ok.cv rfl rfl rfl rfl rfl rfl rfl ?_
      refine (m_reads hB3).use (by decide) (fun r4 τ4 q4 => ?_)
      obtain ⟨rfl, hB4, hR4, c4, hF4⟩ := q4
      have g4 := gB hB4
      refine sg_rT29 k ((k : Int) + 16) (cI τ4 42) hB4 ⟨by omega, by omega, g4.2.2.2.2.1, trivial⟩ ⟨rfl, trivial⟩ ?_
      intro τ5 y hB5 hF5 _ _ _ _
      refine Ok.ast (n := 32) rfl rfl rfl (by decide) (by omega) (by omega) ?_
      rw [ix]
      have hB6 : an_GB pm_B (put τ5 117 (16 + k) (Int32.ofInt (cI τ4 42))) := put_GB hB5 (by
        show (0 : Int) ≤ (Int32.ofInt (cI τ4 42)).toInt ∧ (Int32.ofInt (cI τ4 42)).toInt ≤ 400
        rw [ti_of (by omega) (by omega)]
        omega)
      have hT5 : tbK σ0 τ5 k := ((hT2.px (PX.fr [] rfl rfl rfl rfl hB3 hF3)).px (PX.fr FR rfl rfl rfl rfl hB4 hF4)).px (PX.fr [] rfl rfl rfl rfl hB5 hF5)
      have hT6 := hT5.pt (w := Int32.ofInt (cI τ4 42)) (Or.inr (Or.inl rfl)) (Nat.le_refl (16 + k)) hB6
      have hfr : ((put τ5 117 (16 + k) (Int32.ofInt (cI τ4 42))).1 117 (16 + k)).toInt = cI τ4 42 := by rw [put_eq, ti_of (by omega) (by omega)]
      generalize hσ6 : put τ5 117 (16 + k) (Int32.ofInt (cI τ4 42)) = σ6 at hT6 hB6 hfr
      have b42 : cI σ6 42 = cI τ4 42 := by rw [← hσ6, put_c (by decide)]; exact hF5.c 42 rfl
      have b42' : cI τ4 42 = cI σ 42 := ((hF4.c 42 rfl).trans (hF3.c 42 rfl)).trans a42
      have b32 : cI σ6 32 = cI τ4 32 := by rw [← hσ6, put_c (by decide)]; exact hF5.c 32 rfl
      have b43 : cI σ6 43 = cI σ 43 := by
        rw [← hσ6, put_c (by decide)]
        exact (((hF5.c 43 rfl).trans (hF4.c 43 rfl)).trans (hF3.c 43 rfl)).trans a43
      have b31 : cI τ3 31 = cI σ 31 := (hF3.c 31 rfl).trans a31
      have hR6 : Rd σ6 := by rw [← hσ6]; exact Rd.pt (by decide) (Rd.fr [] rfl rfl rfl rfl hF5 hR4)
      have g6 := gB hB6
      refine sg_rT35 (cI σ6 33) (cI σ6 34) k ((k : Int) + 16) hB6 ⟨g6.2.2.2.1, ai_rng _, by omega, by omega, trivial⟩ ⟨rfl, rfl, trivial⟩ ?_ ?_
      · intro τ7 y hB7 hF7 _ _ _ _
        have d42 := hF7.c 42 rfl
        have d32 := hF7.c 32 rfl
        have d43 := hF7.c 43 rfl
        refine at47 τ7 (cI τ4 42).toNat 0 (0, false) (by omega) (hT6.px (PX.fr [] rfl rfl rfl rfl hB7 hF7)) (Rd.fr [] rfl rfl rfl rfl hF7 hR6) (by omega) (by omega) (by omega) ?_ (by omega) rfl
        rw [hF7 117 _ rfl, hfr]
        omega
      · intro τ7 y hB7 hF7 f7 _ _ _
        have d31 := hF7.c 31 rfl
        have d42 := hF7.c 42 rfl
        have d32 := hF7.c 32 rfl
        have d43 := hF7.c 43 rfl
        have hr6 := hR6.2.1 (by omega)
        refine Ok.cv rfl rfl rfl rfl rfl rfl rfl ?_
        refine (m_reads hB7).use (by decide) (fun r8 τ8 q8 => ?_)
        obtain ⟨rfl, hB8, hR8, c8, hF8⟩ := q8
        have e42 := hF8.c 42 rfl
        have e43 := hF8.c 43 rfl
        refine sg_rT41 k ((k : Int) + 16) hB8 ⟨by omega, by omega, trivial⟩ ?_
        intro τ9 y hB9 hF9 _ _ _ _
        have h42 := hF9.c 42 rfl
        have h43 := hF9.c 43 rfl
        have h32 := hF9.c 32 rfl
        have hT9 : tbK σ0 τ9 k := ((hT6.px (PX.fr [] rfl rfl rfl rfl hB7 hF7)).px (PX.fr FR rfl rfl rfl rfl hB8 hF8)).px (PX.fr [] rfl rfl rfl rfl hB9 hF9)
        refine Ok.cv rfl rfl rfl rfl rfl rfl rfl ?_
        refine (m_readAny hB9 (Rd.fr [] rfl rfl rfl rfl hF9 hR8) (by omega) (by omega)).use (by decide) (fun ra τa qa => ?_)
        obtain ⟨hPa, qa⟩ := qa
        have hTa := hT9.px hPa
        rcases qa with rfl | ⟨rfl, hRa, ca, oa, fl, nn, hn, hw⟩
        · refine sg_rT43 k ((k : Int) + 16) (-1) hPa.1 ⟨by omega, by omega, by omega, trivial⟩ ?_ ?_
          · intro τb y _ _ f; exfalso; omega
          · intro τb y hBb hFb _ _ _ _
            exact (hTa.px (PX.fr [] rfl rfl rfl rfl hBb hFb)).neg
        · refine sg_rT43 k ((k : Int) + 16) 0 hPa.1 ⟨by omega, by omega, by omega, trivial⟩ ?_ ?_
          · intro τb y hBb hFb _ _ _ _
            have i42 := hFb.c 42 rfl
            have i32 := hFb.c 32 rfl
            have i43 := hFb.c 43 rfl
            have hge := hPa.2.2.2
            refine at47 τb (cI τ9 42).toNat nn (1, fl) (by omega) (hTa.px (PX.fr [] rfl rfl rfl rfl hBb hFb)) (Rd.fr [] rfl rfl rfl rfl hFb hRa) (by omega) (by omega) ?_ ?_ (by omega) ?_
            · omega
            · rw [hFb 117 _ rfl, hPa.2.1 117 _ rfl, hF9 117 _ rfl, hF8 117 _ rfl, hF7 117 _ rfl, hfr]
              omega
            · rw [FQ.e1 hFb]
              exact hw
          · intro τb y _ _ f; exfalso; omega
theorem m_readText {σ : pm_S} (hB : an_GB pm_B σ) (hR : Rd σ) (hc : cI σ 42 ≤ cI σ 32) (ho : cI σ 43 = 0) : Sp 194 101 [.ref 93] σ (QX σ) := by
  have g := gB hB
  refine Sp.at rfl rfl ?_
  refine sg_rT0 _ _ rfl rfl hB ?_
  intro τ y v1 hv1 hB1 hF1 _ _ _ _
  have z32 := hF1.c 32 rfl
  have z42 := hF1.c 42 rfl
  have z43 := hF1.c 43 rfl
  have hT0 : tbK σ σ 0 := ⟨hB, FQ.rf _ _, ⟨fun _ _ => ⟨rfl, rfl⟩, fun _ _ => ⟨rfl, rfl, rfl⟩⟩, fun i hi => absurd hi (by omega)⟩
  exact t_loop 402 τ 0 v1 hv1 (by omega) (by omega) (hT0.px (PX.fr [] rfl rfl rfl rfl hB1 hF1)) (Rd.fr [] rfl rfl rfl rfl hF1 hR) (by omega) (by omega)
