/-! what waits -/
def PL (f : Nat → Int32) : List Int → Prop
  | [] => True
  | x :: r => (f r.length).toInt = x ∧ PL f r
theorem PL_congr {f g : Nat → Int32} : ∀ (l : List Int), (∀ j, j < l.length → g j = f j) → PL f l → PL g l
  | [], _, _ => trivial
  | x :: r, h, hl => ⟨by rw [h r.length (by simp)]; exact hl.1, PL_congr r (fun j hj => h j (by simp; omega)) hl.2⟩
def PD (σ : pm_S) (l : List Int) : Prop := cI σ 45 = l.length ∧ PL (σ.1 121) l
theorem PD.fr {σ τ : pm_S} {l : List Int} (G : List (Nat × Nat)) (h1 : an_inF G 93 45 = false) (h2 : an_inP G 121 = false) (hF : FQ G σ τ) (h : PD σ l) : PD τ l :=
  ⟨by rw [hF.c 45 h1]; exact h.1, PL_congr l (fun j _ => hF 121 j (an_inP_ok h2 j)) h.2⟩
abbrev QWa (σ : pm_S) (w : Int) : Option Value → pm_S → Prop := fun r τ => r = none ∧ an_GB pm_B τ ∧ FQ [(93, 45), (121, 9999)] σ τ ∧ ∀ l, PD σ l → PD τ (w :: l)
theorem m_waits {σ : pm_S} (hB : an_GB pm_B σ) (w : Int) (hw : (-2147483648) ≤ w ∧ w ≤ 2147483647) (hc : cI σ 45 ≤ 39) : Sp 191 11 [.ref 93, .int (Int32.ofInt w)] σ (QWa σ w) := by
  have g := (gB hB).2.2.2.2.2.2
  refine Sp.at rfl rfl ?_
  refine sg_wa0 w (cI σ 45) hB ⟨hw, ⟨g.1, hc⟩, trivial⟩ ⟨rfl, trivial⟩ ?_
  intro τ y hB1 hF1 f r dd c
  refine Ok.ast (n := 40) rfl rfl rfl (by decide) (by omega) (by omega) ?_
  have hB2 : an_GB pm_B (put τ 121 (cI σ 45).toNat (Int32.ofInt w)) := put_GB hB1 (ai_rng _)
  refine sg_wa1 w (cI σ 45) hB2 ⟨hw, ⟨g.1, hc⟩, trivial⟩ ⟨by rw [put_nr (by decide)]; exact c.1, trivial⟩ ?_
  intro τ2 y hB3 hF3 f r dd c2
  refine ⟨rfl, hB3, FQ.tr (FQ.tr (FQ.up (G := []) rfl hF1) (FQ.put rfl)) (FQ.up (G := [(93, 45)]) rfl hF3), ?_⟩
  intro l hl
  have e := hl.1
  have ix : (cI σ 45).toNat = l.length := by omega
  refine ⟨?_, ?_, ?_⟩
  · show (τ2.1 93 45).toInt = ((l.length + 1 : Nat) : Int)
    rw [c2.1]
    omega
  · rw [hF3 121 l.length rfl, ← ix, put_eq]
    exact ti_of hw.1 hw.2
  · refine PL_congr l (fun j hj => ?_) hl.2
    rw [hF3 121 j rfl, put_nj (by omega), hF1 121 j rfl]
abbrev FS : List (Nat × Nat) := [(93, 42), (93, 43), (93, 45), (119, 9999), (120, 9999)]
/-- how many of what waits are x -/
def ct (x : Int) : List Int → Int
  | [] => 0
  | y :: r => (if y = x then 1 else 0) + ct x r
theorem ct_nn (x : Int) : ∀ l, 0 ≤ ct x l
  | [] => Int.le_refl 0
  | y :: r => by
    have := ct_nn x r
    show 0 ≤ (if y = x then 1 else 0) + ct x r
    split <;> omega
abbrev QS (σ : pm_S) (w : Int) (l : List Int) : Option Value → pm_S → Prop := fun r τ => r = none ∧ PX FS σ τ ∧ ∃ (m : Nat) (l' : List Int), l = List.replicate m w ++ l' ∧ l'.head? ≠ some w ∧ PD τ l' ∧ cI τ 42 = cI σ 42 + m ∧ cI τ 43 = cI σ 43 - (if w = 9 then (m : Int) else 0) ∧ ∀ b d fl, Wd σ b d fl → (w = 9 → 1 ≤ d) → (w ≠ 9 → m + 1 ≤ d) → ∃ fl', Wd τ b (if w = 9 then d else d - m) fl'
theorem wS_not {d : Nat} {fl : Bool} (h : 1 ≤ d) : wS (Int32.ofInt 9) (Int32.ofInt 0) (d, fl) = some (d, false) := by
  unfold wS
  rw [if_neg (by decide), if_neg (by decide), if_pos (by decide), if_pos h]
theorem wS_two {w : Int} (hw : w = 10 ∨ w = 11) {d : Nat} {fl : Bool} (h : 2 ≤ d) : wS (Int32.ofInt w) (Int32.ofInt 0) (d, fl) = some (d - 1, false) := by
  unfold wS
  have e : (Int32.ofInt w).toInt = w := ti_of (by omega) (by omega)
  rw [e, if_neg (by omega), if_neg (by omega), if_neg (by omega), if_neg (by omega), if_pos h]
theorem s_loop (w : Int) (hw : 9 ≤ w ∧ w ≤ 11) : ∀ (l : List Int) (σ : pm_S), an_GB pm_B σ → PD σ l → cI σ 42 + l.length ≤ 400 → (w = 9 → ct 9 l ≤ cI σ 43) → Ok 192 21 0 [.ref 93, .int (Int32.ofInt w)] [] σ (QS σ w l) := by
  intro l
  induction l with
  | nil =>
    intro σ hB hl hc h9
    have g := (gB hB).2.2.2.2.2.2
    have e : cI σ 45 = 0 := hl.1
    refine sg_st0 w (cI σ 45) hB ⟨hw, g, trivial⟩ ⟨rfl, trivial⟩ ?_ ?_
    · intro τ y hB1 hF1 f r dd c
      refine ⟨rfl, PX.fr [] rfl rfl rfl rfl hB1 hF1, 0, [], rfl, by simp, PD.fr [] rfl rfl hF1 hl, ?_, ?_, ?_⟩
      · rw [hF1.c 42 rfl]; simp
      · rw [hF1.c 43 rfl]; split <;> simp
      · intro b d fl hW _ _
        refine ⟨fl, ?_⟩
        have := Wd.fr [] rfl rfl rfl hF1 hW
        split
        · exact this
        · exact this
    · intro τ y hB1 hF1 f r dd c
      exfalso
      omega
  | cons x r ih =>
    intro σ hB hl hc h9
    have g := gB hB
    have e : cI σ 45 = ((r.length + 1 : Nat) : Int) := hl.1
    have hlen : ((x :: r).length : Int) = r.length + 1 := by simp
    refine sg_st0 w (cI σ 45) hB ⟨hw, g.2.2.2.2.2.2, trivial⟩ ⟨rfl, trivial⟩ ?_ ?_
    · intro τ y hB1 hF1 f r dd c
      exfalso
      omega
    · intro τ y hB1 hF1 f _ dd c
      refine Ok.ald (n := 40) rfl rfl rfl (by decide) (by omega) (by omega) ?_
      refine sg_st10 w _ hB1 ⟨hw, ai_rng _, trivial⟩ ?_
      intro τ2 y hB2 hF2 _ _ _ _
      have ex : (τ.1 121 (cI σ 45 + (-1)).toNat).toInt = x := by
        rw [hF1 121 _ rfl, show (cI σ 45 + (-1)).toNat = r.length by omega]
        exact hl.2.1
      rw [ex]
      have xr : (-2147483648) ≤ x ∧ x ≤ 2147483647 := by rw [← ex]; exact ai_rng _
      have hF12 : FQ [] σ τ2 := FQ.tr hF1 hF2
      refine Ok.ic rfl rfl xr.1 xr.2 (by omega) (by omega) (fun h => ?_) (fun h => ?_)
      · have h : x ≠ w := h
        refine sg_st32 _ rfl hB2 ?_
        intro τ3 y hB3 hF3 _ _ _ _
        have hF13 : FQ [] σ τ3 := FQ.tr hF12 hF3
        refine ⟨rfl, PX.fr [] rfl rfl rfl rfl hB3 hF13, 0, x :: r, rfl, by simpa using h, PD.fr [] rfl rfl hF13 hl, ?_, ?_, ?_⟩
        · rw [hF13.c 42 rfl]; simp
        · rw [hF13.c 43 rfl]; split <;> simp
        · intro b d fl hW _ _
          refine ⟨fl, ?_⟩
          have := Wd.fr [] rfl rfl rfl hF13 hW
          split
          · exact this
          · exact this
      · have h : x = w := h
        refine sg_st12 w (cI σ 45) hB2 ⟨hw, by omega, trivial⟩ ⟨hF12.c 45 rfl, trivial⟩ ?_
        intro τ3 y hB3 hF3 _ _ _ c3
        have a42 : cI τ3 42 = cI σ 42 := (FQ.c hF3 42 rfl).trans (hF12.c 42 rfl)
        have a43 : cI τ3 43 = cI σ 43 := (FQ.c hF3 43 rfl).trans (hF12.c 43 rfl)
        have hP3 : PX FS σ τ3 := PX.tr (PX.fr [] rfl rfl rfl rfl hB2 hF12) (PX.fr [(93, 45)] rfl rfl rfl rfl hB3 hF3)
        refine Ok.cv rfl rfl rfl rfl rfl rfl rfl ?_
        refine (m_emits hB3 w 0 (by omega) (by omega) (by omega)).use (by decide) (fun r4 τ4 q4 => ?_)
        have q0 := q4
        obtain ⟨rfl, hB4, hF4, c4, -, -, -⟩ := q4
        have hP4 : PX FS σ τ4 := hP3.tr (PX.em rfl hB3 q0)
        have hD4 : PD τ4 r := by
          refine ⟨?_, ?_⟩
          · rw [hF4.c 45 rfl]
            show (τ3.1 93 45).toInt = _
            rw [c3.1]
            omega
          · refine PL_congr r (fun j _ => ?_) hl.2.2
            rw [hF4 121 j rfl, hF3 121 j rfl, hF12 121 j rfl]
        have b43 : cI τ4 43 = cI σ 43 := (hF4.c 43 rfl).trans a43
        have hW4 : ∀ b d fl, Wd σ b d fl → ∀ s, wS (Int32.ofInt w) (Int32.ofInt 0) (d, fl) = some s → Wd τ4 b s.1 s.2 := by
          intro b d fl hW s hs
          exact Wd.em (Wd.fr [(93, 45)] rfl rfl rfl hF3 (Wd.fr [] rfl rfl rfl hF12 hW)) q0 hs
        have hct : w = 9 → ct 9 (x :: r) = 1 + ct 9 r := fun z => by
          show (if x = 9 then 1 else 0) + ct 9 r = 1 + ct 9 r
          rw [if_pos (by omega)]
        have fin : ∀ (τ5 : pm_S), an_GB pm_B τ5 → FQ [(93, 43)] τ4 τ5 → cI τ5 43 = cI σ 43 - (if w = 9 then 1 else 0) → Ok 192 21 0 [.ref 93, .int (Int32.ofInt w)] [] τ5 (QS σ w (x :: r)) := by
          intro τ5 hB5 hF5 h43
          have k42 : cI τ5 42 = cI σ 42 + 1 := (hF5.c 42 rfl).trans (by omega)
          refine (ih τ5 hB5 (PD.fr _ rfl rfl hF5 hD4) (by omega) ?_).mono (fun r6 τ6 q6 => ?_)
          · intro z
            have := h9 z
            have := hct z
            rw [h43, if_pos z]
            omega
          · obtain ⟨rfl, hP6, m, l', e1, e2, hD6, c6, d6, hW6⟩ := q6
            refine ⟨rfl, (hP4.tr (PX.fr [(93, 43)] rfl rfl rfl rfl hB5 hF5)).tr hP6, m + 1, l', ?_, e2, hD6, ?_, ?_, ?_⟩
            · rw [h, e1]; rfl
            · rw [c6, k42]; omega
            · rw [d6, h43]
              split <;> omega
            · intro b d fl hW h1 h2
              by_cases z : w = 9
              · have hs : wS (Int32.ofInt w) (Int32.ofInt 0) (d, fl) = some (d, false) := by rw [z]; exact wS_not (h1 z)
                have := Wd.fr [(93, 43)] rfl rfl rfl hF5 (hW4 b d fl hW _ hs)
                obtain ⟨fl', h'⟩ := hW6 b d false this h1 (fun q => absurd z q)
                rw [if_pos z] at h' ⊢
                exact ⟨fl', h'⟩
              · have h2' := h2 z
                have hs : wS (Int32.ofInt w) (Int32.ofInt 0) (d, fl) = some (d - 1, false) := wS_two (by omega) (by omega)
                have := Wd.fr [(93, 43)] rfl rfl rfl hF5 (hW4 b d fl hW _ hs)
                obtain ⟨fl', h'⟩ := hW6 b (d - 1) false this (fun q => absurd q z) (fun _ => by omega)
                rw [if_neg z] at h' ⊢
                exact ⟨fl', by rw [show d - (m + 1) = d - 1 - m by omega]; exact h'⟩
        by_cases z : w = 9
        · subst z
          have := h9 rfl
          have := hct rfl
          have := ct_nn 9 r
          refine sg_st22n (cI τ4 43) hB4 ⟨by omega, trivial⟩ ⟨rfl, trivial⟩ ?_
          intro τ5 y hB5 hF5 _ _ _ c5
          refine fin τ5 hB5 hF5 ?_
          rw [if_pos rfl]
          show (τ5.1 93 43).toInt = _
          rw [c5.1]
          omega
        · refine sg_st22b w hB4 ⟨by omega, trivial⟩ ?_
          intro τ5 y hB5 hF5 _ _ _ _
          refine fin τ5 hB5 (FQ.up (G := []) rfl hF5) ?_
          rw [if_neg z, (FQ.c hF5 43 rfl)]
          omega
theorem m_settles {σ : pm_S} (hB : an_GB pm_B σ) (w : Int) (hw : 9 ≤ w ∧ w ≤ 11) (l : List Int) (hl : PD σ l) (hc : cI σ 42 + l.length ≤ 400) (h9 : w = 9 → ct 9 l ≤ cI σ 43) : Sp 192 21 [.ref 93, .int (Int32.ofInt w)] σ (QS σ w l) :=
  Sp.at rfl rfl (s_loop w hw l σ hB hl hc h9)
