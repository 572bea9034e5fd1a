/-! the model reads a token -/
theorem mulT {a y : Int} (ha : 0 ≤ a ∧ a ≤ 99999) (h : (an_f 2 (Int32.ofInt 10) (Int32.ofInt a)).toInt = y) : y = 10 * a := by
  rw [← h]
  show (Int32.ofInt 10 * Int32.ofInt a).toInt = _
  rw [ai_mul] <;> rw [ti_of (by omega) (by omega), ti_of (by omega) (by omega)] <;> omega
abbrev FMr : List (Nat × Nat) := [(93, 31), (93, 32), (93, 33), (93, 34)]
theorem sgn4 {c : Int} (h : c = 59 ∨ c = 43 ∨ c = 45 ∨ c = 42 ∨ c = 47 ∨ c = 40 ∨ c = 41 ∨ c = 60 ∨ c = 61 ∨ c = 62) : mtok 4 c (ts_s c) := by
  rcases h with h | h | h | h | h | h | h | h | h | h <;> rw [h] <;> exact ⟨fun z => absurd z (by decide), fun z => absurd z (by decide), fun _ => ⟨rfl, rfl⟩, fun z => absurd z (by decide), fun z => absurd z (by decide)⟩
theorem sgn1 {c v : Int} (h : ¬ (c = 59 ∨ c = 43 ∨ c = 45 ∨ c = 42 ∨ c = 47 ∨ c = 40 ∨ c = 41 ∨ c = 60 ∨ c = 61 ∨ c = 62)) : mtok 1 v (ts_s c) := by
  have e : ts_s c = -27 := by
    unfold ts_s
    rw [if_neg (by omega), if_neg (by omega), if_neg (by omega), if_neg (by omega), if_neg (by omega), if_neg (by omega), if_neg (by omega), if_neg (by omega), if_neg (by omega), if_neg (by omega)]
  rw [e]
  exact ⟨fun z => absurd z (by decide), fun z => absurd z (by decide), fun z => absurd z (by decide), fun z => absurd z (by decide), fun _ => rfl⟩
theorem mtok_N {v z : Int} (h : z = -27) : mtok 1 v z := ⟨fun a => by omega, fun a => by omega, fun a => by omega, fun a => by omega, fun _ => rfl⟩
theorem mtok_E {v z : Int} (h : z = -26) : mtok 0 v z := ⟨fun a => by omega, fun a => by omega, fun a => by omega, fun _ => rfl, fun a => by omega⟩
theorem mtok_W {v z : Int} (h : z = -1 - v) (h2 : 0 ≤ v ∧ v ≤ 14) : mtok 2 v z := ⟨fun a => by omega, fun _ => ⟨rfl, by omega⟩, fun a => by omega, fun a => by omega, fun a => by omega⟩
theorem mtok_Z {v z : Int} (h : z = v) (h2 : 0 ≤ v) : mtok 3 v z := ⟨fun _ => ⟨rfl, h.symm⟩, fun a => by omega, fun a => by omega, fun a => by omega, fun a => by omega⟩
section MRD
variable {tp : Nat → Int} {n : Nat}
theorem mb_lt {σ : pm_S} (hb : mt_B tp n σ) {p : Nat} (h : ts_b tp n p ≠ -1) : p < n := by
  rcases Nat.lt_or_ge p n with x | x
  · exact x
  · exact absurd (if_neg (by omega)) h
set_option maxRecDepth 20000 in
theorem x_mrb {Q : Option Value → pm_S → Prop} : ∀ (k s : Nat) (τ : pm_S) (v1 : Value), n - s < k → s ≤ n → v1.category = 1 → an_GB pm_B τ → mt_B tp n τ → cI τ 31 = (s : Int) → (∀ (τ' : pm_S) (u : Value), u.category = 1 → an_GB pm_B τ' → FQ FMr τ τ' → cI τ' 31 = ((ts_e tp n ts_W s : Nat) : Int) → cI τ' 32 = ((ts_e tp n ts_W s : Nat) : Int) → cI τ' 33 = 1 → Ok 182 14 29 [.ref 93, u] [.int (Int32.ofInt ((ts_e tp n ts_W s : Nat) : Int)), .ref 93] τ' Q) → Ok 182 14 0 [.ref 93, v1] [] τ Q := by
  intro k
  induction k with
  | zero => intro s τ v1 hk; exact absurd hk (Nat.not_lt_zero _)
  | succ k ih =>
    intro s τ v1 hk hs k1 hB hb e31 hQ
    have hn := hb.1
    have br := mb_r hb s
    have blank : ∀ (τ3 : pm_S) (u : Value), u.category = 1 → an_GB pm_B τ3 → FQ FMr τ τ3 → cI τ3 31 = (s : Int) → ts_W (ts_b tp n s) = true → Ok 182 14 12 [.ref 93, u] [] τ3 Q := by
      intro τ3 u hu hB3 G3 e3 hw
      have sn : s < n := mb_lt hb (fun z => by rw [z] at hw; exact absurd hw (by decide))
      refine mq_s12 s u hu hB3 ⟨by omega, trivial⟩ ⟨e3, trivial⟩ ?_
      intro τ4 y4 u4 c4 hB4 F4 _ _ _ m4
      have G4 : FQ FMr τ τ4 := FQ.tr G3 (FQ.up (G := [(93, 31)]) rfl F4)
      refine ih (s + 1) τ4 u4 (by omega) (by omega) c4 hB4 (hb.fq (G := FMr) rfl G4) ((show (τ4.1 93 31).toInt = _ from m4.1).trans (by omega)) (fun τ' w hw' hB' F' a1 a2 a3 => ?_)
      rw [← ts_e_y rfl hw] at a1 a2 ⊢
      exact hQ τ' w hw' hB' (FQ.tr G4 F') a1 a2 a3
    refine mq_s0 s v1 k1 hB ⟨by omega, trivial⟩ ⟨e31, trivial⟩ ?_
    intro τ1 y1 u1 c1 hB1 F1 _ _ _ m1
    refine Ok.cv rfl rfl rfl rfl rfl rfl rfl ?_
    refine (x_mraw s hB1 (hb.fq (G := []) rfl F1) (by omega)).use (by decide) (fun r τ2 q => ?_)
    obtain ⟨rfl, hB2, F2⟩ := q
    have G2 := FQ.tr F1 F2
    refine mq_s4 s (ts_b tp n s) u1 c1 hB2 ⟨by omega, br, trivial⟩ ⟨(congrArg Int32.toInt (G2 93 31 rfl)).trans e31, trivial⟩ ?_ ?_
    · intro τ3 y3 u3 c3 hB3 F3 f _ _ m3
      have f2 := f.2.1
      exact blank τ3 u3 c3 hB3 (FQ.up (G := []) rfl (FQ.tr G2 F3)) m3.1 (by rw [ts_W_i]; omega)
    · intro τ3 y3 u3 c3 hB3 F3 f r3 _ m3
      have G3 := FQ.tr G2 F3
      refine Ok.cv rfl rfl rfl rfl rfl rfl rfl ?_
      refine (x_mraw s hB3 (hb.fq (G := []) rfl G3) (by omega)).use (by decide) (fun r τ4 q => ?_)
      obtain ⟨rfl, hB4, F4⟩ := q
      have G4 := FQ.tr G3 F4
      refine mq_s10 s (ts_b tp n s) u3 c3 hB4 ⟨by omega, br, trivial⟩ ⟨(congrArg Int32.toInt (G4 93 31 rfl)).trans e31, trivial⟩ ?_ ?_
      · intro τ5 y5 u5 c5 hB5 F5 f5 _ _ m5
        have f6 := f5.2.1
        exact blank τ5 u5 c5 hB5 (FQ.tr (FQ.up (G := []) rfl G4) (FQ.up (G := [(93, 32), (93, 33)]) rfl F5)) m5.1 (by rw [ts_W_i]; omega)
      · intro τ5 y5 u5 c5 hB5 F5 f5 r5 _ m5
        have n1 := r3.1
        have n2 := r5.1
        have e : ts_e tp n ts_W s = s := ts_e_n rfl (by rw [ts_W_i]; omega)
        have q := hQ τ5 u5 c5 hB5 (FQ.tr (FQ.up (G := []) rfl G4) (FQ.up (G := [(93, 32), (93, 33)]) rfl F5))
        rw [e] at q
        exact q m5.1 m5.2.1 m5.2.2.1
set_option maxRecDepth 20000 in
theorem x_mrl {Q : Option Value → pm_S → Prop} (c0 : Int) (hc : 0 ≤ c0 ∧ c0 ≤ 255) : ∀ (k q : Nat) (τ : pm_S), n - q < k → q ≤ n → an_GB pm_B τ → mt_B tp n τ → cI τ 31 = (q : Int) → (∀ τ' : pm_S, an_GB pm_B τ' → FQ [(93, 31)] τ τ' → cI τ' 31 = ((ts_e tp n ts_L q : Nat) : Int) → Ok 182 14 65 [.ref 93, .int (Int32.ofInt c0)] [] τ' Q) → Ok 182 14 51 [.ref 93, .int (Int32.ofInt c0)] [] τ Q := by
  intro k
  induction k with
  | zero => intro q τ hk; exact absurd hk (Nat.not_lt_zero _)
  | succ k ih =>
    intro q τ hk hq hB hb e31 hQ
    have hn := hb.1
    have br := mb_r hb q
    refine mq_s51 q c0 hB ⟨by omega, hc, trivial⟩ ⟨e31, trivial⟩ ?_
    intro τ1 y1 hB1 F1 _ _ _ _
    refine Ok.cv rfl rfl rfl rfl rfl rfl rfl ?_
    refine (x_mraw q hB1 (hb.fq (G := []) rfl F1) (by omega)).use (by decide) (fun r τ2 p => ?_)
    obtain ⟨rfl, hB2, F2⟩ := p
    have G2 := FQ.tr F1 F2
    have stop : ∀ τ3 : pm_S, an_GB pm_B τ3 → FQ [] τ2 τ3 → ¬ ts_L (ts_b tp n q) = true → Ok 182 14 65 [.ref 93, .int (Int32.ofInt c0)] [] τ3 Q := by
      intro τ3 hB3 F3 hl
      have p := hQ τ3 hB3 (FQ.up (G := []) rfl (FQ.tr G2 F3))
      rw [ts_e_n rfl hl] at p
      exact p ((congrArg Int32.toInt ((FQ.tr G2 F3) 93 31 rfl)).trans e31)
    have go : ∀ τ3 : pm_S, an_GB pm_B τ3 → FQ [] τ2 τ3 → ts_L (ts_b tp n q) = true → Ok 182 14 58 [.ref 93, .int (Int32.ofInt c0)] [] τ3 Q := by
      intro τ3 hB3 F3 hl
      have G3 := FQ.tr G2 F3
      have qn : q < n := mb_lt hb (fun z => by rw [z] at hl; exact absurd hl (by decide))
      refine mq_s58 q c0 hB3 ⟨by omega, hc, trivial⟩ ⟨(congrArg Int32.toInt (G3 93 31 rfl)).trans e31, trivial⟩ ?_
      intro τ4 y4 hB4 F4 _ _ _ m4
      have G4 : FQ [(93, 31)] τ τ4 := FQ.tr (FQ.up (G := []) rfl G3) F4
      refine ih (q + 1) τ4 (by omega) (by omega) hB4 (hb.fq (G := [(93, 31)]) rfl G4) ((show (τ4.1 93 31).toInt = _ from m4.1).trans (by omega)) (fun τ' hB' F' a1 => ?_)
      rw [← ts_e_y rfl hl] at a1
      exact hQ τ' hB' (FQ.tr G4 F') a1
    refine mq_s56 q c0 (ts_b tp n q) hB2 ⟨by omega, hc, br, trivial⟩ ⟨(congrArg Int32.toInt (G2 93 31 rfl)).trans e31, trivial⟩ ?_ ?_ ?_ ?_ ?_
    · intro τ3 y3 hB3 F3 f _ _ _
      have f3 := f.2.2.1
      exact stop τ3 hB3 F3 (by rw [ts_L_i]; omega)
    · intro τ3 y3 hB3 F3 f _ _ _
      have f3 := f.2.2.1
      exact stop τ3 hB3 F3 (by rw [ts_L_i]; omega)
    · intro τ3 y3 hB3 F3 f _ _ _
      have f3 := f.2.2.1
      exact go τ3 hB3 F3 (by rw [ts_L_i]; omega)
    · intro τ3 y3 hB3 F3 f _ _ _
      have f3 := f.2.2.1
      exact stop τ3 hB3 F3 (by rw [ts_L_i]; omega)
    · intro τ3 y3 hB3 F3 f _ _ _
      have f3 := f.2.2.1
      exact go τ3 hB3 F3 (by rw [ts_L_i]; omega)
set_option maxRecDepth 20000 in
theorem x_mrg {Q : Option Value → pm_S → Prop} (c0 : Int) (hc : 0 ≤ c0 ∧ c0 ≤ 255) (a : Nat) : ∀ (k m : Nat) (v : Int) (τ : pm_S), n - (a + m) < k → a + m ≤ n → (∀ j, j < m → 48 ≤ tp (a + j) ∧ tp (a + j) ≤ 57) → 0 ≤ v ∧ v ≤ 99999 → (m ≤ 4 → v = ts_v tp a m) → an_GB pm_B τ → mt_B tp n τ → cI τ 31 = ((a + m : Nat) : Int) → cI τ 34 = v → (∀ (τ' : pm_S) (v' : Int), an_GB pm_B τ' → FQ [(93, 31), (93, 34)] τ τ' → cI τ' 31 = ((ts_e tp n ts_D (a + m) : Nat) : Int) → cI τ' 34 = v' → 0 ≤ v' → (ts_e tp n ts_D (a + m) - a ≤ 4 → v' = ts_v tp a (ts_e tp n ts_D (a + m) - a)) → Ok 182 14 124 [.ref 93, .int (Int32.ofInt c0)] [] τ' Q) → Ok 182 14 90 [.ref 93, .int (Int32.ofInt c0)] [] τ Q := by
  intro k
  induction k with
  | zero => intro m v τ hk; exact absurd hk (Nat.not_lt_zero _)
  | succ k ih =>
    intro m v τ hk hm hd hv hv4 hB hb e31 e34 hQ
    have hn := hb.1
    have br := mb_r hb (a + m)
    refine mq_s90 (a + m : Nat) c0 hB ⟨by omega, hc, trivial⟩ ⟨e31, trivial⟩ ?_
    intro τ1 y1 hB1 F1 _ _ _ _
    refine Ok.cv rfl rfl rfl rfl rfl rfl rfl ?_
    refine (x_mraw (a + m) hB1 (hb.fq (G := []) rfl F1) (by omega)).use (by decide) (fun r τ2 p => ?_)
    obtain ⟨rfl, hB2, F2⟩ := p
    have G2 := FQ.tr F1 F2
    have stop : ∀ τ3 : pm_S, an_GB pm_B τ3 → FQ [] τ2 τ3 → ¬ ts_D (ts_b tp n (a + m)) = true → Ok 182 14 124 [.ref 93, .int (Int32.ofInt c0)] [] τ3 Q := by
      intro τ3 hB3 F3 hl
      have G3 := FQ.tr G2 F3
      have p := hQ τ3 v hB3 (FQ.up (G := []) rfl G3)
      rw [ts_e_n rfl hl, show a + m - a = m by omega] at p
      exact p ((congrArg Int32.toInt (G3 93 31 rfl)).trans e31) ((congrArg Int32.toInt (G3 93 34 rfl)).trans e34) hv.1 hv4
    refine mq_s95 (a + m : Nat) c0 (ts_b tp n (a + m)) hB2 ⟨by omega, hc, br, trivial⟩ ⟨(congrArg Int32.toInt (G2 93 31 rfl)).trans e31, trivial⟩ ?_ ?_ ?_
    · intro τ3 y3 hB3 F3 f _ _ _
      have f3 := f.2.2.1
      exact stop τ3 hB3 F3 (by rw [ts_D_i]; omega)
    · intro τ3 y3 hB3 F3 f _ _ _
      have f3 := f.2.2.1
      exact stop τ3 hB3 F3 (by rw [ts_D_i]; omega)
    · intro τ3 y3 hB3 F3 f _ _ _
      have f3 := f.2.2.1
      have G3 := FQ.tr G2 F3
      have hl : ts_D (ts_b tp n (a + m)) = true := by
        rw [ts_D_i]
        exact f3
      have qn : a + m < n := mb_lt hb (by omega)
      have eb : ts_b tp n (a + m) = tp (a + m) := if_pos qn
      have hd2 : ∀ j, j < m + 1 → 48 ≤ tp (a + j) ∧ tp (a + j) ≤ 57 := fun j hj => by
        by_cases x : j = m
        · rw [x]
          omega
        · exact hd j (by omega)
      have next : ∀ (τ4 : pm_S) (v2 : Int), an_GB pm_B τ4 → FQ [(93, 31), (93, 34)] τ τ4 → cI τ4 31 = ((a + m : Nat) : Int) + 1 → cI τ4 34 = v2 → 0 ≤ v2 ∧ v2 ≤ 99999 → (m + 1 ≤ 4 → v2 = ts_v tp a (m + 1)) → Ok 182 14 90 [.ref 93, .int (Int32.ofInt c0)] [] τ4 Q := by
        intro τ4 v2 hB4 G4 a1 a2 h2 h24
        refine ih (m + 1) v2 τ4 (by omega) (by omega) hd2 h2 h24 hB4 (hb.fq (G := [(93, 31), (93, 34)]) rfl G4) (by rw [a1]; omega) a2 (fun τ' v' hB' F' b1 b2 b3 b4 => ?_)
        rw [show a + (m + 1) = a + m + 1 by omega, ← ts_e_y rfl hl] at b1 b4
        exact hQ τ' v' hB' (FQ.tr G4 F') b1 b2 b3 b4
      refine mq_s97 (a + m : Nat) c0 v hB3 ⟨by omega, hc, hv, trivial⟩ ⟨(congrArg Int32.toInt (G3 93 31 rfl)).trans e31, (congrArg Int32.toInt (G3 93 34 rfl)).trans e34, trivial⟩ ?_ ?_
      · intro τ4 y4 hB4 F4 f4 _ _ m4
        have f5 := f4.2.2.1
        refine next τ4 v hB4 (FQ.tr (FQ.up (G := []) rfl G3) F4) m4.1 m4.2.1 hv (fun z => ?_)
        exfalso
        have vr := ts_v_r (tp := tp) (a := a) m (by omega) hd
        have p4 := pow_le4 m (by omega)
        have := hv4 (by omega)
        omega
      · intro τ4 y4 hB4 F4 f4 _ d4 m4
        have f5 := f4.2.2.1
        have s1 := mulT hv d4.1
        have G4 : FQ [(93, 31), (93, 34)] τ τ4 := FQ.tr (FQ.up (G := []) rfl G3) F4
        refine Ok.cv rfl rfl rfl rfl rfl rfl rfl ?_
        refine (x_mraw (a + m) hB4 (hb.fq (G := [(93, 31), (93, 34)]) rfl G4) (by omega)).use (by decide) (fun r τ5 p => ?_)
        obtain ⟨rfl, hB5, F5⟩ := p
        refine mq_s110 (a + m : Nat) c0 (ts_b tp n (a + m)) (y4 3) hB5 ⟨by omega, hc, f3, by omega, trivial⟩ ⟨(congrArg Int32.toInt (F5 93 31 rfl)).trans m4.1, trivial⟩ ?_
        intro τ6 y6 hB6 F6 f6 _ d6 m6
        have s2 := addC (by omega) (by omega) d6.1
        refine next τ6 (y6 4 + (-48)) hB6 (FQ.tr G4 (FQ.tr (FQ.up (G := []) rfl F5) F6)) m6.1 m6.2.1 (by omega) (fun z => ?_)
        have := hv4 (by omega)
        show _ = ts_v tp a m * 10 + tp (a + m) - 48
        omega
abbrev mrQ (tp : Nat → Int) (n p : Nat) (σ : pm_S) : Option Value → pm_S → Prop := fun r τ => r = none ∧ an_GB pm_B τ ∧ FQ FMr σ τ ∧ cI τ 31 = ((ts_n tp n p : Nat) : Int) ∧ cI τ 32 = (p : Int) ∧ mtok (cI τ 33) (cI τ 34) (ts_t tp n p)
set_option maxRecDepth 20000 in
theorem x_mrd {σ : pm_S} (s : Nat) (hs : s ≤ n) (hB : an_GB pm_B σ) (hb : mt_B tp n σ) (e31 : cI σ 31 = (s : Int)) : Sp 182 14 [.ref 93] σ (mrQ tp n (ts_e tp n ts_W s) σ) := by
  have hn := hb.1
  have hpn := (ts_e_le (tp := tp) (f := ts_W) hs).2
  refine Sp.at rfl rfl ?_
  refine x_mrb (tp := tp) (n := n) (n + 1) s σ _ (by omega) hs rfl hB hb e31 (fun τ u hu hB1 F1 a1 a2 a3 => ?_)
  generalize hp : ts_e tp n ts_W s = p at a1 a2 hpn ⊢
  have hb1 : mt_B tp n τ := hb.fq (G := FMr) rfl F1
  have br := mb_r hb1 p
  refine Ok.cv rfl rfl rfl rfl rfl rfl rfl ?_
  refine (x_mraw p hB1 hb1 (by omega)).use (by decide) (fun r τ2 q => ?_)
  obtain ⟨rfl, hB2, F2⟩ := q
  have G2 : FQ FMr σ τ2 := FQ.tr F1 (FQ.up (G := []) rfl F2)
  have b31 : cI τ2 31 = (p : Int) := (congrArg Int32.toInt (F2 93 31 rfl)).trans a1
  have b32 : cI τ2 32 = (p : Int) := (congrArg Int32.toInt (F2 93 32 rfl)).trans a2
  have b33 : cI τ2 33 = 1 := (congrArg Int32.toInt (F2 93 33 rfl)).trans a3
  refine mq_s30 p (ts_b tp n p) u hu hB2 ⟨by omega, br, trivial⟩ ⟨b31, b33, trivial⟩ ?_ ?_
  · intro τ3 y3 hB3 F3 f _ _ m3
    have f2 := f.2.1
    have pn : p < n := mb_lt hb1 (by omega)
    have eb : ts_b tp n p = tp p := if_pos pn
    rw [eb] at f2 ⊢
    have tr := hb1.2.2.2 p pn
    have G3 : FQ FMr σ τ3 := FQ.tr G2 (FQ.up (G := [(93, 33)]) rfl F3)
    have hb3 : mt_B tp n τ3 := hb1.fq (G := [(93, 33)]) rfl (FQ.tr (FQ.up (G := []) rfl F2) F3)
    have c32 : cI τ3 32 = (p : Int) := (congrArg Int32.toInt (F3 93 32 rfl)).trans b32
    -- neither letter nor digit
    have other : ∀ (τ4 : pm_S) (t v : Int), an_GB pm_B τ4 → FQ [(93, 31), (93, 33), (93, 34)] τ3 τ4 → ¬ ((97 ≤ tp p ∧ tp p ≤ 122) ∨ (65 ≤ tp p ∧ tp p ≤ 90)) → ¬ (48 ≤ tp p ∧ tp p ≤ 57) → cI τ4 31 = (p : Int) + 1 → cI τ4 33 = t → cI τ4 34 = v → mtok t v (ts_s (tp p)) → mrQ tp n p σ none τ4 := by
      intro τ4 t v hB4 F4 h1 h2 a31 a33 a34 hm
      have cn : ¬ ts_L (tp p) = true := by rw [ts_L_i]; exact h1
      have cd : ¬ ts_D (tp p) = true := by rw [ts_D_i]; exact h2
      have en : ts_n tp n p = p + 1 := by
        unfold ts_n
        rw [if_pos pn, if_neg cn, if_neg cd]
      have et : ts_t tp n p = ts_s (tp p) := by
        unfold ts_t
        rw [if_pos pn, if_neg cn, if_neg cd]
      refine ⟨rfl, hB4, FQ.tr G3 (FQ.up (G := [(93, 31), (93, 33), (93, 34)]) rfl F4), ?_, (congrArg Int32.toInt (F4 93 32 rfl)).trans c32, ?_⟩
      · rw [en, a31]
        omega
      · rw [et, a33, a34]
        exact hm
    have letters : ∀ τ4 : pm_S, an_GB pm_B τ4 → FQ [(93, 31), (93, 33), (93, 34)] τ3 τ4 → ((97 ≤ tp p ∧ tp p ≤ 122) ∨ (65 ≤ tp p ∧ tp p ≤ 90)) → cI τ4 31 = (p : Int) + 1 → cI τ4 33 = 1 → Ok 182 14 51 [.ref 93, .int (Int32.ofInt (tp p))] [] τ4 (mrQ tp n p σ) := by
      intro τ4 hB4 F4 h1 a31 a33
      have cl : ts_L (tp p) = true := by rw [ts_L_i]; exact h1
      have ee : ts_e tp n ts_L p = ts_e tp n ts_L (p + 1) := ts_e_y rfl (by rw [eb]; exact cl)
      have le := ts_e_le (tp := tp) (f := ts_L) hpn
      have en : ts_n tp n p = ts_e tp n ts_L p := by
        unfold ts_n
        rw [if_pos pn, if_pos cl]
      have et : ts_t tp n p = wTok (ts_w tp p (ts_e tp n ts_L p)) := by
        unfold ts_t
        rw [if_pos pn, if_pos cl]
      have hl : ∀ i, p ≤ i → i < ts_e tp n ts_L p → tp i ≠ 32 := fun i h1 h2 => by
        have h := ts_e_in (tp := tp) (n := n) h1 h2
        have ei : ts_b tp n i = tp i := if_pos (by omega)
        rw [ei, ts_L_i] at h
        omega
      have hb4 : mt_B tp n τ4 := hb3.fq (G := [(93, 31), (93, 33), (93, 34)]) rfl F4
      refine x_mrl (tp := tp) (n := n) (tp p) tr (n + 1) (p + 1) τ4 (by omega) (by omega) hB4 hb4 (by rw [a31]; omega) (fun τ5 hB5 F5 a5 => ?_)
      rw [← ee] at a5
      have d32 : cI τ5 32 = (p : Int) := (congrArg Int32.toInt ((F5 93 32 rfl).trans (F4 93 32 rfl))).trans c32
      refine mq_s65 (ts_e tp n ts_L p : Nat) (tp p) p hB5 ⟨by omega, tr, by omega, trivial⟩ ⟨a5, d32, trivial⟩ ?_
      intro τ6 y6 hB6 F6 _ _ _ m6
      refine Ok.cv rfl rfl rfl rfl rfl rfl rfl ?_
      refine (x_mwd p (ts_e tp n ts_L p) le.1 le.2 hl hB6 (hb4.fq (G := [(93, 31)]) rfl (FQ.tr F5 (FQ.up (G := []) rfl F6)))).use (by decide) (fun r τ7 q => ?_)
      obtain ⟨rfl, hB7, F7⟩ := q
      have wr := ts_wk_r (tp := tp) (a := p) (b := ts_e tp n ts_L p) 79 0 rfl
      have ew : ts_w tp p (ts_e tp n ts_L p) = ts_wk tp p (ts_e tp n ts_L p) 79 0 := rfl
      have G7 : FQ [(93, 31), (93, 33), (93, 34)] τ3 τ7 := FQ.tr F4 (FQ.tr (FQ.up (G := [(93, 31)]) rfl F5) (FQ.up (G := []) rfl (FQ.tr F6 F7)))
      have e33 : cI τ7 33 = 1 := (congrArg Int32.toInt (((F7 93 33 rfl).trans (F6 93 33 rfl)).trans (F5 93 33 rfl))).trans a33
      have e31 : cI τ7 31 = ((ts_e tp n ts_L p : Nat) : Int) := (congrArg Int32.toInt (F7 93 31 rfl)).trans m6.1
      refine mq_s72 (ts_e tp n ts_L p : Nat) (tp p) (ts_w tp p (ts_e tp n ts_L p)) hB7 ⟨by omega, tr, by omega, trivial⟩ ⟨e33, trivial⟩ ?_ ?_
      · intro τ8 y8 hB8 F8 f8 _ _ m8
        have f9 := f8.2.2.1
        refine ⟨rfl, hB8, FQ.tr G3 (FQ.tr (FQ.up (G := [(93, 31), (93, 33), (93, 34)]) rfl G7) (FQ.up (G := [(93, 33), (93, 34)]) rfl F8)), ?_, (congrArg Int32.toInt ((F8 93 32 rfl).trans (G7 93 32 rfl))).trans c32, ?_⟩
        · rw [en]
          exact (congrArg Int32.toInt (F8 93 31 rfl)).trans e31
        · rw [et, show cI τ8 33 = 1 from m8.1]
          exact mtok_N (if_pos (by omega))
      · intro τ8 y8 hB8 F8 f8 _ _ m8
        have f9 := f8.2.2.1
        refine ⟨rfl, hB8, FQ.tr G3 (FQ.tr (FQ.up (G := [(93, 31), (93, 33), (93, 34)]) rfl G7) (FQ.up (G := [(93, 33), (93, 34)]) rfl F8)), ?_, (congrArg Int32.toInt ((F8 93 32 rfl).trans (G7 93 32 rfl))).trans c32, ?_⟩
        · rw [en]
          exact (congrArg Int32.toInt (F8 93 31 rfl)).trans e31
        · rw [et, show cI τ8 33 = 2 from m8.1, show cI τ8 34 = ts_w tp p (ts_e tp n ts_L p) from m8.2.1]
          exact mtok_W (if_neg (by omega)) f9
    have digits : ∀ τ4 : pm_S, an_GB pm_B τ4 → FQ [(93, 31), (93, 33), (93, 34)] τ3 τ4 → (48 ≤ tp p ∧ tp p ≤ 57) → cI τ4 31 = (p : Int) + 1 → cI τ4 33 = 1 → cI τ4 34 = tp p + (-48) → Ok 182 14 90 [.ref 93, .int (Int32.ofInt (tp p))] [] τ4 (mrQ tp n p σ) := by
      intro τ4 hB4 F4 h1 a31 a33 a34
      have cn : ¬ ts_L (tp p) = true := by rw [ts_L_i]; omega
      have cd : ts_D (tp p) = true := by rw [ts_D_i]; exact h1
      have ee : ts_e tp n ts_D p = ts_e tp n ts_D (p + 1) := ts_e_y rfl (by rw [eb]; exact cd)
      have le := ts_e_le (tp := tp) (f := ts_D) hpn
      have en : ts_n tp n p = ts_e tp n ts_D p := by
        unfold ts_n
        rw [if_pos pn, if_neg cn, if_pos cd]
      have et : ts_t tp n p = (if ts_e tp n ts_D p - p ≤ 4 then ts_v tp p (ts_e tp n ts_D p - p) else -27) := by
        unfold ts_t
        rw [if_pos pn, if_neg cn, if_pos cd]
      have hb4 : mt_B tp n τ4 := hb3.fq (G := [(93, 31), (93, 33), (93, 34)]) rfl F4
      have v1 : tp p + (-48) = ts_v tp p 1 := by
        show _ = 0 * 10 + tp (p + 0) - 48
        rw [Nat.add_zero]
        omega
      refine x_mrg (tp := tp) (n := n) (tp p) tr p (n + 1) 1 (tp p + (-48)) τ4 (by omega) (by omega) (fun j hj => ?_) (by omega) (fun _ => v1) hB4 hb4 (by rw [a31]; omega) a34 (fun τ5 v' hB5 F5 a5 b5 r5 h5 => ?_)
      · rw [show p + j = p by omega]
        exact h1
      rw [← ee] at a5 h5
      have d32 : cI τ5 32 = (p : Int) := (congrArg Int32.toInt ((F5 93 32 rfl).trans (F4 93 32 rfl))).trans c32
      have d33 : cI τ5 33 = 1 := (congrArg Int32.toInt (F5 93 33 rfl)).trans a33
      have G5 : FQ FMr σ τ5 := FQ.tr G3 (FQ.tr (FQ.up (G := [(93, 31), (93, 33), (93, 34)]) rfl F4) (FQ.up (G := [(93, 31), (93, 34)]) rfl F5))
      refine mq_s124 (ts_e tp n ts_D p : Nat) (tp p) p hB5 ⟨by omega, tr, by omega, trivial⟩ ⟨a5, d32, d33, trivial⟩ ?_ ?_
      · intro τ6 y6 hB6 F6 f6 _ d6 m6
        have f7 := f6.2.2.2.1
        have s1 := subC (by omega) (by omega) d6.1
        refine ⟨rfl, hB6, FQ.tr G5 (FQ.up (G := [(93, 33)]) rfl F6), ?_, m6.2.1, ?_⟩
        · rw [en]
          exact m6.1
        · rw [et, show cI τ6 33 = 1 from m6.2.2.1]
          exact mtok_N (if_neg (by omega))
      · intro τ6 y6 hB6 F6 f6 _ d6 m6
        have f7 := f6.2.2.2.1
        have s1 := subC (by omega) (by omega) d6.1
        refine ⟨rfl, hB6, FQ.tr G5 (FQ.up (G := [(93, 33)]) rfl F6), ?_, m6.2.1, ?_⟩
        · rw [en]
          exact m6.1
        · rw [et, show cI τ6 33 = 3 from m6.2.2.1, show cI τ6 34 = v' from (congrArg Int32.toInt (F6 93 34 rfl)).trans b5, if_pos (show ts_e tp n ts_D p - p ≤ 4 by omega), h5 (by omega)]
          exact mtok_Z rfl (by rw [← h5 (by omega)]; exact r5)
    refine mq_s38 p (tp p) hB3 ⟨by omega, tr, trivial⟩ ⟨m3.1, m3.2.1, trivial⟩ ?_ ?_ ?_ ?_ ?_ ?_ ?_ ?_ ?_ ?_ ?_ ?_ ?_ ?_ ?_ ?_ ?_
    · intro τ4 y4 hB4 F4 f4 _ _ m4
      have f5 := f4.2.1
      exact other τ4 4 (tp p) hB4 F4 (by omega) (by omega) m4.1 m4.2.1 m4.2.2.1 (sgn4 (by omega))
    · intro τ4 y4 hB4 F4 f4 _ _ m4
      have f5 := f4.2.1
      exact other τ4 4 (tp p) hB4 F4 (by omega) (by omega) m4.1 m4.2.1 m4.2.2.1 (sgn4 (by omega))
    · intro τ4 y4 hB4 F4 f4 _ _ m4
      have f5 := f4.2.1
      exact other τ4 4 (tp p) hB4 F4 (by omega) (by omega) m4.1 m4.2.1 m4.2.2.1 (sgn4 (by omega))
    · intro τ4 y4 hB4 F4 f4 _ _ m4
      have f5 := f4.2.1
      exact other τ4 4 (tp p) hB4 F4 (by omega) (by omega) m4.1 m4.2.1 m4.2.2.1 (sgn4 (by omega))
    · intro τ4 y4 hB4 F4 f4 _ _ m4
      have f5 := f4.2.1
      exact other τ4 4 (tp p) hB4 F4 (by omega) (by omega) m4.1 m4.2.1 m4.2.2.1 (sgn4 (by omega))
    · intro τ4 y4 hB4 F4 f4 _ _ m4
      have f5 := f4.2.1
      exact other τ4 4 (tp p) hB4 F4 (by omega) (by omega) m4.1 m4.2.1 m4.2.2.1 (sgn4 (by omega))
    · intro τ4 y4 hB4 F4 f4 r4 _ m4
      have f5 := f4.2.1
      have r := r4.1
      have r2 := r4.2.1
      have r3 := r4.2.2.1
      have r5 := r4.2.2.2.1
      have r6 := r4.2.2.2.2.1
      have r7 := r4.2.2.2.2.2.1
      have r8 := r4.2.2.2.2.2.2.1
      have r9 := r4.2.2.2.2.2.2.2.1
      have r10 := r4.2.2.2.2.2.2.2.2.1
      exact other τ4 1 (tp p) hB4 F4 (by omega) (by omega) m4.1 m4.2.1 m4.2.2.1 (sgn1 (by omega))
    · intro τ4 y4 hB4 F4 f4 _ _ m4
      have f5 := f4.2.1
      exact other τ4 4 (tp p) hB4 F4 (by omega) (by omega) m4.1 m4.2.1 m4.2.2.1 (sgn4 (by omega))
    · intro τ4 y4 hB4 F4 f4 _ _ m4
      have f5 := f4.2.1
      exact other τ4 4 (tp p) hB4 F4 (by omega) (by omega) m4.1 m4.2.1 m4.2.2.1 (sgn4 (by omega))
    · intro τ4 y4 hB4 F4 f4 _ _ m4
      have f5 := f4.2.1
      exact other τ4 4 (tp p) hB4 F4 (by omega) (by omega) m4.1 m4.2.1 m4.2.2.1 (sgn4 (by omega))
    · intro τ4 y4 hB4 F4 f4 r4 _ m4
      have f5 := f4.2.1
      have r := r4.1
      have r2 := r4.2.1
      have r3 := r4.2.2.1
      have r5 := r4.2.2.2.1
      have r6 := r4.2.2.2.2.1
      have r7 := r4.2.2.2.2.2.1
      have r8 := r4.2.2.2.2.2.2.1
      have r9 := r4.2.2.2.2.2.2.2.1
      have r10 := r4.2.2.2.2.2.2.2.2.1
      have r11 := r4.2.2.2.2.2.2.2.2.2.1
      exact other τ4 1 (tp p) hB4 F4 (by omega) (by omega) m4.1 m4.2.1 m4.2.2.1 (sgn1 (by omega))
    · intro τ4 y4 hB4 F4 f4 _ _ m4
      have f5 := f4.2.1
      exact other τ4 4 (tp p) hB4 F4 (by omega) (by omega) m4.1 m4.2.1 m4.2.2.1 (sgn4 (by omega))
    · intro τ4 y4 hB4 F4 f4 _ _ m4
      exact digits τ4 hB4 F4 f4.2.1 m4.1 m4.2.1 m4.2.2.1
    · intro τ4 y4 hB4 F4 f4 r4 _ m4
      have f5 := f4.2.1
      have r := r4.1
      have r2 := r4.2.1
      have r3 := r4.2.2.1
      have r5 := r4.2.2.2.1
      have r6 := r4.2.2.2.2.1
      have r7 := r4.2.2.2.2.2.1
      have r8 := r4.2.2.2.2.2.2.1
      have r9 := r4.2.2.2.2.2.2.2.1
      have r10 := r4.2.2.2.2.2.2.2.2.1
      exact other τ4 1 (tp p) hB4 F4 (by omega) (by omega) m4.1 m4.2.1 m4.2.2.1 (sgn1 (by omega))
    · intro τ4 y4 hB4 F4 f4 _ _ m4
      have f5 := f4.2.1
      exact letters τ4 hB4 F4 (by omega) m4.1 m4.2.1
    · intro τ4 y4 hB4 F4 f4 r4 _ m4
      have f5 := f4.2.1
      have r := r4.1
      have r2 := r4.2.1
      have r3 := r4.2.2.1
      have r5 := r4.2.2.2.1
      have r6 := r4.2.2.2.2.1
      have r7 := r4.2.2.2.2.2.1
      have r8 := r4.2.2.2.2.2.2.1
      have r9 := r4.2.2.2.2.2.2.2.1
      have r10 := r4.2.2.2.2.2.2.2.2.1
      exact other τ4 1 (tp p) hB4 F4 (by omega) (by omega) m4.1 m4.2.1 m4.2.2.1 (sgn1 (by omega))
    · intro τ4 y4 hB4 F4 f4 _ _ m4
      have f5 := f4.2.1
      exact letters τ4 hB4 F4 (by omega) m4.1 m4.2.1
  · intro τ3 y3 hB3 F3 f _ _ m3
    have f2 := f.2.1
    have pn : p = n := by
      rcases Nat.lt_or_ge p n with x | x
      · have eb : ts_b tp n p = tp p := if_pos x
        have := hb1.2.2.2 p x
        omega
      · omega
    have et : ts_t tp n p = -26 := if_neg (by omega)
    have en : ts_n tp n p = p := by
      rw [show ts_n tp n p = n from if_neg (by omega)]
      exact pn.symm
    show none = none ∧ an_GB pm_B τ3 ∧ FQ FMr σ τ3 ∧ cI τ3 31 = ((ts_n tp n p : Nat) : Int) ∧ cI τ3 32 = (p : Int) ∧ mtok (cI τ3 33) (cI τ3 34) (ts_t tp n p)
    rw [en]
    refine ⟨rfl, hB3, FQ.tr G2 (FQ.up (G := [(93, 33)]) rfl F3), m3.1, (congrArg Int32.toInt (F3 93 32 rfl)).trans b32, ?_⟩
    rw [et]
    have e0 : cI τ3 33 = 0 := m3.2.1
    rw [e0]
    exact mtok_E rfl
end MRD
