/-! the model's parser against the grammar: units, products, sums, comparisons -/
/-- a code in the model's words -/
def mo (z : Int) : Int := if 0 ≤ z then 0 else if (-15) ≤ z ∧ z ≤ -7 then 1 else if z = -6 then 9 else if z = -5 then 10 else if z = -4 then 11 else if (-20) ≤ z then -15 - z else -17 - z
def ma (z : Int) : Int := if 0 ≤ z then z else if (-15) ≤ z ∧ z ≤ -7 then -7 - z else 0
/-- codes there are -/
abbrev okC (z : Int) : Prop := (0 ≤ z ∧ z ≤ 9999) ∨ ((-15) ≤ z ∧ z ≤ -4) ∨ ((-20) ≤ z ∧ z ≤ -17) ∨ ((-25) ≤ z ∧ z ≤ -23)
theorem mo_r {z : Int} (h : okC z) : 0 ≤ mo z ∧ mo z ≤ 11 := by
  unfold mo
  repeat' split
  all_goals omega
theorem ma_r {z : Int} (h : okC z) : 0 ≤ ma z ∧ ma z ≤ 9999 := by
  unfold ma
  repeat' split
  all_goals omega
abbrev FTm : List (Nat × Nat) := [(93, 31), (93, 32), (93, 33), (93, 34), (93, 42), (93, 46), (93, 47), (119, 9999), (120, 9999)]
abbrev FEn : List (Nat × Nat) := [(93, 42), (119, 9999), (120, 9999)]
/-- the law that stands is untouched -/
abbrev mt_K (kO kA : Nat → Int32) (τ : pm_S) : Prop := ∀ j, j < 400 → τ.1 119 j = kO j ∧ τ.1 120 j = kA j
/-- codes told -/
abbrev mt_C (kO kA : Nat → Int32) (τ : pm_S) (c : List Int) : Prop := cI τ 42 = (c.length : Int) ∧ (∀ j, j < c.length → sI τ 119 (400 + j) = mo (c.getD j 0) ∧ sI τ 120 (400 + j) = ma (c.getD j 0)) ∧ mt_K kO kA τ
/-- at the token i -/
abbrev mt_T (tp : Nat → Int) (n : Nat) (τ : pm_S) (i : Nat) : Prop := cI τ 31 = ((ts_n tp n (ts_P tp n i) : Nat) : Int) ∧ cI τ 32 = ((ts_P tp n i : Nat) : Int) ∧ mtok (cI τ 33) (cI τ 34) (ts_T tp n i)
abbrev mt_F (tp : Nat → Int) (n : Nat) (kO kA : Nat → Int32) (τ : pm_S) (k j : Nat) : Prop := (cI τ 46 = (k : Int) ∧ cI τ 47 = ((ts_P tp n j : Nat) : Int)) ∧ mt_K kO kA τ
theorem mt_C.fq {kO kA : Nat → Int32} {σ τ : pm_S} {c : List Int} (h : mt_C kO kA σ c) {G : List (Nat × Nat)} (hG : (an_inF G 93 42 || an_inP G 119 || an_inP G 120) = false) (F : FQ G σ τ) : mt_C kO kA τ c := by
  rw [Bool.or_eq_false_iff, Bool.or_eq_false_iff] at hG
  exact ⟨(congrArg Int32.toInt (F 93 42 hG.1.1)).trans h.1, fun j hj => ⟨(congrArg Int32.toInt (F 119 _ (an_inP_ok hG.1.2 _))).trans (h.2.1 j hj).1, (congrArg Int32.toInt (F 120 _ (an_inP_ok hG.2 _))).trans (h.2.1 j hj).2⟩, fun j hj => ⟨(F 119 j (an_inP_ok hG.1.2 _)).trans (h.2.2 j hj).1, (F 120 j (an_inP_ok hG.2 _)).trans (h.2.2 j hj).2⟩⟩
theorem mt_T.fq {tp : Nat → Int} {n : Nat} {σ τ : pm_S} {i : Nat} (h : mt_T tp n σ i) {G : List (Nat × Nat)} (hG : (an_inF G 93 31 || an_inF G 93 32 || an_inF G 93 33 || an_inF G 93 34) = false) (F : FQ G σ τ) : mt_T tp n τ i := by
  rw [Bool.or_eq_false_iff, Bool.or_eq_false_iff, Bool.or_eq_false_iff] at hG
  have e3 : cI τ 33 = cI σ 33 := congrArg Int32.toInt (F 93 33 hG.1.2)
  have e4 : cI τ 34 = cI σ 34 := congrArg Int32.toInt (F 93 34 hG.2)
  refine ⟨(congrArg Int32.toInt (F 93 31 hG.1.1.1)).trans h.1, (congrArg Int32.toInt (F 93 32 hG.1.1.2)).trans h.2.1, ?_⟩
  rw [e3, e4]
  exact h.2.2
theorem mt_F.fq {tp : Nat → Int} {n : Nat} {kO kA : Nat → Int32} {σ τ : pm_S} {k j : Nat} (h : mt_F tp n kO kA σ k j) {G : List (Nat × Nat)} (hG : (an_inF G 93 46 || an_inF G 93 47 || an_inP G 119 || an_inP G 120) = false) (F : FQ G σ τ) : mt_F tp n kO kA τ k j := by
  rw [Bool.or_eq_false_iff, Bool.or_eq_false_iff, Bool.or_eq_false_iff] at hG
  exact ⟨⟨(congrArg Int32.toInt (F 93 46 hG.1.1.1)).trans h.1.1, (congrArg Int32.toInt (F 93 47 hG.1.1.2)).trans h.1.2⟩, fun j hj => ⟨(F 119 j (an_inP_ok hG.1.2 _)).trans (h.2 j hj).1, (F 120 j (an_inP_ok hG.2 _)).trans (h.2 j hj).2⟩⟩
/-- the token in words -/
theorem mtok_i {t v z : Int} (h : mtok t v z) (hz : (-27) ≤ z ∧ z ≤ 9999) : (0 ≤ z ∧ t = 3 ∧ v = z) ∨ ((-15) ≤ z ∧ z ≤ -1 ∧ t = 2 ∧ v = -1 - z) ∨ ((-25) ≤ z ∧ z ≤ -16 ∧ t = 4 ∧ ts_s v = z) ∨ (z = -26 ∧ t = 0) ∨ (z = -27 ∧ t = 1) := by
  obtain ⟨a, b, c, d, e⟩ := h
  by_cases h1 : 0 ≤ z
  · exact Or.inl ⟨h1, (a h1).1, (a h1).2⟩
  · by_cases h2 : (-15) ≤ z
    · have q := b ⟨h2, by omega⟩
      exact Or.inr (Or.inl ⟨h2, by omega, q.1, q.2⟩)
    · by_cases h3 : (-25) ≤ z
      · have q := c ⟨h3, by omega⟩
        exact Or.inr (Or.inr (Or.inl ⟨h3, by omega, q.1, q.2⟩))
      · by_cases h4 : z = -26
        · exact Or.inr (Or.inr (Or.inr (Or.inl ⟨h4, d h4⟩)))
        · exact Or.inr (Or.inr (Or.inr (Or.inr ⟨by omega, e (by omega)⟩)))
/-- which sign it is -/
theorem ts_s_v {v z : Int} (h : ts_s v = z) (hz : (-25) ≤ z ∧ z ≤ -16) : (z = -16 ↔ v = 59) ∧ (z = -17 ↔ v = 43) ∧ (z = -18 ↔ v = 45) ∧ (z = -19 ↔ v = 42) ∧ (z = -20 ↔ v = 47) ∧ (z = -21 ↔ v = 40) ∧ (z = -22 ↔ v = 41) ∧ (z = -23 ↔ v = 60) ∧ (z = -24 ↔ v = 61) ∧ (z = -25 ↔ v = 62) := by
  unfold ts_s at h
  repeat' split at h
  all_goals omega
section MSM
variable {tp : Nat → Int} {n L : Nat} {kO kA : Nat → Int32}
/-- the tokens -/
abbrev mt_L (tp : Nat → Int) (n L : Nat) : Prop := L ≤ 400 ∧ ∀ j, ts_T tp n j = -26 ↔ L ≤ j
theorem ml_lt (hT : mt_L tp n L) {i : Nat} (h : ts_T tp n i ≠ -26) : i < L := by
  rcases Nat.lt_or_ge i L with x | x
  · exact x
  · exact absurd ((hT.2 i).mpr x) h
theorem tk_r (i : Nat) : (-27) ≤ ts_T tp n i ∧ ts_T tp n i ≤ 9999 := ts_T_r i
/-- on to the next token -/
theorem x_mna {σ : pm_S} {i : Nat} (hB : an_GB pm_B σ) (hb : mt_B tp n σ) (ht : mt_T tp n σ i) : Sp 182 14 [.ref 93] σ (fun r τ => r = none ∧ an_GB pm_B τ ∧ FQ FMr σ τ ∧ mt_T tp n τ (i + 1)) :=
  (x_mrd (tp := tp) (n := n) (ts_n tp n (ts_P tp n i)) (ts_n_le (ts_P_le i).1).1 hB hb ht.1).use (Nat.le_refl _) (fun r τ q => ⟨q.1, q.2.1, q.2.2.1, q.2.2.2.1, q.2.2.2.2.1, q.2.2.2.2.2⟩)
set_option maxRecDepth 20000 in
theorem x_emi {σ : pm_S} {c : List Int} (z : Int) (hz : okC z) (hB : an_GB pm_B σ) (hc : c.length ≤ 399) (hC : mt_C kO kA σ c) : Sp 186 5 [.ref 93, .int (Int32.ofInt (mo z)), .int (Int32.ofInt (ma z))] σ (fun r τ => r = none ∧ an_GB pm_B τ ∧ FQ FEn σ τ ∧ mt_C kO kA τ (c ++ [z])) := by
  have r1 := mo_r hz
  have r2 := ma_r hz
  refine Sp.at rfl rfl ?_
  refine mq_e0 (mo z) (ma z) c.length hB ⟨r1, by omega, by omega, trivial⟩ ⟨hC.1, trivial⟩ ?_
  intro τ1 y1 hB1 F1 _ _ _ c1
  refine Ok.ast (n := 800) rfl rfl rfl (by decide) (by omega) (by omega) ?_
  have hB2 : an_GB pm_B (put τ1 119 ((c.length : Int) + 400).toNat (Int32.ofInt (mo z))) := put_GB hB1 (by rw [ti_of (by omega) (by omega)]; exact r1)
  refine mq_e8 (mo z) (ma z) c.length hB2 ⟨r1, by omega, by omega, trivial⟩ ⟨by rw [put_nr (by decide)]; exact c1.1, trivial⟩ ?_
  intro τ3 y3 hB3 F3 _ _ _ c3
  refine Ok.ast (n := 800) rfl rfl rfl (by decide) (by omega) (by omega) ?_
  have hB4 : an_GB pm_B (put τ3 120 ((c.length : Int) + 400).toNat (Int32.ofInt (ma z))) := put_GB hB3 (ai_rng _)
  refine mq_e16 (mo z) (ma z) c.length hB4 ⟨r1, by omega, by omega, trivial⟩ ⟨by rw [put_nr (by decide)]; exact c3.1, trivial⟩ ?_
  intro τ5 y5 hB5 F5 _ _ _ c5
  have en : ((c.length : Int) + 400).toNat = 400 + c.length := by omega
  rw [en] at F3 F5
  have l1 : (c ++ [z]).length = c.length + 1 := by rw [List.length_append, List.length_singleton]
  have e119 : ∀ i, τ5.1 119 i = if i = 400 + c.length then Int32.ofInt (mo z) else σ.1 119 i := fun i => by
    rw [F5 119 i rfl, put_nr (by decide), F3 119 i rfl, put_get]
    by_cases e : i = 400 + c.length
    · rw [if_pos ⟨rfl, e⟩, if_pos e]
    · rw [if_neg (fun w => e w.2), if_neg e, F1 119 i rfl]
  have e120 : ∀ i, τ5.1 120 i = if i = 400 + c.length then Int32.ofInt (ma z) else σ.1 120 i := fun i => by
    rw [F5 120 i rfl, put_get]
    by_cases e : i = 400 + c.length
    · rw [if_pos ⟨rfl, e⟩, if_pos e]
    · rw [if_neg (fun w => e w.2), if_neg e, F3 120 i rfl, put_nr (by decide), F1 120 i rfl]
  refine ⟨rfl, hB5, FQ.tr (FQ.up (G := []) rfl F1) (FQ.tr (FQ.put rfl) (FQ.tr (FQ.up (G := []) rfl F3) (FQ.tr (FQ.put rfl) (FQ.up (G := [(93, 42)]) rfl F5)))), ?_, fun j hj => ?_, fun j hj => ?_⟩
  · show (τ5.1 93 42).toInt = _
    rw [c5.1, l1]
    rfl
  · rw [l1] at hj
    show (τ5.1 119 (400 + j)).toInt = _ ∧ (τ5.1 120 (400 + j)).toInt = _
    rw [e119, e120]
    by_cases e : j = c.length
    · rw [if_pos (by omega), if_pos (by omega), ti_of (by omega) (by omega), ti_of (by omega) (by omega), e]
      have g : (c ++ [z]).getD c.length 0 = z := gd_e (c := c) (d := [z]) (j := 0)
      rw [g]
      exact ⟨rfl, rfl⟩
    · rw [if_neg (by omega), if_neg (by omega), gd_l (by omega)]
      exact hC.2.1 j (by omega)
  · rw [e119, e120, if_neg (by omega), if_neg (by omega)]
    exact hC.2.2 j hj
/-- what a part of the text comes to in the model -/
abbrev mt_R (tp : Nat → Int) (n : Nat) (kO kA : Nat → Int32) (v : Option Value) (τ : pm_S) (c : List Int) (r : gyR) : Prop := (r.1 = 0 ∧ v = some (.int (Int32.ofInt 0)) ∧ mt_T tp n τ r.2.1 ∧ mt_C kO kA τ (c ++ r.2.2)) ∨ (r.1 ≠ 0 ∧ v = some (.int (Int32.ofInt (-1))) ∧ mt_F tp n kO kA τ r.1 r.2.1)
abbrev mt_Q (tp : Nat → Int) (n : Nat) (kO kA : Nat → Int32) (σ : pm_S) (c : List Int) (r : gyR) : Option Value → pm_S → Prop := fun v τ => an_GB pm_B τ ∧ FQ FTm σ τ ∧ mt_R tp n kO kA v τ c r
theorem mt_R.app {v : Option Value} {τ : pm_S} {c d : List Int} {r : gyR} (h : mt_R tp n kO kA v τ (c ++ d) r) : mt_R tp n kO kA v τ c (r.1, r.2.1, d ++ r.2.2) := by
  rcases h with ⟨a, b, t, e⟩ | h
  · rw [List.append_assoc] at e
    exact Or.inl ⟨a, b, t, e⟩
  · exact Or.inr h
set_option maxRecDepth 20000 in
theorem x_mun {σ : pm_S} {i : Nat} {c : List Int} (hT : mt_L tp n L) (hc : c.length ≤ i) (hB : an_GB pm_B σ) (hb : mt_B tp n σ) (ht : mt_T tp n σ i) (hC : mt_C kO kA σ c) : Sp 187 17 [.ref 93] σ (mt_Q tp n kO kA σ c (ps_U (ts_T tp n) i)) := by
  have tr := tk_r (tp := tp) (n := n) i
  have gt : 0 ≤ cI σ 33 ∧ cI σ 33 ≤ 4 := hB 93 33 (by decide)
  have gv : (-2147483648) ≤ cI σ 34 ∧ cI σ 34 ≤ 2147483647 := ai_rng _
  have gp := (ts_P_le (tp := tp) (n := n) i).1
  have hn := hb.1
  have mi := mtok_i ht.2.2 tr
  have good : ∀ (τ : pm_S) (u : Value), u.category = 1 → an_GB pm_B τ → FQ [(93, 46), (93, 47)] σ τ → (0 ≤ ts_T tp n i ∨ ((-15) ≤ ts_T tp n i ∧ ts_T tp n i ≤ -7)) → Ok 187 17 37 [.ref 93, u] [.int (Int32.ofInt (ma (ts_T tp n i))), .int (Int32.ofInt (mo (ts_T tp n i))), .ref 93] τ (mt_Q tp n kO kA σ c (ps_U (ts_T tp n) i)) := by
    intro τ u hu hB1 F1 hq
    have iL : i < L := ml_lt hT (by omega)
    have hL := hT.1
    refine Ok.cv rfl rfl rfl rfl rfl rfl rfl ?_
    refine (x_emi (c := c) (ts_T tp n i) (by unfold okC; omega) hB1 (by omega) (hC.fq (G := [(93, 46), (93, 47)]) rfl F1)).use (by decide) (fun r τ2 q => ?_)
    obtain ⟨rfl, hB2, F2, C2⟩ := q
    refine mq_u38 u hu hB2 ?_
    intro τ3 y3 u3 k3 hB3 F3 _ _ _ _
    have G3 : FQ FTm σ τ3 := FQ.tr (FQ.up (G := [(93, 46), (93, 47)]) rfl F1) (FQ.tr (FQ.up (G := FEn) rfl F2) (FQ.up (G := []) rfl F3))
    have t3 : mt_T tp n τ3 i := ((ht.fq (G := [(93, 46), (93, 47)]) rfl F1).fq (G := FEn) rfl F2).fq (G := []) rfl F3
    refine Ok.cv rfl rfl rfl rfl rfl rfl rfl ?_
    refine (x_mna (i := i) hB3 (hb.fq (G := FTm) rfl G3) t3).use (by decide) (fun r τ4 q => ?_)
    obtain ⟨rfl, hB4, F4, t4⟩ := q
    refine mq_u40 u3 k3 hB4 ?_
    intro τ5 y5 hB5 F5 _ _ _ _
    have e : ps_U (ts_T tp n) i = (0, i + 1, [ts_T tp n i]) := if_pos hq
    rw [e]
    exact ⟨hB5, FQ.tr G3 (FQ.tr (FQ.up (G := FMr) rfl F4) (FQ.up (G := []) rfl F5)), Or.inl ⟨rfl, rfl, t4.fq (G := []) rfl F5, ((C2.fq (G := []) rfl F3).fq (G := FMr) rfl F4).fq (G := []) rfl F5⟩⟩
  have bad : ∀ (τ : pm_S), an_GB pm_B τ → FQ [(93, 46), (93, 47)] σ τ → ¬ (0 ≤ ts_T tp n i ∨ ((-15) ≤ ts_T tp n i ∧ ts_T tp n i ≤ -7)) → cI τ 46 = 1 → cI τ 47 = ((ts_P tp n i : Nat) : Int) → mt_Q tp n kO kA σ c (ps_U (ts_T tp n) i) (some (.int (Int32.ofInt (-1)))) τ := by
    intro τ hB1 F1 hq e1 e2
    have e : ps_U (ts_T tp n) i = (1, i, []) := if_neg hq
    rw [e]
    exact ⟨hB1, FQ.up (G := [(93, 46), (93, 47)]) rfl F1, Or.inr ⟨show (1 : Nat) ≠ 0 by decide, rfl, ⟨e1, e2⟩, (hC.fq (G := [(93, 46), (93, 47)]) rfl F1).2.2⟩⟩
  refine Sp.at rfl rfl ?_
  refine mq_u0 (cI σ 33) (cI σ 34) (ts_P tp n i : Nat) _ rfl hB ⟨gt, gv, by omega, trivial⟩ ⟨rfl, rfl, ht.2.1, trivial⟩ ?_ ?_ ?_ ?_
  · intro τ y hB1 F1 f _ _ _
    have f1 := f.1
    have q : 0 ≤ ts_T tp n i ∧ cI σ 34 = ts_T tp n i := by omega
    have g := good τ (.int (Int32.ofInt 0)) rfl hB1 F1 (Or.inl q.1)
    have m0 : mo (ts_T tp n i) = 0 := if_pos q.1
    have m1 : ma (ts_T tp n i) = ts_T tp n i := if_pos q.1
    rw [m0, m1] at g
    rw [q.2]
    exact g
  · intro τ y hB1 F1 f rl _ m
    have r1 := rl.1
    have r2 := rl.2.1
    exact bad τ hB1 F1 (by omega) m.2.2.2.1 m.2.2.2.2.1
  · intro τ y hB1 F1 f _ _ m
    have f1 := f.1
    have f2 := f.2.1
    exact bad τ hB1 F1 (by omega) m.2.2.2.1 m.2.2.2.2.1
  · intro τ y hB1 F1 f _ _ _
    have f1 := f.1
    have f2 := f.2.1
    have q : (-15) ≤ ts_T tp n i ∧ ts_T tp n i ≤ -7 ∧ cI σ 34 + (-6) = -7 - ts_T tp n i := by omega
    have g := good τ (.int (Int32.ofInt 1)) rfl hB1 F1 (Or.inr ⟨q.1, q.2.1⟩)
    have m0 : mo (ts_T tp n i) = 1 := by
      unfold mo
      rw [if_neg (by omega), if_pos ⟨q.1, q.2.1⟩]
    have m1 : ma (ts_T tp n i) = -7 - ts_T tp n i := by
      unfold ma
      rw [if_neg (by omega), if_pos ⟨q.1, q.2.1⟩]
    rw [m0, m1] at g
    rw [q.2.2]
    exact g
end MSM
