/-! the model's parser against the grammar: products, sums, comparisons -/
abbrev apR (d : List Int) (r : gyR) : gyR := (r.1, r.2.1, d ++ r.2.2)
theorem apR2 (d e : List Int) (r : gyR) : apR d (apR e r) = apR (d ++ e) r := by
  show (r.1, r.2.1, d ++ (e ++ r.2.2)) = (r.1, r.2.1, (d ++ e) ++ r.2.2)
  rw [List.append_assoc]
theorem apR0 (r : gyR) : apR [] r = r := rfl
section PSS
variable {T : Nat → Int} {k i : Nat}
/-- a product goes on -/
theorem psS_p (c : T i = -19 ∨ (T i = -20 ∧ 0 < T (i + 1))) (z : 0 ≤ T (i + 1) ∨ ((-15) ≤ T (i + 1) ∧ T (i + 1) ≤ -7)) (h : Int) : ps_S T (k + 1) h i = apR [T (i + 1), T i] (ps_S T k h (i + 2)) := by
  have e : ps_U T (i + 1) = (0, i + 2, [T (i + 1)]) := if_pos z
  rw [ps_S, if_pos (by omega), if_neg (by omega), if_neg (by omega), if_neg (by omega), e, if_pos rfl]
  rfl
theorem psS_p1 (c : T i = -20 ∧ T (i + 1) < 0) (h : Int) : ps_S T (k + 1) h i = (1, i + 1, []) := by
  rw [ps_S, if_pos (by omega), if_neg (by omega), if_pos c]
theorem psS_p2 (c : T i = -20 ∧ T (i + 1) = 0) (h : Int) : ps_S T (k + 1) h i = (2, i + 1, []) := by
  rw [ps_S, if_pos (by omega), if_neg (by omega), if_neg (by omega), if_pos c]
theorem psS_p3 (c : T i = -19 ∨ (T i = -20 ∧ 0 < T (i + 1))) (z : ¬ (0 ≤ T (i + 1) ∨ ((-15) ≤ T (i + 1) ∧ T (i + 1) ≤ -7))) (h : Int) : ps_S T (k + 1) h i = (1, i + 1, []) := by
  have e : ps_U T (i + 1) = (1, i + 1, []) := if_neg z
  rw [ps_S, if_pos (by omega), if_neg (by omega), if_neg (by omega), if_neg (by omega), e, if_neg (show ¬ (1 : Nat) = 0 by decide)]
/-- a sum goes on -/
theorem psS_a (c : T i = -17 ∨ T i = -18) (z : 0 ≤ T (i + 1) ∨ ((-15) ≤ T (i + 1) ∧ T (i + 1) ≤ -7)) : ps_S T (k + 1) (-27) i = apR [T (i + 1)] (ps_S T k (T i) (i + 2)) := by
  have e : ps_U T (i + 1) = (0, i + 2, [T (i + 1)]) := if_pos z
  rw [ps_S, if_pos (by omega), if_pos c, e, if_pos rfl]
  rfl
theorem psS_a1 (c : T i = -17 ∨ T i = -18) (z : ¬ (0 ≤ T (i + 1) ∨ ((-15) ≤ T (i + 1) ∧ T (i + 1) ≤ -7))) : ps_S T (k + 1) (-27) i = (1, i + 1, []) := by
  have e : ps_U T (i + 1) = (1, i + 1, []) := if_neg z
  rw [ps_S, if_pos (by omega), if_pos c, e, if_neg (show ¬ (1 : Nat) = 0 by decide)]
theorem psS_e (c : ¬ ((-20) ≤ T i ∧ T i ≤ -17)) (h : Int) : ps_S T (k + 1) h i = (0, i, ps_h h) := by
  rw [ps_S, if_neg c]
end PSS
/-- the same but for what a fault leaves -/
abbrev gEq (r s : gyR) : Prop := r.1 = s.1 ∧ r.2.1 = s.2.1 ∧ (r.1 = 0 → r.2.2 = s.2.2)
theorem gEq.rf (r : gyR) : gEq r r := ⟨rfl, rfl, fun _ => rfl⟩
theorem gEq.ap {r s : gyR} (d : List Int) (h : gEq r s) : gEq (apR d r) (apR d s) := ⟨h.1, h.2.1, fun z => by
  show d ++ r.2.2 = d ++ s.2.2
  rw [h.2.2 z]⟩
section PSS2
variable {T : Nat → Int} {k i : Nat}
/-- what waits is told first where the product is over -/
theorem psS_h {h : Int} (c : ¬ (T i = -19 ∨ T i = -20)) (hh : h ≠ -27) : gEq (ps_S T (k + 1) h i) (apR [h] (ps_S T (k + 1) (-27) i)) := by
  have e1 : ps_h h = [h] := if_neg hh
  by_cases d : (-20) ≤ T i ∧ T i ≤ -17
  · have d2 : T i = -17 ∨ T i = -18 := by omega
    by_cases z : 0 ≤ T (i + 1) ∨ ((-15) ≤ T (i + 1) ∧ T (i + 1) ≤ -7)
    · have e : ps_U T (i + 1) = (0, i + 2, [T (i + 1)]) := if_pos z
      have e2 : ps_S T (k + 1) h i = apR [h] (apR [T (i + 1)] (ps_S T k (T i) (i + 2))) := by
        rw [ps_S, if_pos d, if_pos d2, e1, e, if_pos rfl]
      rw [e2, psS_a d2 z]
      exact gEq.rf _
    · have e : ps_U T (i + 1) = (1, i + 1, []) := if_neg z
      have e2 : ps_S T (k + 1) h i = (1, i + 1, []) := by
        rw [ps_S, if_pos d, if_pos d2, e, if_neg (show ¬ (1 : Nat) = 0 by decide)]
      rw [e2, psS_a1 d2 z]
      exact ⟨rfl, rfl, fun w => absurd (show (1 : Nat) = 0 from w) (by decide)⟩
  · rw [psS_e d, psS_e d, e1]
    exact gEq.rf _
end PSS2
section MPR
variable {tp : Nat → Int} {n L : Nat} {kO kA : Nat → Int32}
theorem mt_R.eqv {v : Option Value} {τ : pm_S} {c : List Int} {r s : gyR} (h : mt_R tp n kO kA v τ c r) (e : gEq s r) : mt_R tp n kO kA v τ c s := by
  rcases h with ⟨a, b, t, d⟩ | ⟨a, b, t⟩
  · have s0 : s.1 = 0 := e.1.trans a
    refine Or.inl ⟨s0, b, ?_, ?_⟩
    · rw [e.2.1]
      exact t
    · rw [e.2.2 s0]
      exact d
  · refine Or.inr ⟨by rw [e.1]; exact a, b, ?_⟩
    rw [e.1, e.2.1]
    exact t
/-- the rest of a product, at i with fuel k -/
abbrev mp_R (tp : Nat → Int) (n : Nat) (kO kA : Nat → Int32) (L k i : Nat) (c : List Int) (v : Option Value) (τ : pm_S) : Prop :=
  (∃ j k' d, v = some (.int (Int32.ofInt 0)) ∧ mt_T tp n τ j ∧ mt_C kO kA τ (c ++ d) ∧ i ≤ j ∧ j ≤ L ∧ i + d.length ≤ j ∧ L - j < k' ∧ k' ≤ k ∧ ¬ (ts_T tp n j = -19 ∨ ts_T tp n j = -20) ∧ ∀ h, ps_S (ts_T tp n) k h i = apR d (ps_S (ts_T tp n) k' h j)) ∨
  (v = some (.int (Int32.ofInt (-1))) ∧ ∃ f j, f ≠ 0 ∧ mt_F tp n kO kA τ f j ∧ ∀ h, (ps_S (ts_T tp n) k h i).1 = f ∧ (ps_S (ts_T tp n) k h i).2.1 = j)
set_option maxRecDepth 20000 in
theorem x_mpl {Q : Option Value → pm_S → Prop} (hT : mt_L tp n L) : ∀ (k i : Nat) (c : List Int) (τ : pm_S) (v1 : Value), L - i < k → i ≤ L → c.length ≤ i → v1.category = 1 → an_GB pm_B τ → mt_B tp n τ → mt_T tp n τ i → mt_C kO kA τ c → (∀ (τ' : pm_S) (v : Option Value), an_GB pm_B τ' → FQ FTm τ τ' → mp_R tp n kO kA L k i c v τ' → Q v τ') → Ok 188 19 6 [.ref 93, v1] [] τ Q := by
  intro k
  induction k with
  | zero => intro i c τ v1 hk; exact absurd hk (Nat.not_lt_zero _)
  | succ k ih =>
    intro i c τ v1 hk hi hc k1 hB hb ht hC hQ
    have hL := hT.1
    have tr := tk_r (tp := tp) (n := n) i
    have tr1 := tk_r (tp := tp) (n := n) (i + 1)
    have gt : 0 ≤ cI τ 33 ∧ cI τ 33 ≤ 4 := hB 93 33 (by decide)
    have gv : (-2147483648) ≤ cI τ 34 ∧ cI τ 34 ≤ 2147483647 := ai_rng _
    have gp := (ts_P_le (tp := tp) (n := n) i).1
    have gp1 := (ts_P_le (tp := tp) (n := n) (i + 1)).1
    have hn := hb.1
    have mi := mtok_i ht.2.2 tr
    have done : ∀ τ1 : pm_S, an_GB pm_B τ1 → FQ [] τ τ1 → ¬ (ts_T tp n i = -19 ∨ ts_T tp n i = -20) → Q (some (.int (Int32.ofInt 0))) τ1 := by
      intro τ1 hB1 F1 q
      refine hQ τ1 _ hB1 (FQ.up (G := []) rfl F1) (Or.inl ⟨i, k + 1, [], rfl, ht.fq (G := []) rfl F1, ?_, Nat.le_refl _, hi, Nat.le_refl _, hk, Nat.le_refl _, q, fun h => (apR0 _).symm⟩)
      rw [List.append_nil]
      exact hC.fq (G := []) rfl F1
    -- the unit behind the sign: a (1: times)
    have unit : ∀ (τ1 : pm_S) (a : Int), an_GB pm_B τ1 → FQ FTm τ τ1 → mt_T tp n τ1 (i + 1) → mt_C kO kA τ1 c → (a = 1 ∧ ts_T tp n i = -19 ∨ a = 0 ∧ ts_T tp n i = -20 ∧ 0 < ts_T tp n (i + 1)) → Ok 188 19 40 [.ref 93, .int (Int32.ofInt a)] [.ref 93] τ1 Q := by
      intro τ1 a hB1 G1 t1 C1 ha
      have iL : i < L := ml_lt hT (by omega)
      have cc : ts_T tp n i = -19 ∨ (ts_T tp n i = -20 ∧ 0 < ts_T tp n (i + 1)) := by omega
      refine Ok.cv rfl rfl rfl rfl rfl rfl rfl ?_
      refine (x_mun (i := i + 1) (c := c) hT (by omega) hB1 (hb.fq (G := FTm) rfl G1) t1 C1).use (by decide) (fun r τ2 q => ?_)
      obtain ⟨hB2, F2, q⟩ := q
      have G2 : FQ FTm τ τ2 := FQ.tr G1 F2
      rcases psU_c (T := ts_T tp n) (i + 1) with ⟨e, u⟩ | ⟨e, u⟩
      · rw [e] at q
        rcases q with ⟨_, rfl, t2, C2⟩ | ⟨z, _⟩
        · have i1 : i + 1 < L := ml_lt hT (by omega)
          have l1 : (c ++ [ts_T tp n (i + 1)]).length = c.length + 1 := by rw [List.length_append, List.length_singleton]
          have l2 : (c ++ [ts_T tp n (i + 1)] ++ [ts_T tp n i]).length = c.length + 2 := by rw [List.length_append, l1, List.length_singleton]
          -- the sign is told
          have told : ∀ (τ3 : pm_S), an_GB pm_B τ3 → FQ [] τ2 τ3 → Ok 188 19 52 [.ref 93, .int (Int32.ofInt a)] [.int (Int32.ofInt (ma (ts_T tp n i))), .int (Int32.ofInt (mo (ts_T tp n i))), .ref 93] τ3 Q := by
            intro τ3 hB3 F3
            refine Ok.cv rfl rfl rfl rfl rfl rfl rfl ?_
            refine (x_emi (c := c ++ [ts_T tp n (i + 1)]) (ts_T tp n i) (by unfold okC; omega) hB3 (by omega) (C2.fq (G := []) rfl F3)).use (by decide) (fun r τ4 q => ?_)
            obtain ⟨rfl, hB4, F4, C4⟩ := q
            refine mq_p53 _ rfl hB4 ?_
            intro τ5 y5 u5 k5 hB5 F5 _ _ _ _
            have G5 : FQ FTm τ τ5 := FQ.tr G2 (FQ.tr (FQ.up (G := []) rfl F3) (FQ.tr (FQ.up (G := FEn) rfl F4) (FQ.up (G := []) rfl F5)))
            refine ih (i + 2) (c ++ [ts_T tp n (i + 1)] ++ [ts_T tp n i]) τ5 u5 (by omega) (by omega) (by omega) k5 hB5 (hb.fq (G := FTm) rfl G5) (((t2.fq (G := []) rfl F3).fq (G := FEn) rfl F4).fq (G := []) rfl F5) (C4.fq (G := []) rfl F5) (fun τ' v hB' F' hR => hQ τ' v hB' (FQ.tr G5 F') ?_)
            rcases hR with ⟨j, k', d, h1, h2, h3, h4, h5, h6, h7, h8, h9, h10⟩ | ⟨h1, f, j, h2, h3, h4⟩
            · refine Or.inl ⟨j, k', [ts_T tp n (i + 1), ts_T tp n i] ++ d, h1, h2, ?_, by omega, h5, ?_, h7, by omega, h9, fun h => ?_⟩
              · have e3 : c ++ ([ts_T tp n (i + 1), ts_T tp n i] ++ d) = c ++ [ts_T tp n (i + 1)] ++ [ts_T tp n i] ++ d := by
                  rw [List.append_assoc, List.append_assoc]
                  rfl
                rw [e3]
                exact h3
              · rw [List.length_append]
                show i + (2 + d.length) ≤ j
                omega
              · rw [psS_p cc u, h10 h, apR2]
            · refine Or.inr ⟨h1, f, j, h2, h3, fun h => ?_⟩
              rw [psS_p cc u]
              exact h4 h
          refine mq_p41 0 a hB2 ⟨by decide, by omega, trivial⟩ ?_ ?_ ?_
          · intro τ3 y3 hB3 F3 f _ _ _
            have f2 := f.2.1
            have g := told τ3 hB3 F3
            have ti : ts_T tp n i = -20 := by omega
            have m0 : mo (ts_T tp n i) = 5 := by rw [ti]; rfl
            have m1 : ma (ts_T tp n i) = 0 := by rw [ti]; rfl
            rw [m0, m1] at g
            exact g
          · intro τ3 y3 hB3 F3 f _ _ _
            have f2 := f.2.1
            have g := told τ3 hB3 F3
            have ti : ts_T tp n i = -19 := by omega
            have m0 : mo (ts_T tp n i) = 4 := by rw [ti]; rfl
            have m1 : ma (ts_T tp n i) = 0 := by rw [ti]; rfl
            rw [m0, m1] at g
            exact g
          · intro τ3 y3 hB3 F3 f _ _ _
            have f1 := f.1
            exfalso
            omega
        · exact absurd rfl z
      · rw [e] at q
        rcases q with ⟨z, _⟩ | ⟨_, rfl, t2⟩
        · cases z
        · refine mq_p41 (-1) a hB2 ⟨by decide, by omega, trivial⟩ ?_ ?_ ?_
          · intro τ3 y3 hB3 F3 f _ _ _
            have f1 := f.1
            exfalso
            omega
          · intro τ3 y3 hB3 F3 f _ _ _
            have f1 := f.1
            exfalso
            omega
          · intro τ3 y3 hB3 F3 _ _ _ _
            refine hQ τ3 _ hB3 (FQ.tr G2 (FQ.up (G := []) rfl F3)) (Or.inr ⟨rfl, 1, i + 1, by decide, t2.fq (G := []) rfl F3, fun h => ?_⟩)
            rw [psS_p3 cc u]
            exact ⟨rfl, rfl⟩
    refine mq_p6 (cI τ 33) (cI τ 34) (ts_P tp n i : Nat) v1 k1 hB ⟨gt, gv, by omega, trivial⟩ ⟨rfl, rfl, ht.2.1, trivial⟩ ?_ ?_ ?_ ?_
    · intro τ1 y1 hB1 F1 f _ _ _
      have f1 := f.1
      exact done τ1 hB1 F1 (by omega)
    · intro τ1 y1 hB1 F1 f rl _ _
      have f1 := f.1
      have r1 := rl.1
      have r2 := rl.2.1
      refine done τ1 hB1 F1 (fun z => ?_)
      rcases mi with m | m | m | m | m
      · omega
      · omega
      · have q := ts_s_v m.2.2.2 ⟨m.1, m.2.1⟩
        omega
      · omega
      · omega
    · intro τ1 y1 hB1 F1 f _ _ _
      have f1 := f.1
      have f2 := f.2.1
      have ti : ts_T tp n i = -20 := by
        rcases mi with m | m | m | m | m
        · omega
        · omega
        · have q := ts_s_v m.2.2.2 ⟨m.1, m.2.1⟩
          omega
        · omega
        · omega
      refine Ok.cv rfl rfl rfl rfl rfl rfl rfl ?_
      refine (x_mna (i := i) hB1 (hb.fq (G := []) rfl F1) (ht.fq (G := []) rfl F1)).use (by decide) (fun r τ2 q => ?_)
      obtain ⟨rfl, hB2, F2, t2⟩ := q
      have G2 : FQ FTm τ τ2 := FQ.tr (FQ.up (G := []) rfl F1) (FQ.up (G := FMr) rfl F2)
      have C2 : mt_C kO kA τ2 c := (hC.fq (G := []) rfl F1).fq (G := FMr) rfl F2
      have gt2 : 0 ≤ cI τ2 33 ∧ cI τ2 33 ≤ 4 := hB2 93 33 (by decide)
      have gv2 : (-2147483648) ≤ cI τ2 34 ∧ cI τ2 34 ≤ 2147483647 := ai_rng _
      have mi2 := mtok_i t2.2.2 tr1
      refine mq_p20 (cI τ2 33) (cI τ2 34) (ts_P tp n (i + 1) : Nat) 0 hB2 ⟨gt2, gv2, by omega, by decide, trivial⟩ ⟨rfl, rfl, t2.2.1, trivial⟩ ?_ ?_ ?_ ?_
      · intro τ3 y3 hB3 F3 g _ _ _
        have g4 := g.2.2.2.1
        exfalso
        omega
      · intro τ3 y3 hB3 F3 g rl _ _
        have g1 := g.1
        have r1 := rl.1
        exact unit τ3 0 hB3 (FQ.tr G2 (FQ.up (G := [(93, 46), (93, 47)]) rfl F3)) (t2.fq (G := [(93, 46), (93, 47)]) rfl F3) (C2.fq (G := [(93, 46), (93, 47)]) rfl F3) (Or.inr ⟨rfl, ti, by omega⟩)
      · intro τ3 y3 hB3 F3 g _ _ m
        have g1 := g.1
        have g2 := g.2.1
        refine hQ τ3 _ hB3 (FQ.tr G2 (FQ.up (G := [(93, 46), (93, 47)]) rfl F3)) (Or.inr ⟨rfl, 2, i + 1, by decide, ⟨⟨m.2.2.2.1, m.2.2.2.2.1⟩, (C2.fq (G := [(93, 46), (93, 47)]) rfl F3).2.2⟩, fun h => ?_⟩)
        rw [psS_p2 ⟨ti, by omega⟩]
        exact ⟨rfl, rfl⟩
      · intro τ3 y3 hB3 F3 g rl _ m
        have r1 := rl.1
        refine hQ τ3 _ hB3 (FQ.tr G2 (FQ.up (G := [(93, 46), (93, 47)]) rfl F3)) (Or.inr ⟨rfl, 1, i + 1, by decide, ⟨⟨m.2.2.2.1, m.2.2.2.2.1⟩, (C2.fq (G := [(93, 46), (93, 47)]) rfl F3).2.2⟩, fun h => ?_⟩)
        rw [psS_p1 ⟨ti, by omega⟩]
        exact ⟨rfl, rfl⟩
    · intro τ1 y1 hB1 F1 f _ _ _
      have f1 := f.1
      have f2 := f.2.1
      have ti : ts_T tp n i = -19 := by
        rcases mi with m | m | m | m | m
        · omega
        · omega
        · have q := ts_s_v m.2.2.2 ⟨m.1, m.2.1⟩
          omega
        · omega
        · omega
      refine Ok.cv rfl rfl rfl rfl rfl rfl rfl ?_
      refine (x_mna (i := i) hB1 (hb.fq (G := []) rfl F1) (ht.fq (G := []) rfl F1)).use (by decide) (fun r τ2 q => ?_)
      obtain ⟨rfl, hB2, F2, t2⟩ := q
      have G2 : FQ FTm τ τ2 := FQ.tr (FQ.up (G := []) rfl F1) (FQ.up (G := FMr) rfl F2)
      have C2 : mt_C kO kA τ2 c := (hC.fq (G := []) rfl F1).fq (G := FMr) rfl F2
      have gt2 : 0 ≤ cI τ2 33 ∧ cI τ2 33 ≤ 4 := hB2 93 33 (by decide)
      have gv2 : (-2147483648) ≤ cI τ2 34 ∧ cI τ2 34 ≤ 2147483647 := ai_rng _
      refine mq_p20 (cI τ2 33) (cI τ2 34) (ts_P tp n (i + 1) : Nat) 1 hB2 ⟨gt2, gv2, by omega, by decide, trivial⟩ ⟨rfl, rfl, t2.2.1, trivial⟩ ?_ ?_ ?_ ?_
      · intro τ3 y3 hB3 F3 g _ _ _
        exact unit τ3 1 hB3 (FQ.tr G2 (FQ.up (G := [(93, 46), (93, 47)]) rfl F3)) (t2.fq (G := [(93, 46), (93, 47)]) rfl F3) (C2.fq (G := [(93, 46), (93, 47)]) rfl F3) (Or.inl ⟨rfl, ti⟩)
      · intro τ3 y3 hB3 F3 g _ _ _
        have g4 := g.2.2.2.1
        exfalso
        omega
      · intro τ3 y3 hB3 F3 g _ _ _
        have g4 := g.2.2.2.1
        exfalso
        omega
      · intro τ3 y3 hB3 F3 g _ _ _
        have g4 := g.2.2.2.1
        exfalso
        omega
end MPR
