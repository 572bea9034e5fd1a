/-! the model's parser against the grammar: a side, a comparison -/
section MSU
variable {tp : Nat → Int} {n L : Nat} {kO kA : Nat → Int32}
/-- a product, at i with fuel k behind its first unit -/
abbrev mpr_R (tp : Nat → Int) (n : Nat) (kO kA : Nat → Int32) (L k i : Nat) (c : List Int) (v : Option Value) (τ : pm_S) : Prop :=
  (∃ j k' d, (ps_U (ts_T tp n) i).1 = 0 ∧ v = some (.int (Int32.ofInt 0)) ∧ mt_T tp n τ j ∧ mt_C kO kA τ (c ++ ([ts_T tp n i] ++ d)) ∧ i + 1 ≤ j ∧ j ≤ L ∧ i + 1 + d.length ≤ j ∧ L - j < k' ∧ k' ≤ k ∧ ¬ (ts_T tp n j = -19 ∨ ts_T tp n j = -20) ∧ ∀ h, ps_S (ts_T tp n) k h (i + 1) = apR d (ps_S (ts_T tp n) k' h j)) ∨
  (v = some (.int (Int32.ofInt (-1))) ∧ ∃ f j, f ≠ 0 ∧ mt_F tp n kO kA τ f j ∧ ((ps_U (ts_T tp n) i = (f, j, [])) ∨ ((ps_U (ts_T tp n) i).1 = 0 ∧ ∀ h, (ps_S (ts_T tp n) k h (i + 1)).1 = f ∧ (ps_S (ts_T tp n) k h (i + 1)).2.1 = j)))
set_option maxRecDepth 20000 in
theorem x_mpr {σ : pm_S} (k i : Nat) (c : List Int) (hT : mt_L tp n L) (hi : i ≤ L) (hk : L - (i + 1) < k) (hc : c.length ≤ i) (hB : an_GB pm_B σ) (hb : mt_B tp n σ) (ht : mt_T tp n σ i) (hC : mt_C kO kA σ c) : Sp 188 19 [.ref 93] σ (fun v τ => an_GB pm_B τ ∧ FQ FTm σ τ ∧ mpr_R tp n kO kA L k i c v τ) := by
  refine Sp.at rfl rfl ?_
  refine mq_p0 _ rfl hB ?_
  intro τ1 y1 v1 k1 hB1 F1 _ _ _ _
  refine Ok.cv rfl rfl rfl rfl rfl rfl rfl ?_
  refine (x_mun (i := i) (c := c) hT hc hB1 (hb.fq (G := []) rfl F1) (ht.fq (G := []) rfl F1) (hC.fq (G := []) rfl F1)).use (by decide) (fun r τ2 q => ?_)
  obtain ⟨hB2, F2, q⟩ := q
  have G2 : FQ FTm σ τ2 := FQ.tr (FQ.up (G := []) rfl F1) F2
  rcases psU_c (T := ts_T tp n) i with ⟨e, u⟩ | ⟨e, u⟩
  · rw [e] at q
    rcases q with ⟨_, rfl, t2, C2⟩ | ⟨z, _⟩
    · have iL : i < L := ml_lt hT (by omega)
      have l1 : (c ++ [ts_T tp n i]).length = c.length + 1 := by rw [List.length_append, List.length_singleton]
      refine mq_p2 0 v1 k1 hB2 ⟨by decide, trivial⟩ ?_ ?_
      · intro τ3 y3 u3 k3 hB3 F3 _ _ _ _
        have G3 : FQ FTm σ τ3 := FQ.tr G2 (FQ.up (G := []) rfl F3)
        refine x_mpl hT k (i + 1) (c ++ [ts_T tp n i]) τ3 u3 hk (by omega) (by omega) k3 hB3 (hb.fq (G := FTm) rfl G3) (t2.fq (G := []) rfl F3) (C2.fq (G := []) rfl F3) (fun τ' v hB' F' hR => ⟨hB', FQ.tr G3 F', ?_⟩)
        rcases hR with ⟨j, k', d, h1, h2, h3, h4, h5, h6, h7, h8, h9, h10⟩ | ⟨h1, f, j, h2, h3, h4⟩
        · rw [List.append_assoc] at h3
          exact Or.inl ⟨j, k', d, by rw [e], h1, h2, h3, h4, h5, h6, h7, h8, h9, h10⟩
        · exact Or.inr ⟨h1, f, j, h2, h3, Or.inr ⟨by rw [e], h4⟩⟩
      · intro τ3 y3 hB3 F3 f _ _ _
        have f1 := f.1
        exfalso
        omega
    · exact absurd rfl z
  · rw [e] at q
    rcases q with ⟨z, _⟩ | ⟨_, rfl, t2⟩
    · cases z
    · refine mq_p2 (-1) v1 k1 hB2 ⟨by decide, trivial⟩ ?_ ?_
      · intro τ3 y3 u3 k3 hB3 F3 f _ _ _
        have f1 := f.1
        exfalso
        omega
      · intro τ3 y3 hB3 F3 _ _ _ _
        exact ⟨hB3, FQ.tr G2 (FQ.up (G := []) rfl F3), Or.inr ⟨rfl, 1, i, by decide, t2.fq (G := []) rfl F3, Or.inl e⟩⟩
set_option maxRecDepth 20000 in
theorem x_msl {Q : Option Value → pm_S → Prop} (hT : mt_L tp n L) : ∀ (K k i : Nat) (c : List Int) (τ : pm_S) (v1 : Value), k ≤ K → L - i < k → i ≤ L → c.length ≤ i → ¬ (ts_T tp n i = -19 ∨ ts_T tp n i = -20) → v1.category = 1 → an_GB pm_B τ → mt_B tp n τ → mt_T tp n τ i → mt_C kO kA τ c → (∀ (τ' : pm_S) (v : Option Value), an_GB pm_B τ' → FQ FTm τ τ' → mt_R tp n kO kA v τ' c (ps_S (ts_T tp n) k (-27) i) → Q v τ') → Ok 189 21 6 [.ref 93, v1] [] τ Q := by
  intro K
  induction K with
  | zero => intro k i c τ v1 hkK hk; exfalso; omega
  | succ K ih =>
    intro k i c τ v1 hkK hk hi hc hnp k1 hB hb ht hC hQ
    obtain ⟨m, hm⟩ : ∃ m, k = m + 1 := ⟨k - 1, by omega⟩
    rw [hm] at hQ
    have hL := hT.1
    have tr := tk_r (tp := tp) (n := n) i
    have gt : 0 ≤ cI τ 33 ∧ cI τ 33 ≤ 4 := hB 93 33 (by decide)
    have gv : (-2147483648) ≤ cI τ 34 ∧ cI τ 34 ≤ 2147483647 := ai_rng _
    have gp := (ts_P_le (tp := tp) (n := n) i).1
    have hn := hb.1
    have mi := mtok_i ht.2.2 tr
    have done : ∀ τ1 : pm_S, an_GB pm_B τ1 → FQ [] τ τ1 → ¬ (ts_T tp n i = -17 ∨ ts_T tp n i = -18) → Q (some (.int (Int32.ofInt 0))) τ1 := by
      intro τ1 hB1 F1 q
      refine hQ τ1 _ hB1 (FQ.up (G := []) rfl F1) ?_
      rw [psS_e (by omega)]
      refine Or.inl ⟨rfl, rfl, ht.fq (G := []) rfl F1, ?_⟩
      show mt_C kO kA τ1 (c ++ [])
      rw [List.append_nil]
      exact hC.fq (G := []) rfl F1
    have more : ∀ (τ1 : pm_S) (w : Int), an_GB pm_B τ1 → FQ [] τ τ1 → (w = 2 ∧ ts_T tp n i = -17 ∨ w = 3 ∧ ts_T tp n i = -18) → Ok 189 21 23 [.ref 93, .int (Int32.ofInt w)] [.ref 93] τ1 Q := by
      intro τ1 w hB1 F1 hw
      have c1 : ts_T tp n i = -17 ∨ ts_T tp n i = -18 := by omega
      have hw2 : 2 ≤ w ∧ w ≤ 3 := by omega
      have iL : i < L := ml_lt hT (by omega)
      have mw : mo (ts_T tp n i) = w ∧ ma (ts_T tp n i) = 0 := by
        rcases hw with ⟨a, b⟩ | ⟨a, b⟩
        · rw [a, b]
          exact ⟨rfl, rfl⟩
        · rw [a, b]
          exact ⟨rfl, rfl⟩
      refine Ok.cv rfl rfl rfl rfl rfl rfl rfl ?_
      refine (x_mna (i := i) hB1 (hb.fq (G := []) rfl F1) (ht.fq (G := []) rfl F1)).use (by decide) (fun r τ2 q => ?_)
      obtain ⟨rfl, hB2, F2, t2⟩ := q
      refine mq_a24 w hB2 ⟨hw2, trivial⟩ ?_
      intro τ3 y3 hB3 F3 _ _ _ _
      have G3 : FQ FTm τ τ3 := FQ.tr (FQ.up (G := []) rfl F1) (FQ.tr (FQ.up (G := FMr) rfl F2) (FQ.up (G := []) rfl F3))
      have C3 : mt_C kO kA τ3 c := ((hC.fq (G := []) rfl F1).fq (G := FMr) rfl F2).fq (G := []) rfl F3
      refine Ok.cv rfl rfl rfl rfl rfl rfl rfl ?_
      refine (x_mpr m (i + 1) c hT (by omega) (by omega) (by omega) hB3 (hb.fq (G := FTm) rfl G3) (t2.fq (G := []) rfl F3) C3).use (by decide) (fun r τ4 q => ?_)
      obtain ⟨hB4, F4, q⟩ := q
      have G4 : FQ FTm τ τ4 := FQ.tr G3 F4
      rcases q with ⟨j, k', d, u0, rfl, t4, C4, h4, h5, h6, h7, h8, h9, h10⟩ | ⟨rfl, f, j, f0, t4, hf⟩
      · rcases psU_c (T := ts_T tp n) (i + 1) with ⟨e, u⟩ | ⟨e, u⟩
        · have l1 : (c ++ ([ts_T tp n (i + 1)] ++ d)).length = c.length + (1 + d.length) := by rw [List.length_append, List.length_append, List.length_singleton]
          have l2 : (c ++ ([ts_T tp n (i + 1)] ++ d) ++ [ts_T tp n i]).length = c.length + (1 + d.length) + 1 := by rw [List.length_append, l1, List.length_singleton]
          refine mq_a26 0 w hB4 ⟨by decide, hw2, trivial⟩ ?_ ?_
          · intro τ5 y5 hB5 F5 _ _ _ _
            refine Ok.cv rfl rfl rfl rfl rfl rfl rfl ?_
            have em := x_emi (c := c ++ ([ts_T tp n (i + 1)] ++ d)) (ts_T tp n i) (by unfold okC; omega) hB5 (by omega) (C4.fq (G := []) rfl F5)
            rw [mw.1, mw.2] at em
            refine em.use (by decide) (fun r τ6 q => ?_)
            obtain ⟨rfl, hB6, F6, C6⟩ := q
            refine mq_a34 _ rfl hB6 ?_
            intro τ7 y7 u7 k7 hB7 F7 _ _ _ _
            have G7 : FQ FTm τ τ7 := FQ.tr G4 (FQ.tr (FQ.up (G := []) rfl F5) (FQ.tr (FQ.up (G := FEn) rfl F6) (FQ.up (G := []) rfl F7)))
            refine ih k' j (c ++ ([ts_T tp n (i + 1)] ++ d) ++ [ts_T tp n i]) τ7 u7 (by omega) h7 h5 (by omega) h9 k7 hB7 (hb.fq (G := FTm) rfl G7) (((t4.fq (G := []) rfl F5).fq (G := FEn) rfl F6).fq (G := []) rfl F7) (C6.fq (G := []) rfl F7) (fun τ' v hB' F' hR => hQ τ' v hB' (FQ.tr G7 F') ?_)
            obtain ⟨m', hm'⟩ : ∃ m', k' = m' + 1 := ⟨k' - 1, by omega⟩
            have e1 : ps_S (ts_T tp n) (m + 1) (-27) i = apR [ts_T tp n (i + 1)] (apR d (ps_S (ts_T tp n) k' (ts_T tp n i) j)) := by
              rw [psS_a c1 u, ← h10]
            have e2 : gEq (ps_S (ts_T tp n) k' (ts_T tp n i) j) (apR [ts_T tp n i] (ps_S (ts_T tp n) k' (-27) j)) := by
              rw [hm']
              exact psS_h h9 (by omega)
            rw [e1, apR2]
            exact mt_R.eqv (mt_R.app (mt_R.app hR)) (e2.ap ([ts_T tp n (i + 1)] ++ d))
          · intro τ5 y5 hB5 F5 g _ _ _
            have g1 := g.1
            exfalso
            omega
        · rw [e] at u0
          cases u0
      · refine mq_a26 (-1) w hB4 ⟨by decide, hw2, trivial⟩ ?_ ?_
        · intro τ5 y5 hB5 F5 g _ _ _
          have g1 := g.1
          exfalso
          omega
        · intro τ5 y5 hB5 F5 _ _ _ _
          refine hQ τ5 _ hB5 (FQ.tr G4 (FQ.up (G := []) rfl F5)) (Or.inr ?_)
          rcases hf with hf | ⟨u0, hf⟩
          · rcases psU_c (T := ts_T tp n) (i + 1) with ⟨e, u⟩ | ⟨e, u⟩
            · rw [e] at hf
              have h0 : (0 : Nat) = f := congrArg (fun r : gyR => r.1) hf
              exact absurd h0.symm f0
            · rw [e] at hf
              have h0 : (1 : Nat) = f := congrArg (fun r : gyR => r.1) hf
              have h1 : i + 1 = j := congrArg (fun r : gyR => r.2.1) hf
              rw [psS_a1 c1 u]
              refine ⟨show (1 : Nat) ≠ 0 by decide, rfl, ?_⟩
              have t5 := t4.fq (G := []) rfl F5
              rw [← h0, ← h1] at t5
              exact t5
          · rcases psU_c (T := ts_T tp n) (i + 1) with ⟨e, u⟩ | ⟨e, u⟩
            · rw [psS_a c1 u]
              have q := hf (ts_T tp n i)
              have t5 := t4.fq (G := []) rfl F5
              rw [← q.1, ← q.2] at t5
              refine ⟨?_, rfl, t5⟩
              show (ps_S (ts_T tp n) m (ts_T tp n i) (i + 2)).1 ≠ 0
              have q1 : (ps_S (ts_T tp n) m (ts_T tp n i) (i + 2)).1 = f := q.1
              rw [q1]
              exact f0
            · rw [e] at u0
              cases u0
    refine mq_a6 (cI τ 33) (cI τ 34) (ts_P tp n i : Nat) v1 k1 hB ⟨gt, gv, by omega, trivial⟩ ⟨rfl, rfl, ht.2.1, trivial⟩ ?_ ?_ ?_ ?_
    · intro τ1 y1 hB1 F1 f _ _ _
      have f1 := f.1
      exact done τ1 hB1 F1 (by omega)
    · intro τ1 y1 hB1 F1 f rl _ _
      have f1 := f.1
      have r1 := rl.1
      have r2 := rl.2.1
      refine done τ1 hB1 F1 (fun z => ?_)
      rcases mi with q | q | q | q | q
      · omega
      · omega
      · have w := ts_s_v q.2.2.2 ⟨q.1, q.2.1⟩
        omega
      · omega
      · omega
    · intro τ1 y1 hB1 F1 f _ _ _
      have f1 := f.1
      have f2 := f.2.1
      refine more τ1 3 hB1 F1 (Or.inr ⟨rfl, ?_⟩)
      rcases mi with q | q | q | q | q
      · omega
      · omega
      · have w := ts_s_v q.2.2.2 ⟨q.1, q.2.1⟩
        omega
      · omega
      · omega
    · intro τ1 y1 hB1 F1 f _ _ _
      have f1 := f.1
      have f2 := f.2.1
      refine more τ1 2 hB1 F1 (Or.inl ⟨rfl, ?_⟩)
      rcases mi with q | q | q | q | q
      · omega
      · omega
      · have w := ts_s_v q.2.2.2 ⟨q.1, q.2.1⟩
        omega
      · omega
      · omega
set_option maxRecDepth 20000 in
theorem x_msu {σ : pm_S} (i : Nat) (c : List Int) (hT : mt_L tp n L) (hi : i ≤ L) (hc : c.length ≤ i) (hB : an_GB pm_B σ) (hb : mt_B tp n σ) (ht : mt_T tp n σ i) (hC : mt_C kO kA σ c) : Sp 189 21 [.ref 93] σ (mt_Q tp n kO kA σ c (ps_E (ts_T tp n) 500 i)) := by
  have hL := hT.1
  refine Sp.at rfl rfl ?_
  refine mq_a0 _ rfl hB ?_
  intro τ1 y1 v1 k1 hB1 F1 _ _ _ _
  refine Ok.cv rfl rfl rfl rfl rfl rfl rfl ?_
  refine (x_mpr 500 i c hT hi (by omega) hc hB1 (hb.fq (G := []) rfl F1) (ht.fq (G := []) rfl F1) (hC.fq (G := []) rfl F1)).use (by decide) (fun r τ2 q => ?_)
  obtain ⟨hB2, F2, q⟩ := q
  have G2 : FQ FTm σ τ2 := FQ.tr (FQ.up (G := []) rfl F1) F2
  rcases psU_c (T := ts_T tp n) i with ⟨e, u⟩ | ⟨e, u⟩
  · have eE : ps_E (ts_T tp n) 500 i = apR [ts_T tp n i] (ps_S (ts_T tp n) 500 (-27) (i + 1)) := by
      unfold ps_E
      rw [e, if_pos rfl]
    rw [eE]
    rcases q with ⟨j, k', d, u0, rfl, t2, C2, h4, h5, h6, h7, h8, h9, h10⟩ | ⟨rfl, f, j, f0, t2, hf⟩
    · have l1 : (c ++ ([ts_T tp n i] ++ d)).length = c.length + (1 + d.length) := by rw [List.length_append, List.length_append, List.length_singleton]
      refine mq_a2 0 v1 k1 hB2 ⟨by decide, trivial⟩ ?_ ?_
      · intro τ3 y3 u3 k3 hB3 F3 _ _ _ _
        have G3 : FQ FTm σ τ3 := FQ.tr G2 (FQ.up (G := []) rfl F3)
        refine x_msl hT k' k' j (c ++ ([ts_T tp n i] ++ d)) τ3 u3 (Nat.le_refl _) h7 h5 (by omega) h9 k3 hB3 (hb.fq (G := FTm) rfl G3) (t2.fq (G := []) rfl F3) (C2.fq (G := []) rfl F3) (fun τ' v hB' F' hR => ⟨hB', FQ.tr G3 F', ?_⟩)
        rw [h10, apR2]
        exact mt_R.app hR
      · intro τ3 y3 hB3 F3 g _ _ _
        have g1 := g.1
        exfalso
        omega
    · refine mq_a2 (-1) v1 k1 hB2 ⟨by decide, trivial⟩ ?_ ?_
      · intro τ3 y3 u3 k3 hB3 F3 g _ _ _
        have g1 := g.1
        exfalso
        omega
      · intro τ3 y3 hB3 F3 _ _ _ _
        rcases hf with hf | ⟨u0, hf⟩
        · rw [e] at hf
          have h0 : (0 : Nat) = f := congrArg (fun r : gyR => r.1) hf
          exact absurd h0.symm f0
        · have q := hf (-27)
          have t3 := t2.fq (G := []) rfl F3
          rw [← q.1, ← q.2] at t3
          refine ⟨hB3, FQ.tr G2 (FQ.up (G := []) rfl F3), Or.inr ⟨?_, rfl, t3⟩⟩
          show (ps_S (ts_T tp n) 500 (-27) (i + 1)).1 ≠ 0
          rw [q.1]
          exact f0
  · have eE : ps_E (ts_T tp n) 500 i = (1, i, []) := by
      unfold ps_E
      rw [e, if_neg (show ¬ (1 : Nat) = 0 by decide)]
    rw [eE]
    rcases q with ⟨j, k', d, u0, _⟩ | ⟨rfl, f, j, f0, t2, hf⟩
    · rw [e] at u0
      cases u0
    · refine mq_a2 (-1) v1 k1 hB2 ⟨by decide, trivial⟩ ?_ ?_
      · intro τ3 y3 u3 k3 hB3 F3 g _ _ _
        have g1 := g.1
        exfalso
        omega
      · intro τ3 y3 hB3 F3 _ _ _ _
        rcases hf with hf | ⟨u0, hf⟩
        · rw [e] at hf
          have h0 : (1 : Nat) = f := congrArg (fun r : gyR => r.1) hf
          have h1 : i = j := congrArg (fun r : gyR => r.2.1) hf
          have t3 := t2.fq (G := []) rfl F3
          rw [← h0, ← h1] at t3
          exact ⟨hB3, FQ.tr G2 (FQ.up (G := []) rfl F3), Or.inr ⟨show (1 : Nat) ≠ 0 by decide, rfl, t3⟩⟩
        · rw [e] at u0
          cases u0
set_option maxRecDepth 20000 in
theorem x_mco {σ : pm_S} (i : Nat) (c : List Int) (hT : mt_L tp n L) (hi : i ≤ L) (hc : c.length ≤ i) (hB : an_GB pm_B σ) (hb : mt_B tp n σ) (ht : mt_T tp n σ i) (hC : mt_C kO kA σ c) : Sp 190 23 [.ref 93] σ (mt_Q tp n kO kA σ c (ps_M (ts_T tp n) 500 i)) := by
  have hL := hT.1
  have hn := hb.1
  refine Sp.at rfl rfl ?_
  refine mq_c0 _ rfl hB ?_
  intro τ1 y1 v1 k1 hB1 F1 _ _ _ _
  refine Ok.cv rfl rfl rfl rfl rfl rfl rfl ?_
  refine (x_msu i c hT hi hc hB1 (hb.fq (G := []) rfl F1) (ht.fq (G := []) rfl F1) (hC.fq (G := []) rfl F1)).use (by decide) (fun r τ2 q => ?_)
  obtain ⟨hB2, F2, q⟩ := q
  have G2 : FQ FTm σ τ2 := FQ.tr (FQ.up (G := []) rfl F1) F2
  have ok := psE_ok hT.2 (k := 500) hi (show L < 500 by omega)
  rcases q with ⟨z, rfl, t2, C2⟩ | ⟨z, rfl, t2⟩
  · have ok2 := ok.2.2 z
    generalize hj : (ps_E (ts_T tp n) 500 i).2.1 = j at t2 ok ok2
    have l1 : (c ++ (ps_E (ts_T tp n) 500 i).2.2).length = c.length + (ps_E (ts_T tp n) 500 i).2.2.length := List.length_append
    refine mq_c2 0 v1 k1 hB2 ⟨by decide, trivial⟩ ?_ ?_
    · intro τ3 y3 u3 k3 hB3 F3 _ _ _ _
      have G3 : FQ FTm σ τ3 := FQ.tr G2 (FQ.up (G := []) rfl F3)
      have t3 : mt_T tp n τ3 j := t2.fq (G := []) rfl F3
      have C3 := C2.fq (G := []) rfl F3
      have tr := tk_r (tp := tp) (n := n) j
      have gt : 0 ≤ cI τ3 33 ∧ cI τ3 33 ≤ 4 := hB3 93 33 (by decide)
      have gv : (-2147483648) ≤ cI τ3 34 ∧ cI τ3 34 ≤ 2147483647 := ai_rng _
      have gp := (ts_P_le (tp := tp) (n := n) j).1
      have mi := mtok_i t3.2.2 tr
      have bad : ∀ τ4 : pm_S, an_GB pm_B τ4 → FQ [(93, 46), (93, 47)] τ3 τ4 → ¬ ((-25) ≤ ts_T tp n j ∧ ts_T tp n j ≤ -23) → cI τ4 46 = 1 → cI τ4 47 = ((ts_P tp n j : Nat) : Int) → mt_Q tp n kO kA σ c (ps_M (ts_T tp n) 500 i) (some (.int (Int32.ofInt (-1)))) τ4 := by
        intro τ4 hB4 F4 h e1 e2
        rw [psM_3 z (by rw [hj]; exact h), hj]
        exact ⟨hB4, FQ.tr G3 (FQ.up (G := [(93, 46), (93, 47)]) rfl F4), Or.inr ⟨show (1 : Nat) ≠ 0 by decide, rfl, ⟨e1, e2⟩, (C3.fq (G := [(93, 46), (93, 47)]) rfl F4).2.2⟩⟩
      have good : ∀ (τ4 : pm_S) (w : Int), an_GB pm_B τ4 → FQ [(93, 46), (93, 47)] τ3 τ4 → (6 ≤ w ∧ w ≤ 8) → ts_T tp n j = -17 - w → Ok 190 23 37 [.ref 93, .int (Int32.ofInt w)] [.ref 93] τ4 (mt_Q tp n kO kA σ c (ps_M (ts_T tp n) 500 i)) := by
        intro τ4 w hB4 F4 hw tj
        have cs : (-25) ≤ ts_T tp n j ∧ ts_T tp n j ≤ -23 := by omega
        have cs2 : (-25) ≤ ts_T tp n (ps_E (ts_T tp n) 500 i).2.1 ∧ ts_T tp n (ps_E (ts_T tp n) 500 i).2.1 ≤ -23 := by rw [hj]; exact cs
        have jL : j < L := ml_lt hT (by omega)
        have mw : mo (ts_T tp n j) = w ∧ ma (ts_T tp n j) = 0 := by
          unfold mo ma
          rw [if_neg (by omega), if_neg (by omega), if_neg (by omega), if_neg (by omega), if_neg (by omega), if_neg (by omega), if_neg (by omega), if_neg (by omega)]
          omega
        refine Ok.cv rfl rfl rfl rfl rfl rfl rfl ?_
        have G4 : FQ FTm σ τ4 := FQ.tr G3 (FQ.up (G := [(93, 46), (93, 47)]) rfl F4)
        refine (x_mna (i := j) hB4 (hb.fq (G := FTm) rfl G4) (t3.fq (G := [(93, 46), (93, 47)]) rfl F4)).use (by decide) (fun r τ5 q => ?_)
        obtain ⟨rfl, hB5, F5, t5⟩ := q
        refine mq_c38 w hB5 ⟨hw, trivial⟩ ?_
        intro τ6 y6 hB6 F6 _ _ _ _
        have G6 : FQ FTm σ τ6 := FQ.tr G4 (FQ.tr (FQ.up (G := FMr) rfl F5) (FQ.up (G := []) rfl F6))
        have C6 := ((C3.fq (G := [(93, 46), (93, 47)]) rfl F4).fq (G := FMr) rfl F5).fq (G := []) rfl F6
        refine Ok.cv rfl rfl rfl rfl rfl rfl rfl ?_
        refine (x_msu (j + 1) (c ++ (ps_E (ts_T tp n) 500 i).2.2) hT (by omega) (by omega) hB6 (hb.fq (G := FTm) rfl G6) (t5.fq (G := []) rfl F6) C6).use (by decide) (fun r τ7 q => ?_)
        obtain ⟨hB7, F7, q⟩ := q
        have G7 : FQ FTm σ τ7 := FQ.tr G6 F7
        have ok7 := psE_ok hT.2 (k := 500) (show j + 1 ≤ L by omega) (show L < 500 by omega)
        rcases q with ⟨z2, rfl, t7, C7⟩ | ⟨z2, rfl, t7⟩
        · have ok8 := ok7.2.2 z2
          have l2 : (c ++ (ps_E (ts_T tp n) 500 i).2.2 ++ (ps_E (ts_T tp n) 500 (j + 1)).2.2).length = c.length + (ps_E (ts_T tp n) 500 i).2.2.length + (ps_E (ts_T tp n) 500 (j + 1)).2.2.length := by rw [List.length_append, l1]
          refine mq_c40 0 w hB7 ⟨by decide, hw, trivial⟩ ?_ ?_
          · intro τ8 y8 hB8 F8 _ _ _ _
            refine Ok.cv rfl rfl rfl rfl rfl rfl rfl ?_
            have em := x_emi (c := c ++ (ps_E (ts_T tp n) 500 i).2.2 ++ (ps_E (ts_T tp n) 500 (j + 1)).2.2) (ts_T tp n j) (by unfold okC; omega) hB8 (by omega) (C7.fq (G := []) rfl F8)
            rw [mw.1, mw.2] at em
            refine em.use (by decide) (fun r τ9 q => ?_)
            obtain ⟨rfl, hB9, F9, C9⟩ := q
            refine mq_c48 _ rfl hB9 ?_
            intro τ10 y10 hB10 F10 _ _ _ _
            have z2' : (ps_E (ts_T tp n) 500 ((ps_E (ts_T tp n) 500 i).2.1 + 1)).1 = 0 := by rw [hj]; exact z2
            rw [psM_1 z cs2 z2', hj]
            have C10 := C9.fq (G := []) rfl F10
            rw [List.append_assoc, List.append_assoc] at C10
            exact ⟨hB10, FQ.tr G7 (FQ.tr (FQ.up (G := []) rfl F8) (FQ.tr (FQ.up (G := FEn) rfl F9) (FQ.up (G := []) rfl F10))), Or.inl ⟨rfl, rfl, ((t7.fq (G := []) rfl F8).fq (G := FEn) rfl F9).fq (G := []) rfl F10, C10⟩⟩
          · intro τ8 y8 hB8 F8 g _ _ _
            have g1 := g.1
            exfalso
            omega
        · refine mq_c40 (-1) w hB7 ⟨by decide, hw, trivial⟩ ?_ ?_
          · intro τ8 y8 hB8 F8 g _ _ _
            have g1 := g.1
            exfalso
            omega
          · intro τ8 y8 hB8 F8 _ _ _ _
            have z2' : ¬ (ps_E (ts_T tp n) 500 ((ps_E (ts_T tp n) 500 i).2.1 + 1)).1 = 0 := by rw [hj]; exact z2
            rw [psM_2 z cs2 z2', hj]
            exact ⟨hB8, FQ.tr G7 (FQ.up (G := []) rfl F8), Or.inr ⟨z2, rfl, t7.fq (G := []) rfl F8⟩⟩
      have sv : cI τ3 33 = 4 → (-25) ≤ ts_T tp n j ∧ ts_T tp n j ≤ -16 ∧ ts_s (cI τ3 34) = ts_T tp n j := fun h => by
        rcases mi with q | q | q | q | q
        · omega
        · omega
        · exact ⟨q.1, q.2.1, q.2.2.2⟩
        · omega
        · omega
      refine mq_c6 (cI τ3 33) (cI τ3 34) (ts_P tp n j : Nat) u3 k3 hB3 ⟨gt, gv, by omega, trivial⟩ ⟨rfl, rfl, t3.2.1, trivial⟩ ?_ ?_ ?_ ?_ ?_
      · intro τ4 y4 hB4 F4 f _ _ m
        have f1 := f.1
        exact bad τ4 hB4 F4 (by omega) m.2.2.2.1 m.2.2.2.2.1
      · intro τ4 y4 hB4 F4 f rl _ m
        have f1 := f.1
        have s1 := sv (by omega)
        have w := ts_s_v s1.2.2 ⟨s1.1, s1.2.1⟩
        have r1 := rl.1
        have r2 := rl.2.1
        have r3 := rl.2.2.1
        exact bad τ4 hB4 F4 (by omega) m.2.2.2.1 m.2.2.2.2.1
      · intro τ4 y4 hB4 F4 f _ _ _
        have f1 := f.1
        have f2 := f.2.1
        have s1 := sv (by omega)
        have w := ts_s_v s1.2.2 ⟨s1.1, s1.2.1⟩
        exact good τ4 8 hB4 F4 (by decide) (by omega)
      · intro τ4 y4 hB4 F4 f _ _ _
        have f1 := f.1
        have f2 := f.2.1
        have s1 := sv (by omega)
        have w := ts_s_v s1.2.2 ⟨s1.1, s1.2.1⟩
        exact good τ4 7 hB4 F4 (by decide) (by omega)
      · intro τ4 y4 hB4 F4 f _ _ _
        have f1 := f.1
        have f2 := f.2.1
        have s1 := sv (by omega)
        have w := ts_s_v s1.2.2 ⟨s1.1, s1.2.1⟩
        exact good τ4 6 hB4 F4 (by decide) (by omega)
    · intro τ3 y3 hB3 F3 g _ _ _
      have g1 := g.1
      exfalso
      omega
  · refine mq_c2 (-1) v1 k1 hB2 ⟨by decide, trivial⟩ ?_ ?_
    · intro τ3 y3 u3 k3 hB3 F3 g _ _ _
      have g1 := g.1
      exfalso
      omega
    · intro τ3 y3 hB3 F3 _ _ _ _
      rw [psM_4 z]
      exact ⟨hB3, FQ.tr G2 (FQ.up (G := []) rfl F3), Or.inr ⟨z, rfl, t2.fq (G := []) rfl F3⟩⟩
end MSU
