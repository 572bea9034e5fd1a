/-! the model's parser against the grammar: conditions -/
abbrev FAm : List (Nat × Nat) := [(93, 31), (93, 32), (93, 33), (93, 34), (93, 42), (93, 43), (93, 45), (93, 46), (93, 47), (119, 9999), (120, 9999), (121, 9999)]
section MAN
variable {tp : Nat → Int} {n L : Nat} {kO kA : Nat → Int32}
def mGC (tp : Nat → Int) (n : Nat) (kO kA : Nat → Int32) (L f : Nat) : Prop := ∀ (o i k br : Nat) (c B : List Int) (τ : pm_S) (v3 : Value) (Q : Option Value → pm_S → Prop), o ≤ 8 → i ≤ L → 2 * (L - i) + 2 < f → k ≤ o → c.length + B.length + k ≤ i → nE B 9 → B.length + k ≤ 3 * o + 2 → br ≤ o → v3.category = 1 → an_GB pm_B τ → mt_B tp n τ → mt_T tp n τ i → mt_C kO kA τ c → st_R τ (B ++ List.replicate k 9) → cI τ 43 = (o : Int) →
  (∀ (τ' : pm_S) (u : Value), u.category = 1 → an_GB pm_B τ' → FQ FAm τ τ' → (ps_G (ts_T tp n) 500 f 0 o 0 i).1 = 0 → mt_T tp n τ' (ps_G (ts_T tp n) 500 f 0 o 0 i).2.1 → mt_C kO kA τ' (c ++ ((ps_G (ts_T tp n) 500 f 0 o 0 i).2.2 ++ List.replicate k (-6))) → st_R τ' B → cI τ' 43 = ((o - k : Nat) : Int) → Ok 193 27 7 [.ref 93, .int (Int32.ofInt (br : Int)), .int (Int32.ofInt 0), u] [] τ' Q) →
  (∀ (τ' : pm_S), an_GB pm_B τ' → FQ FAm τ τ' → (ps_G (ts_T tp n) 500 f 0 o 0 i).1 ≠ 0 → mt_F tp n kO kA τ' (ps_G (ts_T tp n) 500 f 0 o 0 i).1 (ps_G (ts_T tp n) 500 f 0 o 0 i).2.1 → Q (some (.int (Int32.ofInt (-1)))) τ') →
  Ok 193 27 7 [.ref 93, .int (Int32.ofInt (br : Int)), .int (Int32.ofInt 1), v3] [] τ Q
def mGA (tp : Nat → Int) (n : Nat) (kO kA : Nat → Int32) (L f : Nat) : Prop := ∀ (o w a i br : Nat) (c B : List Int) (τ : pm_S) (v3 : Value) (Q : Option Value → pm_S → Prop), o ≤ 8 → w ≤ 1 → a ≤ 1 → i ≤ L → 2 * (L - i) + 3 < f → c.length + B.length + w + a ≤ i → nE B 10 → nE B 11 → B.length ≤ 3 * o → br ≤ o → v3.category = 1 → an_GB pm_B τ → mt_B tp n τ → mt_T tp n τ i → mt_C kO kA τ c → st_R τ (B ++ (List.replicate w 11 ++ List.replicate a 10)) → cI τ 43 = (o : Int) →
  (∀ (τ' : pm_S) (u : Value), u.category = 1 → an_GB pm_B τ' → FQ FAm τ τ' → (ps_G (ts_T tp n) 500 f 1 o w i).1 = 0 → mt_T tp n τ' (ps_G (ts_T tp n) 500 f 1 o w i).2.1 → mt_C kO kA τ' (c ++ (List.replicate a (-5) ++ (ps_G (ts_T tp n) 500 f 1 o w i).2.2)) → st_R τ' B → cI τ' 43 = (o : Int) → Ok 193 27 100 [.ref 93, .int (Int32.ofInt (br : Int)), .int (Int32.ofInt 0), u] [] τ' Q) →
  (∀ (τ' : pm_S), an_GB pm_B τ' → FQ FAm τ τ' → (ps_G (ts_T tp n) 500 f 1 o w i).1 ≠ 0 → mt_F tp n kO kA τ' (ps_G (ts_T tp n) 500 f 1 o w i).1 (ps_G (ts_T tp n) 500 f 1 o w i).2.1 → Q (some (.int (Int32.ofInt (-1)))) τ') →
  Ok 193 27 7 [.ref 93, .int (Int32.ofInt (br : Int)), .int (Int32.ofInt 0), v3] [] τ Q
theorem rep_1 (k : Nat) (z : Int) (c d : List Int) : c ++ (d ++ List.replicate (k + 1) z) = c ++ ((d ++ [z]) ++ List.replicate k z) := by
  rw [List.append_assoc d [z]]
  rfl
set_option maxRecDepth 20000 in
theorem x_mgc {f : Nat} (hT : mt_L tp n L) (hC : mGC tp n kO kA L f) (hA : mGA tp n kO kA L f) : mGC tp n kO kA L (f + 1) := by
  intro o i k br c B τ v3 Q ho hi hf hk hc hE hlen hbr k3 hB hb ht hCc hR e43 hok hbad
  have hL := hT.1
  have hn := hb.1
  have tr := tk_r (tp := tp) (n := n) i
  have gt : 0 ≤ cI τ 33 ∧ cI τ 33 ≤ 4 := hB 93 33 (by decide)
  have gv : (-2147483648) ≤ cI τ 34 ∧ cI τ 34 ≤ 2147483647 := ai_rng _
  have gp := (ts_P_le (tp := tp) (n := n) i).1
  have mi := mtok_i ht.2.2 tr
  have lk : (B ++ List.replicate k (9 : Int)).length = B.length + k := by rw [List.length_append, List.length_replicate]
  -- a comparison
  have comp : ∀ (τ1 : pm_S) (u : Value), u.category = 1 → an_GB pm_B τ1 → FQ [(93, 43), (93, 46), (93, 47)] τ τ1 → cI τ1 43 = (o : Int) → ¬ ts_T tp n i = -6 → ¬ ts_T tp n i = -21 → Ok 193 27 50 [.ref 93, .int (Int32.ofInt (br : Int)), .int (Int32.ofInt 1), u] [.ref 93] τ1 Q := by
    intro τ1 u hu hB1 F1 a43 c1 c2
    have eM : ps_G (ts_T tp n) 500 (f + 1) 0 o 0 i = ps_M (ts_T tp n) 500 i := psG_m c1 c2
    rw [eM] at hok hbad
    have ok := psM_ok hT.2 (k := 500) hi (show L < 500 by omega)
    refine Ok.cv rfl rfl rfl rfl rfl rfl rfl ?_
    refine (x_mco i c hT hi (by omega) hB1 (hb.fq (G := [(93, 43), (93, 46), (93, 47)]) rfl F1) (ht.fq (G := [(93, 43), (93, 46), (93, 47)]) rfl F1) (hCc.fq (G := [(93, 43), (93, 46), (93, 47)]) rfl F1)).use (by decide) (fun r τ2 q => ?_)
    obtain ⟨hB2, F2, q⟩ := q
    have G2 : FQ FAm τ τ2 := FQ.tr (FQ.up (G := [(93, 43), (93, 46), (93, 47)]) rfl F1) (FQ.up (G := FTm) rfl F2)
    have b43 : cI τ2 43 = (o : Int) := (congrArg Int32.toInt (F2 93 43 rfl)).trans a43
    have R2 : st_R τ2 (B ++ List.replicate k 9) := (hR.fq (G := [(93, 43), (93, 46), (93, 47)]) rfl F1).fq (G := FTm) rfl F2
    rcases q with ⟨z, rfl, t2, C2⟩ | ⟨z, rfl, t2⟩
    · have ok2 := ok.2.2 z
      refine mq_y51 0 br u hu hB2 ⟨by decide, by omega, trivial⟩ ?_ ?_
      · intro τ3 y3 u3 d3 hB3 F3 _ _ _ _
        refine Ok.cv rfl rfl rfl rfl rfl rfl rfl ?_
        refine (x_set 9 (by decide) B hE k o (c ++ (ps_M (ts_T tp n) 500 i).2.2) (by rw [List.length_append]; omega) (fun _ => hk) ho hB3 (C2.fq (G := []) rfl F3) (R2.fq (G := []) rfl F3) ((congrArg Int32.toInt (F3 93 43 rfl)).trans b43)).use (by decide) (fun r τ4 q => ?_)
        obtain ⟨rfl, hB4, F4, C4, R4, o4⟩ := q
        refine mq_y58 br _ u3 rfl d3 hB4 ⟨by omega, trivial⟩ ?_
        intro τ5 y5 u5 d5 hB5 F5 _ _ _ _
        have C5 := C4.fq (G := []) rfl F5
        rw [List.append_assoc] at C5
        refine hok τ5 u5 d5 hB5 (FQ.tr G2 (FQ.tr (FQ.up (G := []) rfl F3) (FQ.tr (FQ.up (G := FSt) rfl F4) (FQ.up (G := []) rfl F5)))) z (((t2.fq (G := []) rfl F3).fq (G := FSt) rfl F4).fq (G := []) rfl F5) C5 (R4.fq (G := []) rfl F5) ?_
        have e5 : cI τ5 43 = cI τ4 43 := congrArg Int32.toInt (F5 93 43 rfl)
        rw [e5, o4, if_pos rfl]
        omega
      · intro τ3 y3 hB3 F3 g _ _ _
        have g1 := g.1
        exfalso
        omega
    · refine mq_y51 (-1) br u hu hB2 ⟨by decide, by omega, trivial⟩ ?_ ?_
      · intro τ3 y3 u3 d3 hB3 F3 g _ _ _
        have g1 := g.1
        exfalso
        omega
      · intro τ3 y3 hB3 F3 _ _ _ _
        exact hbad τ3 hB3 (FQ.tr G2 (FQ.up (G := []) rfl F3)) z (t2.fq (G := []) rfl F3)
  have sv : cI τ 33 = 4 → (-25) ≤ ts_T tp n i ∧ ts_T tp n i ≤ -16 ∧ ts_s (cI τ 34) = ts_T tp n i := fun h => by
    rcases mi with q | q | q | q | q
    · omega
    · omega
    · exact ⟨q.1, q.2.1, q.2.2.2⟩
    · omega
    · omega
  -- one more waits, the next token
  have push : ∀ (τ1 : pm_S) (w : Int) (br2 : Nat) (u : Value), u.category = 1 → 9 ≤ w ∧ w ≤ 12 → o ≤ 7 → br2 ≤ o + 1 → an_GB pm_B τ1 → FQ [(93, 43), (93, 46), (93, 47)] τ τ1 → cI τ1 43 = (o : Int) + 1 → (∀ (τ' : pm_S) (u' : Value), u'.category = 1 → an_GB pm_B τ' → FQ FAm τ τ' → mt_T tp n τ' (i + 1) → mt_C kO kA τ' c → st_R τ' (B ++ List.replicate k 9 ++ [w]) → cI τ' 43 = ((o + 1 : Nat) : Int) → Ok 193 27 7 [.ref 93, .int (Int32.ofInt (br2 : Int)), .int (Int32.ofInt 1), u'] [] τ' Q) → Ok 193 27 45 [.ref 93, .int (Int32.ofInt (br2 : Int)), .int (Int32.ofInt 1), u] [.int (Int32.ofInt w), .ref 93] τ1 Q := by
    intro τ1 w br2 u hu hw ho7 hb2 hB1 F1 a43 hQ
    refine Ok.cv rfl rfl rfl rfl rfl rfl rfl ?_
    refine (x_wai (B := B ++ List.replicate k 9) w hw (by omega) hB1 (hR.fq (G := [(93, 43), (93, 46), (93, 47)]) rfl F1)).use (by decide) (fun r τ2 q => ?_)
    obtain ⟨rfl, hB2, F2, R2⟩ := q
    refine mq_y46 br2 u hu hB2 ⟨by omega, trivial⟩ ?_
    intro τ3 y3 u3 d3 hB3 F3 _ _ _ _
    have G3 : FQ FAm τ τ3 := FQ.tr (FQ.up (G := [(93, 43), (93, 46), (93, 47)]) rfl F1) (FQ.tr (FQ.up (G := [(93, 45), (121, 9999)]) rfl F2) (FQ.up (G := []) rfl F3))
    have t3 : mt_T tp n τ3 i := ((ht.fq (G := [(93, 43), (93, 46), (93, 47)]) rfl F1).fq (G := [(93, 45), (121, 9999)]) rfl F2).fq (G := []) rfl F3
    have C3 : mt_C kO kA τ3 c := ((hCc.fq (G := [(93, 43), (93, 46), (93, 47)]) rfl F1).fq (G := [(93, 45), (121, 9999)]) rfl F2).fq (G := []) rfl F3
    refine Ok.cv rfl rfl rfl rfl rfl rfl rfl ?_
    refine (x_mna (i := i) hB3 (hb.fq (G := FAm) rfl G3) t3).use (by decide) (fun r τ4 q => ?_)
    obtain ⟨rfl, hB4, F4, t4⟩ := q
    refine mq_y48 br2 u3 d3 hB4 ⟨by omega, trivial⟩ ?_
    intro τ5 y5 u5 d5 hB5 F5 _ _ _ _
    refine hQ τ5 u5 d5 hB5 (FQ.tr G3 (FQ.tr (FQ.up (G := FMr) rfl F4) (FQ.up (G := []) rfl F5))) (t4.fq (G := []) rfl F5) ((C3.fq (G := FMr) rfl F4).fq (G := []) rfl F5) (((R2.fq (G := []) rfl F3).fq (G := FMr) rfl F4).fq (G := []) rfl F5) ?_
    have e : cI τ5 43 = cI τ1 43 := congrArg Int32.toInt ((F5 93 43 rfl).trans ((F4 93 43 rfl).trans ((F3 93 43 rfl).trans (F2 93 43 rfl))))
    rw [e, a43]
    omega
  refine mq_y7 (cI τ 33) (cI τ 34) (ts_P tp n i : Nat) o br v3 k3 hB ⟨gt, gv, by omega, by omega, by omega, trivial⟩ ⟨rfl, rfl, ht.2.1, e43, trivial⟩ ?_ ?_ ?_ ?_ ?_ ?_ ?_
  · intro τ1 y1 hB1 F1 gg rl _ m
    have f1 := gg.1
    have r1 := rl.1
    exact comp τ1 _ rfl hB1 F1 m.2.2.2.1 (by omega) (by omega)
  · intro τ1 y1 hB1 F1 gg rl _ m
    have f1 := gg.1
    have r1 := rl.1
    have s1 := sv (by omega)
    have w := ts_s_v s1.2.2 ⟨s1.1, s1.2.1⟩
    exact comp τ1 _ rfl hB1 F1 m.2.2.2.1 (by omega) (by omega)
  · intro τ1 y1 hB1 F1 gg _ _ m
    have f1 := gg.1
    have f2 := gg.2.1
    have f4 := gg.2.2.2.1
    have s1 := sv (by omega)
    have w := ts_s_v s1.2.2 ⟨s1.1, s1.2.1⟩
    have c1 : ts_T tp n i = -21 := by omega
    have d1 : ¬ 8 ≤ o := by omega
    have iL : i < L := ml_lt hT (by omega)
    refine push τ1 12 (br + 1) _ rfl (by decide) (by omega) (by omega) hB1 F1 m.2.2.2.1 (fun τ2 u2 d2 hB2 G2 t2 C2 R2 o2 => ?_)
    have lB : (B ++ List.replicate k (9 : Int) ++ [12]).length = B.length + k + 1 := by rw [List.length_append, lk, List.length_singleton]
    generalize hB' : B ++ List.replicate k (9 : Int) ++ [12] = B' at R2 lB
    have n9 : nE B' 9 := by rw [← hB']; exact nE_s _ (by decide)
    have n10 : nE B' 10 := by rw [← hB']; exact nE_s _ (by decide)
    have n11 : nE B' 11 := by rw [← hB']; exact nE_s _ (by decide)
    have ga := (psG_ok hT.2 (show L < 500 by omega) f (o + 1) 0 (i + 1) (by omega)).1 (by omega)
    refine hC (o + 1) (i + 1) 0 (br + 1) c B' τ2 u2 Q (by omega) (by omega) (by omega) (by omega) (by omega) n9 (by omega) (by omega) d2 hB2 (hb.fq (G := FAm) rfl G2) t2 C2 (by rw [List.replicate_zero, List.append_nil]; exact R2) o2 ?_ ?_
    · intro τ3 u3 d3 hB3 F3 z3 t3 C3 R3 o3
      have ga2 := ga.2.2 z3
      have G3 : FQ FAm τ τ3 := FQ.tr G2 F3
      have C3 : mt_C kO kA τ3 (c ++ (ps_G (ts_T tp n) 500 f 0 (o + 1) 0 (i + 1)).2.2) := by
        rw [List.replicate_zero, List.append_nil] at C3
        exact C3
      have l3 : (c ++ (ps_G (ts_T tp n) 500 f 0 (o + 1) 0 (i + 1)).2.2).length = c.length + (ps_G (ts_T tp n) 500 f 0 (o + 1) 0 (i + 1)).2.2.length := List.length_append
      refine hA (o + 1) 0 0 (ps_G (ts_T tp n) 500 f 0 (o + 1) 0 (i + 1)).2.1 (br + 1) (c ++ (ps_G (ts_T tp n) 500 f 0 (o + 1) 0 (i + 1)).2.2) B' τ3 u3 Q (by omega) (by decide) (by decide) ga.2.1 (by omega) (by omega) n10 n11 (by omega) (by omega) d3 hB3 (hb.fq (G := FAm) rfl G3) t3 C3 (by show st_R τ3 (B' ++ []); rw [List.append_nil]; exact R3) o3 ?_ ?_
      · intro τ4 u4 d4 hB4 F4 z4 t4 C4 R4 o4
        have G4 : FQ FAm τ τ4 := FQ.tr G3 F4
        have zk : (ps_K (ts_T tp n) 500 f (o + 1) (i + 1)).1 = 0 := by rw [psK_0 z3]; exact z4
        have k1 : (ps_K (ts_T tp n) 500 f (o + 1) (i + 1)).2.1 = (ps_G (ts_T tp n) 500 f 1 (o + 1) 0 (ps_G (ts_T tp n) 500 f 0 (o + 1) 0 (i + 1)).2.1).2.1 := by rw [psK_0 z3]
        have C4 : mt_C kO kA τ4 (c ++ (ps_K (ts_T tp n) 500 f (o + 1) (i + 1)).2.2) := by
          rw [psK_0 z3]
          rw [List.append_assoc] at C4
          exact C4
        rw [← k1] at t4
        have kk := psK_ok (o := o + 1) hT.2 (show L < 500 by omega) (show i + 1 ≤ L by omega) (show 2 * (L - (i + 1)) + 2 < f by omega)
        have kk2 := kk.2.2 zk
        generalize hj : (ps_K (ts_T tp n) 500 f (o + 1) (i + 1)).2.1 = j at t4 kk kk2
        have tr4 := tk_r (tp := tp) (n := n) j
        have gt4 : 0 ≤ cI τ4 33 ∧ cI τ4 33 ≤ 4 := hB4 93 33 (by decide)
        have gv4 : (-2147483648) ≤ cI τ4 34 ∧ cI τ4 34 ≤ 2147483647 := ai_rng _
        have gp4 := (ts_P_le (tp := tp) (n := n) j).1
        have mi4 := mtok_i t4.2.2 tr4
        have bad : ∀ τ5 : pm_S, an_GB pm_B τ5 → FQ [(93, 46), (93, 47)] τ4 τ5 → ¬ ts_T tp n j = -22 → cI τ5 46 = 1 → cI τ5 47 = ((ts_P tp n j : Nat) : Int) → Q (some (.int (Int32.ofInt (-1)))) τ5 := by
          intro τ5 hB5 F5 q e1 e2
          have eb := psG_b2 (w := 0) c1 d1 zk (by rw [hj]; exact q)
          have h := hbad τ5 hB5 (FQ.tr G4 (FQ.up (G := [(93, 46), (93, 47)]) rfl F5))
          rw [eb, hj] at h
          exact h (show (1 : Nat) ≠ 0 by decide) ⟨⟨e1, e2⟩, (C4.fq (G := [(93, 46), (93, 47)]) rfl F5).2.2⟩
        refine mq_y100 (cI τ4 33) (cI τ4 34) (ts_P tp n j : Nat) (br + 1 : Nat) u4 d4 hB4 ⟨gt4, gv4, by omega, by omega, trivial⟩ ⟨rfl, rfl, t4.2.1, trivial⟩ ?_ ?_ ?_ ?_
        · intro τ5 y5 hB5 F5 g _ _ m5
          have g1 := g.1
          exact bad τ5 hB5 F5 (by omega) m5.2.2.2.1 m5.2.2.2.2.1
        · intro τ5 y5 hB5 F5 g rl5 _ m5
          have g1 := g.1
          have r5 := rl5.1
          refine bad τ5 hB5 F5 (fun q => ?_) m5.2.2.2.1 m5.2.2.2.2.1
          rcases mi4 with q4 | q4 | q4 | q4 | q4
          · omega
          · omega
          · have w4 := ts_s_v q4.2.2.2 ⟨q4.1, q4.2.1⟩
            omega
          · omega
          · omega
        · intro τ5 y5 u5 d5 hB5 F5 g _ _ m5
          have g1 := g.1
          have g2 := g.2.1
          have tj : ts_T tp n j = -22 := by
            rcases mi4 with q4 | q4 | q4 | q4 | q4
            · omega
            · omega
            · have w4 := ts_s_v q4.2.2.2 ⟨q4.1, q4.2.1⟩
              omega
            · omega
            · omega
          have jL : j < L := ml_lt hT (by omega)
          have G5 : FQ FAm τ τ5 := FQ.tr G4 (FQ.up (G := [(93, 46), (93, 47)]) rfl F5)
          have R5 := R4.fq (G := [(93, 46), (93, 47)]) rfl F5
          have o5 : cI τ5 43 = ((o + 1 : Nat) : Int) := (congrArg Int32.toInt (F5 93 43 rfl)).trans o4
          refine mq_y112 (br + 1 : Nat) B'.length (o + 1 : Nat) u5 d5 hB5 ⟨by omega, by omega, by omega, trivial⟩ ⟨R5.1, o5, trivial⟩ ?_
          intro τ6 y6 u6 d6 hB6 F6 _ _ _ m6
          have R6 : st_R τ6 (B ++ List.replicate k 9) := by
            refine ⟨?_, by omega, fun x hx => ?_⟩
            · rw [show cI τ6 45 = (B'.length : Int) + (-1) from m6.2.1, lB, lk]
              omega
            · have e : sI τ6 121 x = sI τ5 121 x := congrArg Int32.toInt (F6 121 x rfl)
              rw [e, R5.2.2 x (by omega), ← hB', gd_l hx]
          have o6 : cI τ6 43 = (o : Int) := by
            rw [show cI τ6 43 = ((o + 1 : Nat) : Int) + (-1) from m6.1]
            omega
          have C6 := (C4.fq (G := [(93, 46), (93, 47)]) rfl F5).fq (G := [(93, 45), (93, 43)]) rfl F6
          have t6 := (t4.fq (G := [(93, 46), (93, 47)]) rfl F5).fq (G := [(93, 45), (93, 43)]) rfl F6
          rw [show ((br + 1 : Nat) : Int) + (-1) = (br : Int) by omega]
          refine Ok.cv rfl rfl rfl rfl rfl rfl rfl ?_
          refine (x_set 9 (by decide) B hE k o (c ++ (ps_K (ts_T tp n) 500 f (o + 1) (i + 1)).2.2) (by rw [List.length_append]; omega) (fun _ => hk) ho hB6 C6 R6 o6).use (by decide) (fun r τ7 q => ?_)
          obtain ⟨rfl, hB7, F7, C7, R7, o7⟩ := q
          refine mq_y131 br u6 d6 hB7 ⟨by omega, trivial⟩ ?_
          intro τ8 y8 u8 d8 hB8 F8 _ _ _ _
          have G8 : FQ FAm τ τ8 := FQ.tr G5 (FQ.tr (FQ.up (G := [(93, 45), (93, 43)]) rfl F6) (FQ.tr (FQ.up (G := FSt) rfl F7) (FQ.up (G := []) rfl F8)))
          refine Ok.cv rfl rfl rfl rfl rfl rfl rfl ?_
          refine (x_mna (i := j) hB8 (hb.fq (G := FAm) rfl G8) ((t6.fq (G := FSt) rfl F7).fq (G := []) rfl F8)).use (by decide) (fun r τ9 q => ?_)
          obtain ⟨rfl, hB9, F9, t9⟩ := q
          refine mq_y133 br u8 d8 hB9 ⟨by omega, trivial⟩ ?_
          intro τ10 y10 u10 d10 hB10 F10 _ _ _ _
          have G10 : FQ FAm τ τ10 := FQ.tr G8 (FQ.tr (FQ.up (G := FMr) rfl F9) (FQ.up (G := []) rfl F10))
          have eb := psG_b1 (w := 0) c1 d1 zk (by rw [hj]; exact tj)
          have h := hok τ10 u10 d10 hB10 G10
          rw [eb, hj] at h
          have C10 := ((C7.fq (G := []) rfl F8).fq (G := FMr) rfl F9).fq (G := []) rfl F10
          rw [List.append_assoc] at C10
          refine h rfl (t9.fq (G := []) rfl F10) C10 (((R7.fq (G := []) rfl F8).fq (G := FMr) rfl F9).fq (G := []) rfl F10) ?_
          have e10 : cI τ10 43 = cI τ7 43 := congrArg Int32.toInt ((F10 93 43 rfl).trans ((F9 93 43 rfl).trans (F8 93 43 rfl)))
          rw [e10, o7, if_pos rfl]
          omega
        · intro τ5 y5 hB5 F5 g _ _ _
          have g4 := g.2.2.2.1
          exfalso
          omega
      · intro τ4 hB4 F4 z4 t4
        have zk : ¬ (ps_K (ts_T tp n) 500 f (o + 1) (i + 1)).1 = 0 := by rw [psK_0 z3]; exact z4
        have eb := psG_b3 (w := 0) c1 d1 zk
        have h := hbad τ4 hB4 (FQ.tr G3 F4)
        rw [eb.1, eb.2, psK_0 z3] at h
        exact h z4 t4
    · intro τ3 hB3 F3 z3 t3
      have zk : ¬ (ps_K (ts_T tp n) 500 f (o + 1) (i + 1)).1 = 0 := by rw [psK_1 z3]; exact z3
      have eb := psG_b3 (w := 0) c1 d1 zk
      have h := hbad τ3 hB3 (FQ.tr G2 F3)
      rw [eb.1, eb.2, psK_1 z3] at h
      exact h z3 t3
  · intro τ1 y1 hB1 F1 gg _ _ m
    have f1 := gg.1
    have f2 := gg.2.1
    have f4 := gg.2.2.2.1
    have s1 := sv (by omega)
    have w := ts_s_v s1.2.2 ⟨s1.1, s1.2.1⟩
    have c1 : ts_T tp n i = -21 := by omega
    have h := hbad τ1 hB1 (FQ.up (G := [(93, 43), (93, 46), (93, 47)]) rfl F1)
    rw [psG_b8 c1 (show 8 ≤ o by omega)] at h
    exact h (show (3 : Nat) ≠ 0 by decide) ⟨⟨m.2.2.2.2.1, m.2.2.2.2.2.1⟩, (hCc.fq (G := [(93, 43), (93, 46), (93, 47)]) rfl F1).2.2⟩
  · intro τ1 y1 hB1 F1 gg rl _ m
    have f1 := gg.1
    have r1 := rl.1
    exact comp τ1 _ rfl hB1 F1 m.2.2.2.1 (by omega) (by omega)
  · intro τ1 y1 hB1 F1 gg _ _ m
    have f1 := gg.1
    have f2 := gg.2.1
    have f4 := gg.2.2.2.1
    have c1 : ts_T tp n i = -6 := by omega
    have d1 : ¬ 8 ≤ o := by omega
    have iL : i < L := ml_lt hT (by omega)
    refine push τ1 9 br _ rfl (by decide) (by omega) (by omega) hB1 F1 m.2.2.2.1 (fun τ2 u2 d2 hB2 G2 t2 C2 R2 o2 => ?_)
    rw [← rep_s] at R2
    refine hC (o + 1) (i + 1) (k + 1) br c B τ2 u2 Q (by omega) (by omega) (by omega) (by omega) (by omega) hE (by omega) (by omega) d2 hB2 (hb.fq (G := FAm) rfl G2) t2 C2 R2 o2 ?_ ?_
    · intro τ3 u3 d3 hB3 F3 z3 t3 C3 R3 o3
      have h := hok τ3 u3 d3 hB3 (FQ.tr G2 F3)
      rw [psG_n1 c1 d1 z3] at h
      rw [rep_1] at C3
      refine h rfl t3 C3 R3 ?_
      rw [o3, show o + 1 - (k + 1) = o - k by omega]
    · intro τ3 hB3 F3 z3 t3
      have h := hbad τ3 hB3 (FQ.tr G2 F3)
      rw [psG_n2 c1 d1 z3] at h
      exact h z3 t3
  · intro τ1 y1 hB1 F1 gg _ _ m
    have f1 := gg.1
    have f2 := gg.2.1
    have f4 := gg.2.2.2.1
    have c1 : ts_T tp n i = -6 := by omega
    have h := hbad τ1 hB1 (FQ.up (G := [(93, 43), (93, 46), (93, 47)]) rfl F1)
    rw [psG_n8 c1 (show 8 ≤ o by omega)] at h
    exact h (show (3 : Nat) ≠ 0 by decide) ⟨⟨m.2.2.2.2.1, m.2.2.2.2.2.1⟩, (hCc.fq (G := [(93, 43), (93, 46), (93, 47)]) rfl F1).2.2⟩
end MAN
