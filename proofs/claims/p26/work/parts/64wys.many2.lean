/-! the model's parser against the grammar: what follows a condition -/
section MAN2
variable {tp : Nat → Int} {n L : Nat} {kO kA : Nat → Int32}
theorem rep01 {w : Nat} (hw : w ≤ 1) (z : Int) : List.replicate w z = if w = 1 then [z] else [] := by
  rcases (show w = 0 ∨ w = 1 by omega) with h | h <;> rw [h] <;> rfl
theorem nE_r {B : List Int} {w : Nat} (hw : w ≤ 1) (h : nE B 10) : nE (B ++ List.replicate w 11) 10 := by
  rcases (show w = 0 ∨ w = 1 by omega) with e | e
  · rw [e, List.replicate_zero, List.append_nil]
    exact h
  · rw [e]
    exact nE_s B (by decide)
theorem nE_r9 {B : List Int} (b : Int) (h : b ≠ 9) : nE (B ++ [b]) 9 := nE_s B h
set_option maxRecDepth 20000 in
theorem x_mga {f : Nat} (hT : mt_L tp n L) (hC : mGC tp n kO kA L f) (hA : mGA tp n kO kA L f) : mGA tp n kO kA L (f + 1) := by
  intro o w a i br c B τ v3 Q ho hw ha hi hf hc h10 h11 hlen hbr k3 hB hb ht hCc hR e43 hok hbad
  have hL := hT.1
  have hn := hb.1
  have tr := tk_r (tp := tp) (n := n) i
  have gt : 0 ≤ cI τ 33 ∧ cI τ 33 ≤ 4 := hB 93 33 (by decide)
  have gv : (-2147483648) ≤ cI τ 34 ∧ cI τ 34 ≤ 2147483647 := ai_rng _
  have gp := (ts_P_le (tp := tp) (n := n) i).1
  have mi := mtok_i ht.2.2 tr
  have lw : (B ++ List.replicate w (11 : Int)).length = B.length + w := by rw [List.length_append, List.length_replicate]
  have la : (c ++ List.replicate a (-5 : Int)).length = c.length + a := by rw [List.length_append, List.length_replicate]
  rw [← List.append_assoc] at hR
  -- what was joined by and is told
  have ands : ∀ (τ1 : pm_S), an_GB pm_B τ1 → FQ [] τ τ1 → Sp 192 8 [.ref 93, .int (Int32.ofInt 10)] τ1 (fun r τ' => r = none ∧ an_GB pm_B τ' ∧ FQ FAm τ τ' ∧ mt_T tp n τ' i ∧ mt_C kO kA τ' (c ++ List.replicate a (-5)) ∧ st_R τ' (B ++ List.replicate w 11) ∧ cI τ' 43 = (o : Int)) := fun τ1 hB1 F1 =>
    (x_set 10 (by decide) (B ++ List.replicate w 11) (nE_r hw h10) a o c (by omega) (fun z => absurd z (by decide)) ho hB1 (hCc.fq (G := []) rfl F1) (hR.fq (G := []) rfl F1) ((congrArg Int32.toInt (F1 93 43 rfl)).trans e43)).use (Nat.le_refl _) (fun r τ' q => ⟨q.1, q.2.1, FQ.tr (FQ.up (G := []) rfl F1) (FQ.up (G := FSt) rfl q.2.2.1), (ht.fq (G := []) rfl F1).fq (G := FSt) rfl q.2.2.1, q.2.2.2.1, q.2.2.2.2.1, by rw [q.2.2.2.2.2, if_neg (by decide)]; omega⟩)
  -- what was joined by or is told
  have ors : ∀ (τ1 : pm_S), an_GB pm_B τ1 → FQ FAm τ τ1 → mt_T tp n τ1 i → mt_C kO kA τ1 (c ++ List.replicate a (-5)) → st_R τ1 (B ++ List.replicate w 11) → cI τ1 43 = (o : Int) → Sp 192 8 [.ref 93, .int (Int32.ofInt 11)] τ1 (fun r τ' => r = none ∧ an_GB pm_B τ' ∧ FQ FAm τ τ' ∧ mt_T tp n τ' i ∧ mt_C kO kA τ' (c ++ List.replicate a (-5) ++ List.replicate w (-4)) ∧ st_R τ' B ∧ cI τ' 43 = (o : Int)) := fun τ1 hB1 G1 t1 C1 R1 o1 =>
    (x_set 11 (by decide) B h11 w o (c ++ List.replicate a (-5)) (by omega) (fun z => absurd z (by decide)) ho hB1 C1 R1 o1).use (Nat.le_refl _) (fun r τ' q => ⟨q.1, q.2.1, FQ.tr G1 (FQ.up (G := FSt) rfl q.2.2.1), t1.fq (G := FSt) rfl q.2.2.1, q.2.2.2.1, q.2.2.2.2.1, by rw [q.2.2.2.2.2, if_neg (by decide)]; omega⟩)
  have fin : ∀ (τ1 : pm_S) (u : Value), u.category = 1 → an_GB pm_B τ1 → FQ [] τ τ1 → ¬ ts_T tp n i = -4 → ¬ ts_T tp n i = -5 → Ok 193 27 96 [.ref 93, .int (Int32.ofInt (br : Int)), .int (Int32.ofInt 0), u] [.int (Int32.ofInt 10), .ref 93] τ1 Q := by
    intro τ1 u hu hB1 F1 c1 c2
    rw [psG_e c1 c2] at hok
    refine Ok.cv rfl rfl rfl rfl rfl rfl rfl ?_
    refine (ands τ1 hB1 F1).use (by decide) (fun r τ2 q => ?_)
    obtain ⟨rfl, hB2, G2, t2, C2, R2, o2⟩ := q
    refine mq_y97 br u hu hB2 ⟨by omega, trivial⟩ ?_
    intro τ3 y3 u3 d3 hB3 F3 _ _ _ _
    refine Ok.cv rfl rfl rfl rfl rfl rfl rfl ?_
    refine (ors τ3 hB3 (FQ.tr G2 (FQ.up (G := []) rfl F3)) (t2.fq (G := []) rfl F3) (C2.fq (G := []) rfl F3) (R2.fq (G := []) rfl F3) ((congrArg Int32.toInt (F3 93 43 rfl)).trans o2)).use (by decide) (fun r τ4 q => ?_)
    obtain ⟨rfl, hB4, G4, t4, C4, R4, o4⟩ := q
    rw [List.append_assoc, rep01 hw (-4)] at C4
    exact hok τ4 u3 d3 hB4 G4 rfl t4 C4 R4 o4
  refine mq_y7b (cI τ 33) (cI τ 34) (ts_P tp n i : Nat) br v3 k3 hB ⟨gt, gv, by omega, by omega, trivial⟩ ⟨rfl, rfl, ht.2.1, trivial⟩ ?_ ?_ ?_ ?_
  · intro τ1 y1 u1 d1 hB1 F1 gg rl _ _
    have r1 := rl.1
    exact fin τ1 u1 d1 hB1 F1 (by omega) (by omega)
  · intro τ1 y1 u1 d1 hB1 F1 gg rl _ _
    have r1 := rl.1
    have r2 := rl.2.1
    exact fin τ1 u1 d1 hB1 F1 (by omega) (by omega)
  · intro τ1 y1 u1 d1 hB1 F1 gg _ _ _
    have f1 := gg.1
    have f2 := gg.2.1
    have c1 : ts_T tp n i = -4 := by omega
    have iL : i < L := ml_lt hT (by omega)
    refine Ok.cv rfl rfl rfl rfl rfl rfl rfl ?_
    refine (ands τ1 hB1 F1).use (by decide) (fun r τ2 q => ?_)
    obtain ⟨rfl, hB2, G2, t2, C2, R2, o2⟩ := q
    refine mq_y83 br u1 d1 hB2 ⟨by omega, trivial⟩ ?_
    intro τ3 y3 u3 d3 hB3 F3 _ _ _ _
    refine Ok.cv rfl rfl rfl rfl rfl rfl rfl ?_
    refine (ors τ3 hB3 (FQ.tr G2 (FQ.up (G := []) rfl F3)) (t2.fq (G := []) rfl F3) (C2.fq (G := []) rfl F3) (R2.fq (G := []) rfl F3) ((congrArg Int32.toInt (F3 93 43 rfl)).trans o2)).use (by decide) (fun r τ4 q => ?_)
    obtain ⟨rfl, hB4, G4, t4, C4, R4, o4⟩ := q
    refine mq_y86 br u3 d3 hB4 ⟨by omega, trivial⟩ ?_
    intro τ5 y5 u5 d5 hB5 F5 _ _ _ _
    refine Ok.cv rfl rfl rfl rfl rfl rfl rfl ?_
    refine (x_wai (B := B) 11 (by decide) (by omega) hB5 (R4.fq (G := []) rfl F5)).use (by decide) (fun r τ6 q => ?_)
    obtain ⟨rfl, hB6, F6, R6⟩ := q
    refine mq_y89 br u5 d5 hB6 ⟨by omega, trivial⟩ ?_
    intro τ7 y7 u7 d7 hB7 F7 _ _ _ _
    have G7 : FQ FAm τ τ7 := FQ.tr G4 (FQ.tr (FQ.up (G := []) rfl F5) (FQ.tr (FQ.up (G := [(93, 45), (121, 9999)]) rfl F6) (FQ.up (G := []) rfl F7)))
    refine Ok.cv rfl rfl rfl rfl rfl rfl rfl ?_
    refine (x_mna (i := i) hB7 (hb.fq (G := FAm) rfl G7) (((t4.fq (G := []) rfl F5).fq (G := [(93, 45), (121, 9999)]) rfl F6).fq (G := []) rfl F7)).use (by decide) (fun r τ8 q => ?_)
    obtain ⟨rfl, hB8, F8, t8⟩ := q
    refine mq_y91 br _ u7 rfl d7 hB8 ⟨by omega, trivial⟩ ?_
    intro τ9 y9 u9 d9 hB9 F9 _ _ _ _
    have G9 : FQ FAm τ τ9 := FQ.tr G7 (FQ.tr (FQ.up (G := FMr) rfl F8) (FQ.up (G := []) rfl F9))
    have C9 := ((((C4.fq (G := []) rfl F5).fq (G := [(93, 45), (121, 9999)]) rfl F6).fq (G := []) rfl F7).fq (G := FMr) rfl F8).fq (G := []) rfl F9
    have R9 := ((R6.fq (G := []) rfl F7).fq (G := FMr) rfl F8).fq (G := []) rfl F9
    have o9 : cI τ9 43 = (o : Int) := (congrArg Int32.toInt ((F9 93 43 rfl).trans ((F8 93 43 rfl).trans ((F7 93 43 rfl).trans ((F6 93 43 rfl).trans (F5 93 43 rfl)))))).trans o4
    have lc : (c ++ List.replicate a (-5 : Int) ++ List.replicate w (-4)).length = c.length + a + w := by rw [List.length_append, la, List.length_replicate]
    have lB : (B ++ [(11 : Int)]).length = B.length + 1 := by rw [List.length_append, List.length_singleton]
    have ga := (psG_ok hT.2 (show L < 500 by omega) f o 0 (i + 1) (by omega)).1 (by omega)
    refine hC o (i + 1) 0 br _ (B ++ [11]) τ9 u9 Q ho (by omega) (by omega) (by omega) (by omega) (nE_s B (by decide)) (by omega) hbr d9 hB9 (hb.fq (G := FAm) rfl G9) (t8.fq (G := []) rfl F9) C9 (by rw [List.replicate_zero, List.append_nil]; exact R9) o9 ?_ ?_
    · intro τ10 u10 d10 hB10 F10 z10 t10 C10 R10 o10
      have ga2 := ga.2.2 z10
      have G10 : FQ FAm τ τ10 := FQ.tr G9 F10
      rw [List.replicate_zero, List.append_nil] at C10
      have l10 : (c ++ List.replicate a (-5 : Int) ++ List.replicate w (-4) ++ (ps_G (ts_T tp n) 500 f 0 o 0 (i + 1)).2.2).length = c.length + a + w + (ps_G (ts_T tp n) 500 f 0 o 0 (i + 1)).2.2.length := by rw [List.length_append, lc]
      refine hA o 1 0 (ps_G (ts_T tp n) 500 f 0 o 0 (i + 1)).2.1 br _ B τ10 u10 Q ho (by decide) (by decide) ga.2.1 (by omega) (by omega) h10 h11 hlen hbr d10 hB10 (hb.fq (G := FAm) rfl G10) t10 C10 R10 o10 ?_ ?_
      · intro τ11 u11 d11 hB11 F11 z11 t11 C11 R11 o11
        have h := hok τ11 u11 d11 hB11 (FQ.tr G10 F11)
        rw [psG_or c1 z10] at h
        refine h z11 t11 ?_ R11 o11
        rw [rep01 hw (-4), List.append_assoc, List.append_assoc, List.append_assoc] at C11
        exact C11
      · intro τ11 hB11 F11 z11 t11
        have h := hbad τ11 hB11 (FQ.tr G10 F11)
        rw [psG_or c1 z10] at h
        exact h z11 t11
    · intro τ10 hB10 F10 z10 t10
      have h := hbad τ10 hB10 (FQ.tr G9 F10)
      rw [psG_or2 c1 z10] at h
      exact h z10 t10
  · intro τ1 y1 u1 d1 hB1 F1 gg _ _ _
    have f1 := gg.1
    have f2 := gg.2.1
    have c1 : ts_T tp n i = -5 := by omega
    have iL : i < L := ml_lt hT (by omega)
    refine Ok.cv rfl rfl rfl rfl rfl rfl rfl ?_
    refine (ands τ1 hB1 F1).use (by decide) (fun r τ2 q => ?_)
    obtain ⟨rfl, hB2, G2, t2, C2, R2, o2⟩ := q
    refine mq_y68 br u1 d1 hB2 ⟨by omega, trivial⟩ ?_
    intro τ5 y5 u5 d5 hB5 F5 _ _ _ _
    refine Ok.cv rfl rfl rfl rfl rfl rfl rfl ?_
    refine (x_wai (B := B ++ List.replicate w 11) 10 (by decide) (by omega) hB5 (R2.fq (G := []) rfl F5)).use (by decide) (fun r τ6 q => ?_)
    obtain ⟨rfl, hB6, F6, R6⟩ := q
    refine mq_y71 br u5 d5 hB6 ⟨by omega, trivial⟩ ?_
    intro τ7 y7 u7 d7 hB7 F7 _ _ _ _
    have G7 : FQ FAm τ τ7 := FQ.tr G2 (FQ.tr (FQ.up (G := []) rfl F5) (FQ.tr (FQ.up (G := [(93, 45), (121, 9999)]) rfl F6) (FQ.up (G := []) rfl F7)))
    refine Ok.cv rfl rfl rfl rfl rfl rfl rfl ?_
    refine (x_mna (i := i) hB7 (hb.fq (G := FAm) rfl G7) (((t2.fq (G := []) rfl F5).fq (G := [(93, 45), (121, 9999)]) rfl F6).fq (G := []) rfl F7)).use (by decide) (fun r τ8 q => ?_)
    obtain ⟨rfl, hB8, F8, t8⟩ := q
    refine mq_y73 br _ u7 rfl d7 hB8 ⟨by omega, trivial⟩ ?_
    intro τ9 y9 u9 d9 hB9 F9 _ _ _ _
    have G9 : FQ FAm τ τ9 := FQ.tr G7 (FQ.tr (FQ.up (G := FMr) rfl F8) (FQ.up (G := []) rfl F9))
    have C9 := ((((C2.fq (G := []) rfl F5).fq (G := [(93, 45), (121, 9999)]) rfl F6).fq (G := []) rfl F7).fq (G := FMr) rfl F8).fq (G := []) rfl F9
    have R9 := ((R6.fq (G := []) rfl F7).fq (G := FMr) rfl F8).fq (G := []) rfl F9
    have o9 : cI τ9 43 = (o : Int) := (congrArg Int32.toInt ((F9 93 43 rfl).trans ((F8 93 43 rfl).trans ((F7 93 43 rfl).trans ((F6 93 43 rfl).trans (F5 93 43 rfl)))))).trans o2
    have lB : (B ++ List.replicate w (11 : Int) ++ [10]).length = B.length + w + 1 := by rw [List.length_append, lw, List.length_singleton]
    have ga := (psG_ok hT.2 (show L < 500 by omega) f o 0 (i + 1) (by omega)).1 (by omega)
    refine hC o (i + 1) 0 br _ (B ++ List.replicate w 11 ++ [10]) τ9 u9 Q ho (by omega) (by omega) (by omega) (by omega) (nE_s _ (by decide)) (by omega) hbr d9 hB9 (hb.fq (G := FAm) rfl G9) (t8.fq (G := []) rfl F9) C9 (by rw [List.replicate_zero, List.append_nil]; exact R9) o9 ?_ ?_
    · intro τ10 u10 d10 hB10 F10 z10 t10 C10 R10 o10
      have ga2 := ga.2.2 z10
      have G10 : FQ FAm τ τ10 := FQ.tr G9 F10
      rw [List.replicate_zero, List.append_nil] at C10
      have l10 : (c ++ List.replicate a (-5 : Int) ++ (ps_G (ts_T tp n) 500 f 0 o 0 (i + 1)).2.2).length = c.length + a + (ps_G (ts_T tp n) 500 f 0 o 0 (i + 1)).2.2.length := by rw [List.length_append, la]
      refine hA o w 1 (ps_G (ts_T tp n) 500 f 0 o 0 (i + 1)).2.1 br _ B τ10 u10 Q ho hw (by decide) ga.2.1 (by omega) (by omega) h10 h11 hlen hbr d10 hB10 (hb.fq (G := FAm) rfl G10) t10 C10 (by rw [← List.append_assoc]; exact R10) o10 ?_ ?_
      · intro τ11 u11 d11 hB11 F11 z11 t11 C11 R11 o11
        have h := hok τ11 u11 d11 hB11 (FQ.tr G10 F11)
        rw [psG_an c1 z10] at h
        refine h z11 t11 ?_ R11 o11
        rw [List.append_assoc, List.append_assoc] at C11
        exact C11
      · intro τ11 hB11 F11 z11 t11
        have h := hbad τ11 hB11 (FQ.tr G10 F11)
        rw [psG_an c1 z10] at h
        exact h z11 t11
    · intro τ10 hB10 F10 z10 t10
      have h := hbad τ10 hB10 (FQ.tr G9 F10)
      rw [psG_an2 c1 z10] at h
      exact h z10 t10
theorem x_mG (hT : mt_L tp n L) : ∀ f, mGC tp n kO kA L f ∧ mGA tp n kO kA L f
  | 0 => ⟨fun o i k br c B τ v3 Q _ _ hf => absurd hf (Nat.not_lt_zero _), fun o w a i br c B τ v3 Q _ _ _ _ hf => absurd hf (Nat.not_lt_zero _)⟩
  | f + 1 => ⟨x_mgc hT (x_mG hT f).1 (x_mG hT f).2, x_mga hT (x_mG hT f).1 (x_mG hT f).2⟩
end MAN2
