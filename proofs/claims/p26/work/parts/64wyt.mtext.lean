/-! the model's parser against the grammar: a whole condition, lines -/
section PSN
variable {T : Nat → Int} {k : Nat}
theorem psE_n (i : Nat) (z : (ps_E T k i).1 = 0) : 1 ≤ (ps_E T k i).2.2.length := by
  unfold ps_E at z ⊢
  rcases psU_c (T := T) i with ⟨e, q⟩ | ⟨e, q⟩
  · rw [e, if_pos rfl]
    show 1 ≤ ([T i] ++ _).length
    rw [List.length_append, List.length_singleton]
    omega
  · rw [e, if_neg (show ¬ (1 : Nat) = 0 by decide)] at z
    cases z
theorem psM_n (i : Nat) (z : (ps_M T k i).1 = 0) : 2 ≤ (ps_M T k i).2.2.length := by
  unfold ps_M at z ⊢
  by_cases h1 : (ps_E T k i).1 = 0
  · rw [if_pos h1] at z ⊢
    by_cases h2 : (-25) ≤ T (ps_E T k i).2.1 ∧ T (ps_E T k i).2.1 ≤ -23
    · rw [if_pos h2] at z ⊢
      by_cases h3 : (ps_E T k ((ps_E T k i).2.1 + 1)).1 = 0
      · rw [if_pos h3]
        have a := psE_n i h1
        show 2 ≤ ((ps_E T k i).2.2 ++ ((ps_E T k ((ps_E T k i).2.1 + 1)).2.2 ++ [T (ps_E T k i).2.1])).length
        rw [List.length_append, List.length_append, List.length_singleton]
        omega
      · rw [if_neg h3] at z
        exact absurd z h3
    · rw [if_neg h2] at z
      cases z
  · rw [if_neg h1] at z
    exact absurd z h1
theorem psG_n : ∀ f o w i, (ps_G T k f 0 o w i).1 = 0 → 2 ≤ (ps_G T k f 0 o w i).2.2.length := by
  intro f
  induction f with
  | zero =>
    intro o w i z
    exact absurd (show (9 : Nat) = 0 from z) (by decide)
  | succ f ih =>
    intro o w i z
    unfold ps_G at z ⊢
    by_cases c : T i = -6
    · rw [if_pos c] at z ⊢
      by_cases d : 8 ≤ o
      · rw [if_pos d] at z
        cases z
      · rw [if_neg d] at z ⊢
        by_cases h : (ps_G T k f 0 (o + 1) 0 (i + 1)).1 = 0
        · rw [if_pos h]
          have a := ih _ _ _ h
          show 2 ≤ ((ps_G T k f 0 (o + 1) 0 (i + 1)).2.2 ++ [-6]).length
          rw [List.length_append]
          omega
        · rw [if_neg h] at z
          exact absurd z h
    · rw [if_neg c] at z ⊢
      by_cases c2 : T i = -21
      · rw [if_pos c2] at z ⊢
        by_cases d : 8 ≤ o
        · rw [if_pos d] at z
          cases z
        · rw [if_neg d] at z ⊢
          by_cases h : (ps_G T k f 0 (o + 1) 0 (i + 1)).1 = 0
          · rw [if_pos h] at z ⊢
            have a := ih _ _ _ h
            by_cases h2 : (ps_G T k f 1 (o + 1) 0 (ps_G T k f 0 (o + 1) 0 (i + 1)).2.1).1 = 0
            · rw [if_pos h2] at z ⊢
              by_cases h3 : T (ps_G T k f 1 (o + 1) 0 (ps_G T k f 0 (o + 1) 0 (i + 1)).2.1).2.1 = -22
              · rw [if_pos h3]
                show 2 ≤ ((ps_G T k f 0 (o + 1) 0 (i + 1)).2.2 ++ (ps_G T k f 1 (o + 1) 0 (ps_G T k f 0 (o + 1) 0 (i + 1)).2.1).2.2).length
                rw [List.length_append]
                omega
              · rw [if_neg h3] at z
                cases z
            · rw [if_neg h2] at z
              exact absurd z h2
          · rw [if_neg h] at z
            exact absurd z h
      · rw [if_neg c2] at z ⊢
        exact psM_n i z
theorem psA_n (i : Nat) (z : (ps_A T i).1 = 0) : 2 ≤ (ps_A T i).2.2.length := by
  unfold ps_A at z ⊢
  by_cases h : (ps_G T 500 1500 0 0 0 i).1 = 0
  · rw [if_pos h]
    have a := psG_n _ _ _ _ h
    show 2 ≤ ((ps_G T 500 1500 0 0 0 i).2.2 ++ _).length
    rw [List.length_append]
    omega
  · rw [if_neg h] at z
    exact absurd z h
end PSN
/-- a line's condition in the model's words -/
def m_ln (l : List Int) : List Int := if l.length = 2 then [] else l.dropLast
theorem m_ln_c {d : List Int} (z : Int) (h : 2 ≤ d.length) : m_ln (d ++ [z]) = d := by
  unfold m_ln
  rw [if_neg (by rw [List.length_append, List.length_singleton]; omega), List.dropLast_concat]
/-- lines told: from the m-th on, their codes from b on -/
def mt_LN (d : Nat) (τ : pm_S) : Nat → Nat → List (List Int) → Prop
  | _, _, [] => True
  | m, b, l :: r => sI τ 116 (d + m) = -1 - l.getLastD 0 ∧ sI τ 117 (d + m) = (b : Int) ∧ sI τ 118 (d + m) = ((b + (m_ln l).length : Nat) : Int) ∧ mt_LN d τ (m + 1) (b + (m_ln l).length) r
/-- lines ahead of the m-th stay -/
abbrev kR (m : Nat) (σ τ : pm_S) : Prop := ∀ j, j < 16 + m → τ.1 116 j = σ.1 116 j ∧ τ.1 117 j = σ.1 117 j ∧ τ.1 118 j = σ.1 118 j
theorem kR.tr {m : Nat} {σ τ υ : pm_S} (h : kR m σ τ) (h2 : kR m τ υ) : kR m σ υ := fun j hj => ⟨(h2 j hj).1.trans (h j hj).1, (h2 j hj).2.1.trans (h j hj).2.1, (h2 j hj).2.2.trans (h j hj).2.2⟩
theorem kR.of {m : Nat} {σ τ : pm_S} {G : List (Nat × Nat)} (hG : (an_inP G 116 || an_inP G 117 || an_inP G 118) = false) (F : FQ G σ τ) : kR m σ τ := fun j _ => by
  rw [Bool.or_eq_false_iff, Bool.or_eq_false_iff] at hG
  exact ⟨F 116 j (an_inP_ok hG.1.1 j), F 117 j (an_inP_ok hG.1.2 j), F 118 j (an_inP_ok hG.2 j)⟩
theorem kR.pt {m : Nat} {σ : pm_S} {p : Nat} {w : Int32} : kR m σ (put σ p (16 + m) w) := fun j hj => ⟨put_ne (fun z => absurd z.2 (by omega)), put_ne (fun z => absurd z.2 (by omega)), put_ne (fun z => absurd z.2 (by omega))⟩
abbrev FXm : List (Nat × Nat) := [(93, 31), (93, 32), (93, 33), (93, 34), (93, 42), (93, 43), (93, 45), (93, 46), (93, 47), (116, 9999), (117, 9999), (118, 9999), (119, 9999), (120, 9999), (121, 9999)]
section PSX2
variable {T : Nat → Int} {L : Nat}
theorem ps1_L {m i : Nat} (c : T i = -1 ∨ T i = -2) (d : m ≤ 15) : ps_1 T m i = ps_L T i := by
  unfold ps_1
  rw [if_pos c, if_neg (by omega)]
theorem psL_e {i j : Nat} {dB : List Int} (e : ps_B T i = (0, j, dB)) (q : T j = -16) : ps_L T i = (0, j + 1, dB ++ [T i]) := by
  unfold ps_L
  rw [e, if_pos rfl]
  dsimp only
  rw [if_pos q]
theorem psL_f {i j : Nat} {dB : List Int} (e : ps_B T i = (0, j, dB)) (q : ¬ T j = -16) : ps_L T i = (1, j, []) := by
  unfold ps_L
  rw [e, if_pos rfl]
  dsimp only
  rw [if_neg q]
end PSX2
section MTX
variable {tp : Nat → Int} {n L : Nat} {kO kA : Nat → Int32}
set_option maxRecDepth 20000 in
theorem x_man {σ : pm_S} (i : Nat) (c : List Int) (hT : mt_L tp n L) (hi : i ≤ L) (hc : c.length ≤ i) (hB : an_GB pm_B σ) (hb : mt_B tp n σ) (ht : mt_T tp n σ i) (hC : mt_C kO kA σ c) (e43 : cI σ 43 = 0) : Sp 193 27 [.ref 93] σ (fun v τ => an_GB pm_B τ ∧ FQ FAm σ τ ∧ mt_R tp n kO kA v τ c (ps_A (ts_T tp n) i) ∧ ((ps_A (ts_T tp n) i).1 = 0 → cI τ 43 = 0)) := by
  have hL := hT.1
  have hn := hb.1
  have eA : ps_A (ts_T tp n) i = ps_K (ts_T tp n) 500 1500 0 i := rfl
  rw [eA]
  have ga := (psG_ok hT.2 (show L < 500 by omega) 1500 0 0 i hi).1 (by omega)
  refine Sp.at rfl rfl ?_
  refine mq_y0 _ _ _ rfl rfl rfl hB ?_
  intro τ1 y1 u1 d1 hB1 F1 _ _ _ c1
  have G1 : FQ FAm σ τ1 := FQ.up (G := [(93, 45)]) rfl F1
  refine (x_mG hT 1500).1 0 i 0 0 c [] τ1 u1 _ (by decide) hi (by omega) (by decide) (show c.length + 0 + 0 ≤ i by omega) (Or.inl rfl) (by decide) (by decide) d1 hB1 (hb.fq (G := [(93, 45)]) rfl F1) (ht.fq (G := [(93, 45)]) rfl F1) (hC.fq (G := [(93, 45)]) rfl F1) ⟨c1.1, by decide, fun j hj => absurd hj (Nat.not_lt_zero _)⟩ ((congrArg Int32.toInt (F1 93 43 rfl)).trans e43) ?_ ?_
  · intro τ2 u2 d2 hB2 F2 z2 t2 C2 R2 o2
    have ga2 := ga.2.2 z2
    have G2 : FQ FAm σ τ2 := FQ.tr G1 F2
    rw [List.replicate_zero, List.append_nil] at C2
    have l2 : (c ++ (ps_G (ts_T tp n) 500 1500 0 0 0 i).2.2).length = c.length + (ps_G (ts_T tp n) 500 1500 0 0 0 i).2.2.length := List.length_append
    refine (x_mG hT 1500).2 0 0 0 (ps_G (ts_T tp n) 500 1500 0 0 0 i).2.1 0 (c ++ (ps_G (ts_T tp n) 500 1500 0 0 0 i).2.2) [] τ2 u2 _ (by decide) (by decide) (by decide) ga.2.1 (by omega) (show (c ++ (ps_G (ts_T tp n) 500 1500 0 0 0 i).2.2).length + 0 + 0 + 0 ≤ _ by omega) (Or.inl rfl) (Or.inl rfl) (by decide) (by decide) d2 hB2 (hb.fq (G := FAm) rfl G2) t2 C2 R2 o2 ?_ ?_
    · intro τ3 u3 d3 hB3 F3 z3 t3 C3 R3 o3
      have G3 : FQ FAm σ τ3 := FQ.tr G2 F3
      have gt3 : 0 ≤ cI τ3 33 ∧ cI τ3 33 ≤ 4 := hB3 93 33 (by decide)
      have gv3 : (-2147483648) ≤ cI τ3 34 ∧ cI τ3 34 ≤ 2147483647 := ai_rng _
      rw [psK_0 z2]
      generalize hj : (ps_G (ts_T tp n) 500 1500 1 0 0 (ps_G (ts_T tp n) 500 1500 0 0 0 i).2.1).2.1 = j at t3
      have gp3 := (ts_P_le (tp := tp) (n := n) j).1
      refine mq_y100 (cI τ3 33) (cI τ3 34) (ts_P tp n j : Nat) ((0 : Nat) : Int) u3 d3 hB3 ⟨gt3, gv3, by omega, by omega, trivial⟩ ⟨rfl, rfl, t3.2.1, trivial⟩ ?_ ?_ ?_ ?_
      · intro τ4 y4 hB4 F4 f _ _ _
        have f4 := f.2.2.2.1
        exfalso
        omega
      · intro τ4 y4 hB4 F4 f _ _ _
        have f4 := f.2.2.2.1
        exfalso
        omega
      · intro τ4 y4 u4 d4 hB4 F4 f _ _ _
        have f4 := f.2.2.2.1
        exfalso
        omega
      · intro τ4 y4 hB4 F4 _ _ _ _
        have C3' : mt_C kO kA τ3 (c ++ (ps_G (ts_T tp n) 500 1500 0 0 0 i).2.2 ++ (ps_G (ts_T tp n) 500 1500 1 0 0 (ps_G (ts_T tp n) 500 1500 0 0 0 i).2.1).2.2) := C3
        rw [List.append_assoc] at C3'
        exact ⟨hB4, FQ.tr G3 (FQ.up (G := [(93, 46), (93, 47)]) rfl F4), Or.inl ⟨z3, rfl, t3.fq (G := [(93, 46), (93, 47)]) rfl F4, C3'.fq (G := [(93, 46), (93, 47)]) rfl F4⟩, fun _ => (congrArg Int32.toInt (F4 93 43 rfl)).trans o3⟩
    · intro τ3 hB3 F3 z3 t3
      rw [psK_0 z2]
      exact ⟨hB3, FQ.tr G2 F3, Or.inr ⟨z3, rfl, t3⟩, fun z => absurd z z3⟩
  · intro τ2 hB2 F2 z2 t2
    rw [psK_1 z2]
    exact ⟨hB2, FQ.tr G1 F2, Or.inr ⟨z2, rfl, t2⟩, fun z => absurd z z2⟩
/-- what lines come to: from the m-th on, behind the codes c -/
abbrev mX (tp : Nat → Int) (n : Nat) (kO kA : Nat → Int32) (v : Option Value) (τ : pm_S) (m : Nat) (c : List Int) (x : Nat × Nat × List (List Int)) : Prop := (x.1 = 0 ∧ v = some (.int (Int32.ofInt (x.2.1 : Int))) ∧ x.2.1 ≤ 16 ∧ x.2.1 = m + x.2.2.length ∧ (c ++ (x.2.2.map m_ln).flatten).length ≤ 400 ∧ mt_C kO kA τ (c ++ (x.2.2.map m_ln).flatten) ∧ mt_LN 16 τ m c.length x.2.2) ∨ (x.1 ≠ 0 ∧ v = some (.int (Int32.ofInt (-1))) ∧ mt_F tp n kO kA τ x.1 x.2.1)
set_option maxRecDepth 20000 in
theorem x_mtl {Q : Option Value → pm_S → Prop} (hT : mt_L tp n L) : ∀ (g m i : Nat) (c : List Int) (τ : pm_S) (v2 : Value), g + m = 17 → m ≤ 16 → i ≤ L → c.length ≤ i → v2.category = 1 → an_GB pm_B τ → mt_B tp n τ → mt_T tp n τ i → mt_C kO kA τ c → cI τ 43 = 0 → (∀ (τ' : pm_S) (v : Option Value), an_GB pm_B τ' → FQ FXm τ τ' → kR m τ τ' → mX tp n kO kA v τ' m c (ps_X (ts_T tp n) g m i) → Q v τ') → Ok 194 29 2 [.ref 93, .int (Int32.ofInt (m : Int)), v2] [] τ Q := by
  intro g
  induction g with
  | zero => intro m i c τ v2 h h2; exfalso; omega
  | succ g ih =>
    intro m i c τ v2 hg hm hi hc k2 hB hb ht hC e43 hQ
    have hL := hT.1
    have hn := hb.1
    have tr := tk_r (tp := tp) (n := n) i
    have gt : 0 ≤ cI τ 33 ∧ cI τ 33 ≤ 4 := hB 93 33 (by decide)
    have gv : (-2147483648) ≤ cI τ 34 ∧ cI τ 34 ≤ 2147483647 := ai_rng _
    have gp := (ts_P_le (tp := tp) (n := n) i).1
    have mi := mtok_i ht.2.2 tr
    have en : ((m : Int) + 16).toNat = 16 + m := by omega
    -- what can't stand there
    have bad : ∀ τ1 : pm_S, an_GB pm_B τ1 → FQ [(93, 46), (93, 47)] τ τ1 → ¬ (ts_T tp n i = -1 ∨ ts_T tp n i = -2) → ¬ ts_T tp n i = -26 → cI τ1 46 = 1 → cI τ1 47 = ((ts_P tp n i : Nat) : Int) → Q (some (.int (Int32.ofInt (-1)))) τ1 := by
      intro τ1 hB1 F1 q1 q2 e1 e2
      have e : ps_1 (ts_T tp n) m i = (1, i, []) := by
        unfold ps_1
        rw [if_neg q1]
      have b := psX_b (g := g) (m := m) q2 (by rw [e]; exact show ¬ (1 : Nat) = 0 by decide)
      rw [e] at b
      refine hQ τ1 _ hB1 (FQ.up (G := [(93, 46), (93, 47)]) rfl F1) (kR.of (G := [(93, 46), (93, 47)]) rfl F1) (Or.inr ⟨by rw [b.1]; exact show ¬ (1 : Nat) = 0 by decide, rfl, ?_⟩)
      rw [b.1, b.2]
      exact ⟨⟨e1, e2⟩, (hC.fq (G := [(93, 46), (93, 47)]) rfl F1).2.2⟩
    -- with the codes d behind, the sign at j
    have tail : ∀ (τ5 : pm_S) (j : Nat) (d dB : List Int), an_GB pm_B τ5 → FQ FXm τ τ5 → kR m τ τ5 → sI τ5 116 (16 + m) = -1 - ts_T tp n i → sI τ5 117 (16 + m) = (c.length : Int) → mt_T tp n τ5 j → mt_C kO kA τ5 (c ++ d) → cI τ5 43 = 0 → i < j → j ≤ L → c.length + d.length ≤ j → m ≤ 15 → (ts_T tp n i = -1 ∨ ts_T tp n i = -2) → ps_B (ts_T tp n) i = (0, j, dB) → m_ln (dB ++ [ts_T tp n i]) = d → Ok 194 29 47 [.ref 93, .int (Int32.ofInt (m : Int)), .int (Int32.ofInt ((m : Int) + 16))] [] τ5 Q := by
      intro τ5 j d dB hB5 F5 K5 a116 a117 t5 C5 e5 hij hj hcd hm15 hv eB ed
      have l5 : (c ++ d).length = c.length + d.length := List.length_append
      have ne : ¬ ts_T tp n i = -26 := by omega
      refine mq_x47 m ((m : Int) + 16) ((c ++ d).length : Nat) hB5 ⟨by omega, by omega, by omega, trivial⟩ ⟨C5.1, trivial⟩ ?_
      intro τ6 y6 hB6 F6 _ _ _ _
      refine Ok.ast (n := 32) rfl rfl rfl (by decide) (by omega) (by omega) ?_
      rw [en]
      have hB7 : an_GB pm_B (put τ6 118 (16 + m) (Int32.ofInt (((c ++ d).length : Nat) : Int))) := put_GB hB6 (by
        rw [ti_of (by omega) (by omega)]
        show (0 : Int) ≤ _ ∧ _ ≤ (400 : Int)
        omega)
      have P7 : FQ [(118, 9999)] τ6 (put τ6 118 (16 + m) (Int32.ofInt (((c ++ d).length : Nat) : Int))) := FQ.put rfl
      have a118 : sI (put τ6 118 (16 + m) (Int32.ofInt (((c ++ d).length : Nat) : Int))) 118 (16 + m) = (((c ++ d).length : Nat) : Int) := by
        show ((put τ6 118 (16 + m) (Int32.ofInt (((c ++ d).length : Nat) : Int))).1 118 (16 + m)).toInt = _
        rw [put_get, if_pos ⟨rfl, rfl⟩, ti_of (by omega) (by omega)]
      have K7 : kR m τ6 (put τ6 118 (16 + m) (Int32.ofInt (((c ++ d).length : Nat) : Int))) := kR.pt
      generalize put τ6 118 (16 + m) (Int32.ofInt (((c ++ d).length : Nat) : Int)) = τ7 at hB7 P7 a118 K7 ⊢
      have G7 : FQ FXm τ τ7 := FQ.tr F5 (FQ.tr (FQ.up (G := []) rfl F6) (FQ.up (G := [(118, 9999)]) rfl P7))
      have J7 : kR m τ τ7 := K5.tr ((kR.of (G := []) rfl F6).tr K7)
      have t7 : mt_T tp n τ7 j := (t5.fq (G := []) rfl F6).fq (G := [(118, 9999)]) rfl P7
      have C7 : mt_C kO kA τ7 (c ++ d) := (C5.fq (G := []) rfl F6).fq (G := [(118, 9999)]) rfl P7
      have b116 : sI τ7 116 (16 + m) = -1 - ts_T tp n i := (congrArg Int32.toInt ((P7 116 _ rfl).trans (F6 116 _ rfl))).trans a116
      have b117 : sI τ7 117 (16 + m) = (c.length : Int) := (congrArg Int32.toInt ((P7 117 _ rfl).trans (F6 117 _ rfl))).trans a117
      have b43 : cI τ7 43 = 0 := (congrArg Int32.toInt ((P7 93 43 rfl).trans (F6 93 43 rfl))).trans e5
      have trj := tk_r (tp := tp) (n := n) j
      have gt7 : 0 ≤ cI τ7 33 ∧ cI τ7 33 ≤ 4 := hB7 93 33 (by decide)
      have gv7 : (-2147483648) ≤ cI τ7 34 ∧ cI τ7 34 ≤ 2147483647 := ai_rng _
      have gp7 := (ts_P_le (tp := tp) (n := n) j).1
      have mj := mtok_i t7.2.2 trj
      have bad2 : ∀ τ8 : pm_S, an_GB pm_B τ8 → FQ [(93, 46), (93, 47)] τ7 τ8 → ¬ ts_T tp n j = -16 → cI τ8 46 = 1 → cI τ8 47 = ((ts_P tp n j : Nat) : Int) → Q (some (.int (Int32.ofInt (-1)))) τ8 := by
        intro τ8 hB8 F8 q e1 e2
        have e : ps_1 (ts_T tp n) m i = (1, j, []) := (ps1_L hv hm15).trans (psL_f eB q)
        have b := psX_b (g := g) (m := m) ne (by rw [e]; exact show ¬ (1 : Nat) = 0 by decide)
        rw [e] at b
        refine hQ τ8 _ hB8 (FQ.tr G7 (FQ.up (G := [(93, 46), (93, 47)]) rfl F8)) (J7.tr (kR.of (G := [(93, 46), (93, 47)]) rfl F8)) (Or.inr ⟨by rw [b.1]; exact show ¬ (1 : Nat) = 0 by decide, rfl, ?_⟩)
        rw [b.1, b.2]
        exact ⟨⟨e1, e2⟩, (C7.fq (G := [(93, 46), (93, 47)]) rfl F8).2.2⟩
      refine mq_x53 (cI τ7 33) (cI τ7 34) (ts_P tp n j : Nat) m ((m : Int) + 16) hB7 ⟨gt7, gv7, by omega, by omega, by omega, trivial⟩ ⟨rfl, rfl, t7.2.1, trivial⟩ ?_ ?_ ?_
      · intro τ8 y8 hB8 F8 f _ _ m8
        have f1 := f.1
        exact bad2 τ8 hB8 F8 (by omega) m8.2.2.2.1 m8.2.2.2.2.1
      · intro τ8 y8 hB8 F8 f rl _ m8
        have f1 := f.1
        have r1 := rl.1
        refine bad2 τ8 hB8 F8 (fun q => ?_) m8.2.2.2.1 m8.2.2.2.2.1
        rcases mj with q4 | q4 | q4 | q4 | q4
        · omega
        · omega
        · have w4 := ts_s_v q4.2.2.2 ⟨q4.1, q4.2.1⟩
          omega
        · omega
        · omega
      · intro τ8 y8 hB8 F8 f _ _ _
        have f1 := f.1
        have f2 := f.2.1
        have tj : ts_T tp n j = -16 := by
          rcases mj with q4 | q4 | q4 | q4 | q4
          · omega
          · omega
          · have w4 := ts_s_v q4.2.2.2 ⟨q4.1, q4.2.1⟩
            omega
          · omega
          · omega
        have jL : j < L := ml_lt hT (by omega)
        have G8 : FQ FXm τ τ8 := FQ.tr G7 (FQ.up (G := [(93, 46), (93, 47)]) rfl F8)
        have J8 : kR m τ τ8 := J7.tr (kR.of (G := [(93, 46), (93, 47)]) rfl F8)
        refine Ok.cv rfl rfl rfl rfl rfl rfl rfl ?_
        refine (x_mna (i := j) hB8 (hb.fq (G := FXm) rfl G8) (t7.fq (G := [(93, 46), (93, 47)]) rfl F8)).use (by decide) (fun r τ9 q => ?_)
        obtain ⟨rfl, hB9, F9, t9⟩ := q
        refine mq_x63 m ((m : Int) + 16) hB9 ⟨by omega, by omega, trivial⟩ ?_
        intro τ10 y10 hB10 F10 _ _ _ _
        have G10 : FQ FXm τ τ10 := FQ.tr G8 (FQ.tr (FQ.up (G := FMr) rfl F9) (FQ.up (G := []) rfl F10))
        have J10 : kR m τ τ10 := J8.tr ((kR.of (G := FMr) rfl F9).tr (kR.of (G := []) rfl F10))
        have C10 := ((C7.fq (G := [(93, 46), (93, 47)]) rfl F8).fq (G := FMr) rfl F9).fq (G := []) rfl F10
        have e1 : ps_1 (ts_T tp n) m i = (0, j + 1, dB ++ [ts_T tp n i]) := (ps1_L hv hm15).trans (psL_e eB tj)
        have eX : ps_X (ts_T tp n) (g + 1) m i = ((ps_X (ts_T tp n) g (m + 1) (j + 1)).1, (ps_X (ts_T tp n) g (m + 1) (j + 1)).2.1, (dB ++ [ts_T tp n i]) :: (ps_X (ts_T tp n) g (m + 1) (j + 1)).2.2) := by
          have q := psX_o (g := g) (show (ps_1 (ts_T tp n) m i).1 = 0 by rw [e1])
          rw [e1] at q
          exact q
        rw [eX] at hQ
        rw [show (m : Int) + 1 = ((m + 1 : Nat) : Int) by omega]
        refine ih (m + 1) (j + 1) (c ++ d) τ10 _ (by omega) (by omega) (by omega) (by omega) rfl hB10 (hb.fq (G := FXm) rfl G10) (t9.fq (G := []) rfl F10) C10 ((congrArg Int32.toInt ((F10 93 43 rfl).trans ((F9 93 43 rfl).trans (F8 93 43 rfl)))).trans b43) (fun τ' v hB' F' K' hX => hQ τ' v hB' (FQ.tr G10 F') (J10.tr (fun j hj => K' j (by omega))) ?_)
        rcases hX with ⟨x1, x2, x3, x4, x5, x6, x7⟩ | hX
        · have eq : c ++ (((dB ++ [ts_T tp n i]) :: (ps_X (ts_T tp n) g (m + 1) (j + 1)).2.2).map m_ln).flatten = c ++ d ++ ((ps_X (ts_T tp n) g (m + 1) (j + 1)).2.2.map m_ln).flatten := by
            show c ++ (m_ln (dB ++ [ts_T tp n i]) ++ ((ps_X (ts_T tp n) g (m + 1) (j + 1)).2.2.map m_ln).flatten) = _
            rw [ed, List.append_assoc]
          refine Or.inl ⟨x1, x2, x3, ?_, ?_, ?_, ?_, ?_, ?_, ?_⟩
          · show (ps_X (ts_T tp n) g (m + 1) (j + 1)).2.1 = m + ((ps_X (ts_T tp n) g (m + 1) (j + 1)).2.2.length + 1)
            omega
          · rw [eq]
            exact x5
          · rw [eq]
            exact x6
          · have k := (K' (16 + m) (by omega)).1
            have g116 : sI τ10 116 (16 + m) = sI τ7 116 (16 + m) := congrArg Int32.toInt ((F10 116 _ rfl).trans ((F9 116 _ rfl).trans (F8 116 _ rfl)))
            rw [List.getLastD_concat]
            exact (congrArg Int32.toInt k).trans (g116.trans b116)
          · have k := (K' (16 + m) (by omega)).2.1
            have g117 : sI τ10 117 (16 + m) = sI τ7 117 (16 + m) := congrArg Int32.toInt ((F10 117 _ rfl).trans ((F9 117 _ rfl).trans (F8 117 _ rfl)))
            exact (congrArg Int32.toInt k).trans (g117.trans b117)
          · have k := (K' (16 + m) (by omega)).2.2
            have g118 : sI τ10 118 (16 + m) = sI τ7 118 (16 + m) := congrArg Int32.toInt ((F10 118 _ rfl).trans ((F9 118 _ rfl).trans (F8 118 _ rfl)))
            rw [ed, ← l5]
            exact (congrArg Int32.toInt k).trans (g118.trans a118)
          · rw [ed, ← l5]
            exact x7
        · exact Or.inr hX
    refine mq_x2 (cI τ 33) (cI τ 34) (ts_P tp n i : Nat) m v2 k2 hB ⟨gt, gv, by omega, by omega, trivial⟩ ⟨rfl, rfl, ht.2.1, trivial⟩ ?_ ?_ ?_ ?_ ?_
    · intro τ1 y1 hB1 F1 f rl _ m1
      have f1 := f.1
      have r1 := rl.1
      exact bad τ1 hB1 F1 (by omega) (by omega) m1.2.2.2.1 m1.2.2.2.2.1
    · intro τ1 y1 hB1 F1 f _ _ _
      have f1 := f.1
      have e : ts_T tp n i = -26 := by omega
      refine hQ τ1 _ hB1 (FQ.up (G := [(93, 46), (93, 47)]) rfl F1) (kR.of (G := [(93, 46), (93, 47)]) rfl F1) ?_
      rw [psX_e e]
      refine Or.inl ⟨rfl, rfl, hm, rfl, ?_, ?_, trivial⟩
      · show (c ++ []).length ≤ 400
        rw [List.append_nil]
        omega
      · show mt_C kO kA τ1 (c ++ [])
        rw [List.append_nil]
        exact hC.fq (G := [(93, 46), (93, 47)]) rfl F1
    · intro τ1 y1 hB1 F1 f _ _ m1
      have f1 := f.1
      have f2 := f.2.1
      exact bad τ1 hB1 F1 (by omega) (by omega) m1.2.2.2.1 m1.2.2.2.2.1
    · intro τ1 y1 hB1 F1 f _ _ _
      have f1 := f.1
      have f2 := f.2.1
      have f4 := f.2.2.2.1
      have c1 : ts_T tp n i = -1 ∨ ts_T tp n i = -2 := by omega
      have hm15 : m ≤ 15 := by omega
      have ne : ¬ ts_T tp n i = -26 := by omega
      have iL : i < L := ml_lt hT ne
      have vv : cI τ 34 = -1 - ts_T tp n i := by omega
      refine Ok.ast (n := 32) rfl rfl rfl (by decide) (by omega) (by omega) ?_
      rw [en]
      have hB2 : an_GB pm_B (put τ1 116 (16 + m) (Int32.ofInt (cI τ 34))) := put_GB hB1 (ai_rng _)
      have P2 : FQ [(116, 9999)] τ1 (put τ1 116 (16 + m) (Int32.ofInt (cI τ 34))) := FQ.put rfl
      have a116 : sI (put τ1 116 (16 + m) (Int32.ofInt (cI τ 34))) 116 (16 + m) = cI τ 34 := by
        show ((put τ1 116 (16 + m) (Int32.ofInt (cI τ 34))).1 116 (16 + m)).toInt = _
        rw [put_get, if_pos ⟨rfl, rfl⟩, oI]
      have K2 : kR m τ1 (put τ1 116 (16 + m) (Int32.ofInt (cI τ 34))) := kR.pt
      generalize put τ1 116 (16 + m) (Int32.ofInt (cI τ 34)) = τ2 at hB2 P2 a116 K2 ⊢
      have G2 : FQ FXm τ τ2 := FQ.tr (FQ.up (G := [(93, 46), (93, 47)]) rfl F1) (FQ.up (G := [(116, 9999)]) rfl P2)
      have J2 : kR m τ τ2 := (kR.of (G := [(93, 46), (93, 47)]) rfl F1).tr K2
      refine mq_x27 m ((m : Int) + 16) hB2 ⟨by omega, by omega, trivial⟩ ?_
      intro τ3 y3 hB3 F3 _ _ _ _
      have G3 : FQ FXm τ τ3 := FQ.tr G2 (FQ.up (G := []) rfl F3)
      have J3 : kR m τ τ3 := J2.tr (kR.of (G := []) rfl F3)
      have t3 : mt_T tp n τ3 i := ((ht.fq (G := [(93, 46), (93, 47)]) rfl F1).fq (G := [(116, 9999)]) rfl P2).fq (G := []) rfl F3
      have C3 : mt_C kO kA τ3 c := ((hC.fq (G := [(93, 46), (93, 47)]) rfl F1).fq (G := [(116, 9999)]) rfl P2).fq (G := []) rfl F3
      refine Ok.cv rfl rfl rfl rfl rfl rfl rfl ?_
      refine (x_mna (i := i) hB3 (hb.fq (G := FXm) rfl G3) t3).use (by decide) (fun r τ4 q => ?_)
      obtain ⟨rfl, hB4, F4, t4⟩ := q
      have C4 : mt_C kO kA τ4 c := C3.fq (G := FMr) rfl F4
      refine mq_x29 m ((m : Int) + 16) c.length hB4 ⟨by omega, by omega, by omega, trivial⟩ ⟨C4.1, trivial⟩ ?_
      intro τ5 y5 hB5 F5 _ _ _ _
      refine Ok.ast (n := 32) rfl rfl rfl (by decide) (by omega) (by omega) ?_
      rw [en]
      have hB6 : an_GB pm_B (put τ5 117 (16 + m) (Int32.ofInt (c.length : Int))) := put_GB hB5 (by
        rw [ti_of (by omega) (by omega)]
        show (0 : Int) ≤ _ ∧ _ ≤ (400 : Int)
        omega)
      have P6 : FQ [(117, 9999)] τ5 (put τ5 117 (16 + m) (Int32.ofInt (c.length : Int))) := FQ.put rfl
      have a117 : sI (put τ5 117 (16 + m) (Int32.ofInt (c.length : Int))) 117 (16 + m) = (c.length : Int) := by
        show ((put τ5 117 (16 + m) (Int32.ofInt (c.length : Int))).1 117 (16 + m)).toInt = _
        rw [put_get, if_pos ⟨rfl, rfl⟩, ti_of (by omega) (by omega)]
      have K6 : kR m τ5 (put τ5 117 (16 + m) (Int32.ofInt (c.length : Int))) := kR.pt
      generalize put τ5 117 (16 + m) (Int32.ofInt (c.length : Int)) = τ6 at hB6 P6 a117 K6 ⊢
      have G6 : FQ FXm τ τ6 := FQ.tr G3 (FQ.tr (FQ.up (G := FMr) rfl F4) (FQ.tr (FQ.up (G := []) rfl F5) (FQ.up (G := [(117, 9999)]) rfl P6)))
      have J6 : kR m τ τ6 := J3.tr ((kR.of (G := FMr) rfl F4).tr ((kR.of (G := []) rfl F5).tr K6))
      have t6 : mt_T tp n τ6 (i + 1) := (t4.fq (G := []) rfl F5).fq (G := [(117, 9999)]) rfl P6
      have C6 : mt_C kO kA τ6 c := (C4.fq (G := []) rfl F5).fq (G := [(117, 9999)]) rfl P6
      have b116 : sI τ6 116 (16 + m) = -1 - ts_T tp n i := (congrArg Int32.toInt ((P6 116 _ rfl).trans ((F5 116 _ rfl).trans ((F4 116 _ rfl).trans (F3 116 _ rfl))))).trans (a116.trans vv)
      have e6 : cI τ6 43 = 0 := (congrArg Int32.toInt ((P6 93 43 rfl).trans ((F5 93 43 rfl).trans ((F4 93 43 rfl).trans ((F3 93 43 rfl).trans ((P2 93 43 rfl).trans (F1 93 43 rfl))))))).trans e43
      have tr1 := tk_r (tp := tp) (n := n) (i + 1)
      have gt6 : 0 ≤ cI τ6 33 ∧ cI τ6 33 ≤ 4 := hB6 93 33 (by decide)
      have gv6 : (-2147483648) ≤ cI τ6 34 ∧ cI τ6 34 ≤ 2147483647 := ai_rng _
      have gp6 := (ts_P_le (tp := tp) (n := n) (i + 1)).1
      have m6 := mtok_i t6.2.2 tr1
      -- no condition
      have none_ : ∀ τ7 : pm_S, an_GB pm_B τ7 → FQ [] τ6 τ7 → ¬ ts_T tp n (i + 1) = -3 → Ok 194 29 47 [.ref 93, .int (Int32.ofInt (m : Int)), .int (Int32.ofInt ((m : Int) + 16))] [] τ7 Q := by
        intro τ7 hB7 F7 q
        refine tail τ7 (i + 1) [] [1] hB7 (FQ.tr G6 (FQ.up (G := []) rfl F7)) (J6.tr (kR.of (G := []) rfl F7)) ((congrArg Int32.toInt (F7 116 _ rfl)).trans b116) ((congrArg Int32.toInt (F7 117 _ rfl)).trans a117) (t6.fq (G := []) rfl F7) ?_ ((congrArg Int32.toInt (F7 93 43 rfl)).trans e6) (by omega) (by omega) (show c.length + 0 ≤ i + 1 by omega) hm15 c1 (if_neg q) (if_pos rfl)
        rw [List.append_nil]
        exact C6.fq (G := []) rfl F7
      refine mq_x35 (cI τ6 33) (cI τ6 34) (ts_P tp n (i + 1) : Nat) m ((m : Int) + 16) hB6 ⟨gt6, gv6, by omega, by omega, by omega, trivial⟩ ⟨rfl, rfl, t6.2.1, trivial⟩ ?_ ?_ ?_
      · intro τ7 y7 hB7 F7 f7 rl _ _
        have g1 := f7.1
        have r1 := rl.1
        exact none_ τ7 hB7 F7 (by omega)
      · intro τ7 y7 hB7 F7 f7 rl _ _
        have g1 := f7.1
        have r1 := rl.1
        exact none_ τ7 hB7 F7 (by omega)
      · intro τ7 y7 hB7 F7 f7 _ _ _
        have g1 := f7.1
        have g2 := f7.2.1
        have q : ts_T tp n (i + 1) = -3 := by omega
        have i1 : i + 1 < L := ml_lt hT (by omega)
        have G7 : FQ FXm τ τ7 := FQ.tr G6 (FQ.up (G := []) rfl F7)
        refine Ok.cv rfl rfl rfl rfl rfl rfl rfl ?_
        refine (x_mna (i := i + 1) hB7 (hb.fq (G := FXm) rfl G7) (t6.fq (G := []) rfl F7)).use (by decide) (fun r τ8 q8 => ?_)
        obtain ⟨rfl, hB8, F8, t8⟩ := q8
        refine mq_x41 m ((m : Int) + 16) hB8 ⟨by omega, by omega, trivial⟩ ?_
        intro τ9 y9 hB9 F9 _ _ _ _
        have G9 : FQ FXm τ τ9 := FQ.tr G7 (FQ.tr (FQ.up (G := FMr) rfl F8) (FQ.up (G := []) rfl F9))
        have C9 : mt_C kO kA τ9 c := ((C6.fq (G := []) rfl F7).fq (G := FMr) rfl F8).fq (G := []) rfl F9
        refine Ok.cv rfl rfl rfl rfl rfl rfl rfl ?_
        refine (x_man (i + 2) c hT (by omega) (by omega) hB9 (hb.fq (G := FXm) rfl G9) (t8.fq (G := []) rfl F9) C9 ((congrArg Int32.toInt ((F9 93 43 rfl).trans ((F8 93 43 rfl).trans (F7 93 43 rfl)))).trans e6)).use (by decide) (fun r τ10 q10 => ?_)
        obtain ⟨hB10, F10, R10, o10⟩ := q10
        have G10 : FQ FXm τ τ10 := FQ.tr G9 (FQ.up (G := FAm) rfl F10)
        have J10 : kR m τ τ10 := J6.tr ((kR.of (G := []) rfl F7).tr ((kR.of (G := FMr) rfl F8).tr ((kR.of (G := []) rfl F9).tr (kR.of (G := FAm) rfl F10))))
        have ok := psA_ok hT.2 hL (show i + 2 ≤ L by omega)
        have eB0 : ps_B (ts_T tp n) i = ps_A (ts_T tp n) (i + 2) := if_pos q
        rcases R10 with ⟨z, rfl, t10, C10⟩ | ⟨z, rfl, t10⟩
        · have ok2 := ok.2.2 z
          have eB : ps_B (ts_T tp n) i = (0, (ps_A (ts_T tp n) (i + 2)).2.1, (ps_A (ts_T tp n) (i + 2)).2.2) := eB0.trans (Prod.ext z rfl)
          refine mq_x43 0 m ((m : Int) + 16) hB10 ⟨by decide, by omega, by omega, trivial⟩ ?_ ?_
          · intro τ11 y11 hB11 F11 _ _ _ _
            refine tail τ11 (ps_A (ts_T tp n) (i + 2)).2.1 (ps_A (ts_T tp n) (i + 2)).2.2 _ hB11 (FQ.tr G10 (FQ.up (G := []) rfl F11)) (J10.tr (kR.of (G := []) rfl F11)) ?_ ?_ (t10.fq (G := []) rfl F11) (C10.fq (G := []) rfl F11) ((congrArg Int32.toInt (F11 93 43 rfl)).trans (o10 z)) (by omega) ok.2.1 (by omega) hm15 c1 eB (m_ln_c _ (psA_n _ z))
            · exact (congrArg Int32.toInt ((F11 116 _ rfl).trans ((F10 116 _ rfl).trans ((F9 116 _ rfl).trans ((F8 116 _ rfl).trans (F7 116 _ rfl)))))).trans b116
            · exact (congrArg Int32.toInt ((F11 117 _ rfl).trans ((F10 117 _ rfl).trans ((F9 117 _ rfl).trans ((F8 117 _ rfl).trans (F7 117 _ rfl)))))).trans a117
          · intro τ11 y11 hB11 F11 g _ _ _
            have g1 := g.1
            exfalso
            omega
        · refine mq_x43 (-1) m ((m : Int) + 16) hB10 ⟨by decide, by omega, by omega, trivial⟩ ?_ ?_
          · intro τ11 y11 hB11 F11 g _ _ _
            have g1 := g.1
            exfalso
            omega
          · intro τ11 y11 hB11 F11 _ _ _ _
            have e : ps_1 (ts_T tp n) m i = ps_A (ts_T tp n) (i + 2) := (ps1_L c1 hm15).trans (psL_3 q z)
            have b := psX_b (g := g) (m := m) ne (by rw [e]; exact z)
            rw [e] at b
            refine hQ τ11 _ hB11 (FQ.tr G10 (FQ.up (G := []) rfl F11)) (J10.tr (kR.of (G := []) rfl F11)) (Or.inr ⟨by rw [b.1]; exact z, rfl, ?_⟩)
            rw [b.1, b.2]
            exact t10.fq (G := []) rfl F11
    · intro τ1 y1 hB1 F1 f _ _ m1
      have f1 := f.1
      have f2 := f.2.1
      have f4 := f.2.2.2.1
      have c1 : ts_T tp n i = -1 ∨ ts_T tp n i = -2 := by omega
      have ne : ¬ ts_T tp n i = -26 := by omega
      have e : ps_1 (ts_T tp n) m i = (3, i, []) := by
        unfold ps_1
        rw [if_pos c1, if_pos (by omega)]
      have b := psX_b (g := g) (m := m) ne (by rw [e]; exact show ¬ (3 : Nat) = 0 by decide)
      rw [e] at b
      refine hQ τ1 _ hB1 (FQ.up (G := [(93, 46), (93, 47)]) rfl F1) (kR.of (G := [(93, 46), (93, 47)]) rfl F1) (Or.inr ⟨by rw [b.1]; exact show ¬ (3 : Nat) = 0 by decide, rfl, ?_⟩)
      rw [b.1, b.2]
      exact ⟨⟨m1.2.2.2.1, m1.2.2.2.2.1⟩, (hC.fq (G := [(93, 46), (93, 47)]) rfl F1).2.2⟩
end MTX
