/-! the model's parser against the grammar: texts -/
def cpW (σ1 σ : pm_S) (l : Nat) : Prop := an_GB pm_B σ ∧ FQ [(116, 9999), (117, 9999), (118, 9999)] σ1 σ ∧ (∀ j : Nat, 16 ≤ j → σ.1 116 j = σ1.1 116 j ∧ σ.1 117 j = σ1.1 117 j ∧ σ.1 118 j = σ1.1 118 j) ∧ (∀ i : Nat, i < l → σ.1 116 i = σ1.1 116 (16 + i) ∧ σ.1 117 i = σ1.1 117 (16 + i) ∧ σ.1 118 i = σ1.1 118 (16 + i))
theorem x_41w {σ1 : pm_S} {k : Nat} (hk : k ≤ 16) {Qz : Option Value → pm_S → Prop} (hend : ∀ (σ : pm_S) (v : Value), v.category = 1 → cpW σ1 σ k → Ok 195 111 76 [.ref 93, .int (Int32.ofInt (k : Int)), v] [] σ Qz) : ∀ (N l : Nat) (σ : pm_S), l + N = k → cpW σ1 σ l → Ok 195 111 41 [.ref 93, .int (Int32.ofInt (k : Int)), .int (Int32.ofInt (l : Int))] [] σ Qz := by
  intro N
  induction N with
  | zero =>
    intro l σ hl hC
    refine sg_tx41 k l hC.1 ⟨by omega, by omega, trivial⟩ ?_
    intro τ y hB1 hF1 _ _ _ _
    have hC1 : cpW σ1 τ l := by
      refine ⟨hB1, hC.2.1.tr (FQ.up (G := []) rfl hF1), ?_⟩
      rw [FQ.e1 hF1]
      exact hC.2.2
    refine Ok.ic rfl rfl (by omega) (by omega) (by omega) (by omega) (fun h => ?_) (fun h => ?_)
    · exact hend τ _ rfl (by rw [show k = l by omega]; exact hC1)
    · exfalso
      have h : (l : Int) < k := h
      omega
  | succ N ih =>
    intro l σ hl hC
    refine sg_tx41 k l hC.1 ⟨by omega, by omega, trivial⟩ ?_
    intro τ y hB1 hF1 _ _ _ _
    refine Ok.ic rfl rfl (by omega) (by omega) (by omega) (by omega) (fun h => ?_) (fun h => ?_)
    · exfalso
      have h : (k : Int) ≤ l := h
      omega
    · refine sg_tx44 k l hB1 ⟨by omega, by omega, trivial⟩ ?_
      intro τ2 y hB2 hF2 _ _ _ c2
      refine Ok.ast (n := 32) rfl rfl rfl (by decide) (by omega) (by omega) ?_
      have hB3 : an_GB pm_B (put τ2 116 ((l : Int)).toNat (Int32.ofInt (y 2))) := put_GB hB2 (ai_rng _)
      refine sg_tx54 k l hB3 ⟨by omega, by omega, trivial⟩ ?_
      intro τ4 y4 hB4 hF4 f4 _ _ c4
      refine Ok.ast (n := 32) rfl rfl rfl (by decide) (by omega) (by omega) ?_
      have r4 : (Int32.ofInt (y4 2)).toInt = y4 2 := ti_of (by omega) (by omega)
      have hB5 : an_GB pm_B (put τ4 117 ((l : Int)).toNat (Int32.ofInt (y4 2))) := put_GB hB4 (by
        show (0 : Int) ≤ (Int32.ofInt (y4 2)).toInt ∧ (Int32.ofInt (y4 2)).toInt ≤ 400
        omega)
      refine sg_tx64 k l hB5 ⟨by omega, by omega, trivial⟩ ?_
      intro τ6 y6 hB6 hF6 f6 _ _ c6
      refine Ok.ast (n := 32) rfl rfl rfl (by decide) (by omega) (by omega) ?_
      have r6 : (Int32.ofInt (y6 2)).toInt = y6 2 := ti_of (by omega) (by omega)
      have hB7 : an_GB pm_B (put τ6 118 ((l : Int)).toNat (Int32.ofInt (y6 2))) := put_GB hB6 (by
        show (0 : Int) ≤ (Int32.ofInt (y6 2)).toInt ∧ (Int32.ofInt (y6 2)).toInt ≤ 400
        omega)
      refine sg_tx74 k l hB7 ⟨by omega, by omega, trivial⟩ ?_
      intro τ8 y8 hB8 hF8 _ _ _ _
      have ix : ((l : Int)).toNat = l := by omega
      have ix2 : ((l : Int) + 16).toNat = 16 + l := by omega
      have g116 : ∀ j, τ8.1 116 j = if j = l then σ.1 116 (16 + l) else σ.1 116 j := by
        intro j
        have base : ∀ j, τ2.1 116 j = σ.1 116 j := fun j => by rw [hF2 116 j rfl, hF1 116 j rfl]
        rw [hF8 116 j rfl, put_nr (by decide), hF6 116 j rfl, put_nr (by decide), hF4 116 j rfl, put_get, ix]
        by_cases e : j = l
        · rw [if_pos ⟨rfl, e⟩, if_pos e, ← c2.1, oI, ix2, base]
        · rw [if_neg (fun z => e z.2), if_neg e, base]
      have g117 : ∀ j, τ8.1 117 j = if j = l then σ.1 117 (16 + l) else σ.1 117 j := by
        intro j
        have base : ∀ j, τ4.1 117 j = σ.1 117 j := fun j => by rw [hF4 117 j rfl, put_nr (by decide), hF2 117 j rfl, hF1 117 j rfl]
        rw [hF8 117 j rfl, put_nr (by decide), hF6 117 j rfl, put_get, ix]
        by_cases e : j = l
        · rw [if_pos ⟨rfl, e⟩, if_pos e, ← c4.1, oI, ix2, base]
        · rw [if_neg (fun z => e z.2), if_neg e, base]
      have g118 : ∀ j, τ8.1 118 j = if j = l then σ.1 118 (16 + l) else σ.1 118 j := by
        intro j
        have base : ∀ j, τ6.1 118 j = σ.1 118 j := fun j => by rw [hF6 118 j rfl, put_nr (by decide), hF4 118 j rfl, put_nr (by decide), hF2 118 j rfl, hF1 118 j rfl]
        rw [hF8 118 j rfl, put_get, ix]
        by_cases e : j = l
        · rw [if_pos ⟨rfl, e⟩, if_pos e, ← c6.1, oI, ix2, base]
        · rw [if_neg (fun z => e z.2), if_neg e, base]
      refine ih (l + 1) τ8 (by omega) ⟨hB8, ?_, fun j hj => ?_, fun i hi => ?_⟩
      · refine hC.2.1.tr ?_
        exact FQ.tr (FQ.tr (FQ.tr (FQ.tr (FQ.tr (FQ.tr (FQ.tr (FQ.up (G := []) rfl hF1) (FQ.up (G := []) rfl hF2)) (FQ.put rfl)) (FQ.up (G := []) rfl hF4)) (FQ.put rfl)) (FQ.up (G := []) rfl hF6)) (FQ.put rfl)) (FQ.up (G := []) rfl hF8)
      · rw [g116, g117, g118, if_neg (by omega), if_neg (by omega), if_neg (by omega)]
        exact hC.2.2.1 j hj
      · rw [g116, g117, g118]
        by_cases e : i = l
        · rw [if_pos e, if_pos e, if_pos e, e]
          exact hC.2.2.1 (16 + l) (by omega)
        · rw [if_neg e, if_neg e, if_neg e]
          exact hC.2.2.2 i (by omega)
theorem mt_LN.cp {k : Nat} {σ τ : pm_S} (h : ∀ i, i < k → τ.1 116 i = σ.1 116 (16 + i) ∧ τ.1 117 i = σ.1 117 (16 + i) ∧ τ.1 118 i = σ.1 118 (16 + i)) : ∀ (ls : List (List Int)) (m b : Nat), m + ls.length ≤ k → mt_LN 16 σ m b ls → mt_LN 0 τ m b ls
  | [], _, _, _, _ => trivial
  | l :: r, m, b, hk, hl => by
    have hk2 : m + (r.length + 1) ≤ k := hk
    have q := h m (by omega)
    obtain ⟨h1, h2, h3, h4⟩ := hl
    refine ⟨?_, ?_, ?_, mt_LN.cp h r (m + 1) _ (by omega) h4⟩
    · rw [Nat.zero_add]
      exact (congrArg Int32.toInt q.1).trans h1
    · rw [Nat.zero_add]
      exact (congrArg Int32.toInt q.2.1).trans h2
    · rw [Nat.zero_add]
      exact (congrArg Int32.toInt q.2.2).trans h3
theorem mt_LN.fr {d : Nat} {σ τ : pm_S} (h : ∀ i, τ.1 116 i = σ.1 116 i ∧ τ.1 117 i = σ.1 117 i ∧ τ.1 118 i = σ.1 118 i) : ∀ (ls : List (List Int)) (m b : Nat), mt_LN d σ m b ls → mt_LN d τ m b ls
  | [], _, _, _ => trivial
  | l :: r, m, b, hl => by
    have q := h (d + m)
    obtain ⟨h1, h2, h3, h4⟩ := hl
    exact ⟨(congrArg Int32.toInt q.1).trans h1, (congrArg Int32.toInt q.2.1).trans h2, (congrArg Int32.toInt q.2.2).trans h3, mt_LN.fr h r (m + 1) _ h4⟩
/-- the law in the model: its lines -/
abbrev mLaw (τ : pm_S) (ls : List (List Int)) : Prop := cI τ 36 = (ls.length : Int) ∧ mt_LN 0 τ 0 0 ls ∧ (ls.map m_ln).flatten.length ≤ 400 ∧ ∀ j, j < (ls.map m_ln).flatten.length → sI τ 119 j = mo ((ls.map m_ln).flatten.getD j 0) ∧ sI τ 120 j = ma ((ls.map m_ln).flatten.getD j 0)
section MTT
variable {tp : Nat → Int} {n L : Nat} {kO kA : Nat → Int32}
theorem x_mrt {σ : pm_S} (hT : mt_L tp n L) (hB : an_GB pm_B σ) (hb : mt_B tp n σ) (ht : mt_T tp n σ 0) (hC : mt_C kO kA σ []) (e43 : cI σ 43 = 0) : Sp 194 29 [.ref 93] σ (fun v τ => an_GB pm_B τ ∧ FQ FXm σ τ ∧ kR 0 σ τ ∧ mX tp n kO kA v τ 0 [] (tX tp n)) := by
  refine Sp.at rfl rfl ?_
  refine mq_x0 _ _ rfl rfl hB ?_
  intro τ1 y1 u1 d1 hB1 F1 _ _ _ _
  exact x_mtl hT 17 0 0 [] τ1 u1 rfl (by decide) (Nat.zero_le _) (Nat.le_refl _) d1 hB1 (hb.fq (G := []) rfl F1) (ht.fq (G := []) rfl F1) (hC.fq (G := []) rfl F1) ((congrArg Int32.toInt (F1 93 43 rfl)).trans e43) (fun τ' v hB' F' K' hX => ⟨hB', FQ.tr (FQ.up (G := []) rfl F1) F', (kR.of (G := []) rfl F1).tr K', hX⟩)
set_option maxRecDepth 20000 in
theorem x_mtx {σ : pm_S} (hB : an_GB pm_B σ) (hb : mt_B tp n σ) : Sp 195 111 [.ref 93] σ (fun r τ => an_GB pm_B τ ∧ cI τ 30 = 0 ∧ FQ FTX σ τ ∧ (((tX tp n).1 = 0 ∧ r = some (.int (Int32.ofInt ((tX tp n).2.1 : Int))) ∧ (tX tp n).2.1 = (tX tp n).2.2.length ∧ (tX tp n).2.1 ≤ 16 ∧ cI τ 48 = 0 ∧ cI τ 49 = -1 ∧ mLaw τ (tX tp n).2.2) ∨ ((tX tp n).1 ≠ 0 ∧ r = some (.int (Int32.ofInt (-1))) ∧ cI τ 48 = ((tX tp n).1 : Int) ∧ cI τ 49 = ((ts_P tp n (tX tp n).2.1 : Nat) : Int) ∧ lwP σ τ ∧ cI τ 36 = cI σ 36))) := by
  have hn := hb.1
  obtain ⟨L0, L1, L2⟩ := ts_c_ok (tp := tp) (n := n)
  have hT : mt_L tp n (ts_c tp n) := ⟨by omega, tk_end L1 L2⟩
  refine Sp.at rfl rfl ?_
  refine mq_z0 _ _ rfl rfl hB ?_
  intro τ1 y1 u1 u2 d1 d2 hB1 F1 _ _ _ c1
  refine Ok.cv rfl rfl rfl rfl rfl rfl rfl ?_
  refine (x_mrd (tp := tp) (n := n) 0 (Nat.zero_le _) hB1 (hb.fq (G := [(93, 0), (93, 48), (93, 49), (93, 31), (93, 42), (93, 43)]) rfl F1) c1.2.1).use (by decide) (fun r τ2 q => ?_)
  obtain ⟨rfl, hB2, F2, t2a, t2b, t2c⟩ := q
  refine sg_tx20 u1 u2 d1 d2 hB2 ?_
  intro τ3 y3 w1 w2 k1 k2 hB3 F3 _ _ _ _
  have t3 : mt_T tp n τ3 0 := mt_T.fq (i := 0) ⟨t2a, t2b, t2c⟩ (G := []) rfl F3
  have e42 : cI τ3 42 = 0 := (congrArg Int32.toInt ((F3 93 42 rfl).trans (F2 93 42 rfl))).trans c1.2.2.1
  have e43 : cI τ3 43 = 0 := (congrArg Int32.toInt ((F3 93 43 rfl).trans (F2 93 43 rfl))).trans c1.2.2.2.1
  have C3 : mt_C (τ3.1 119) (τ3.1 120) τ3 [] := ⟨e42, fun j hj => absurd hj (Nat.not_lt_zero _), fun j _ => ⟨rfl, rfl⟩⟩
  have b3 : mt_B tp n τ3 := ((hb.fq (G := [(93, 0), (93, 48), (93, 49), (93, 31), (93, 42), (93, 43)]) rfl F1).fq (G := FMr) rfl F2).fq (G := []) rfl F3
  refine Ok.cv rfl rfl rfl rfl rfl rfl rfl ?_
  refine (x_mrt hT hB3 b3 t3 C3 e43).use (by decide) (fun r τ4 q => ?_)
  obtain ⟨hB4, F4, K4, hX⟩ := q
  have G4 : FQ FTX σ τ4 := FQ.tr (FQ.up (G := [(93, 0), (93, 48), (93, 49), (93, 31), (93, 42), (93, 43)]) rfl F1) (FQ.tr (FQ.up (G := FMr) rfl F2) (FQ.tr (FQ.up (G := []) rfl F3) (FQ.up (G := FXm) rfl F4)))
  have same : ∀ p, p = 116 ∨ p = 117 ∨ p = 118 ∨ p = 119 ∨ p = 120 → τ3.1 p = σ.1 p := by
    intro p hp
    funext j
    rcases hp with rfl | rfl | rfl | rfl | rfl
    · rw [F3 116 j rfl, F2 116 j rfl, F1 116 j rfl]
    · rw [F3 117 j rfl, F2 117 j rfl, F1 117 j rfl]
    · rw [F3 118 j rfl, F2 118 j rfl, F1 118 j rfl]
    · rw [F3 119 j rfl, F2 119 j rfl, F1 119 j rfl]
    · rw [F3 120 j rfl, F2 120 j rfl, F1 120 j rfl]
  have z48 : cI τ4 48 = 0 := (congrArg Int32.toInt ((F4 93 48 rfl).trans ((F3 93 48 rfl).trans (F2 93 48 rfl)))).trans c1.2.2.2.2.1
  have z49 : cI τ4 49 = -1 := (congrArg Int32.toInt ((F4 93 49 rfl).trans ((F3 93 49 rfl).trans (F2 93 49 rfl)))).trans c1.2.2.2.2.2.1
  have e36 : cI τ4 36 = cI σ 36 := congrArg Int32.toInt ((F4 93 36 rfl).trans ((F3 93 36 rfl).trans ((F2 93 36 rfl).trans (F1 93 36 rfl))))
  have g46 : (-2147483648) ≤ cI τ4 46 ∧ cI τ4 46 ≤ 2147483647 := ai_rng _
  have g47 : (-2147483648) ≤ cI τ4 47 ∧ cI τ4 47 ≤ 2147483647 := ai_rng _
  rcases hX with ⟨x1, rfl, x3, x4, x5, x6, x7⟩ | ⟨x1, rfl, x3⟩
  · have x4 : (tX tp n).2.1 = (tX tp n).2.2.length := by omega
    have x5 : ((tX tp n).2.2.map m_ln).flatten.length ≤ 400 := x5
    have x6 : mt_C (τ3.1 119) (τ3.1 120) τ4 ((tX tp n).2.2.map m_ln).flatten := x6
    refine mq_z22 (tX tp n).2.1 (cI τ4 46) (cI τ4 47) (cI τ4 48) (cI τ4 49) w1 w2 k1 k2 hB4 ⟨by omega, g46, g47, ai_rng _, ai_rng _, trivial⟩ ⟨rfl, rfl, rfl, rfl, trivial⟩ ?_ ?_
    · intro τ5 y5 hB5 F5 _ _ _ c5
      refine x_41w (k := (tX tp n).2.1) x3 ?_ (tX tp n).2.1 0 τ5 (by omega) ⟨hB5, FQ.rf _ _, fun j _ => ⟨rfl, rfl, rfl⟩, fun i hi => absurd hi (Nat.not_lt_zero _)⟩
      intro τ6 v6 hv6 hC6
      refine sg_tx76 (tX tp n).2.1 v6 hv6 hC6.1 ⟨by omega, trivial⟩ ?_
      intro τ7 y7 hB7 F7 _ _ _ _
      have e42' : cI τ7 42 = (((tX tp n).2.2.map m_ln).flatten.length : Int) := (congrArg Int32.toInt ((F7 93 42 rfl).trans ((hC6.2.1 93 42 rfl).trans (F5 93 42 rfl)))).trans x6.1
      refine x_78 (c := ((tX tp n).2.2.map m_ln).flatten.length) x3 x5 e42' ?_ ((tX tp n).2.2.map m_ln).flatten.length 0 τ7 (by omega) ⟨hB7, FQ.rf _ _, fun j _ => ⟨rfl, rfl⟩, fun i hi => absurd hi (Nat.not_lt_zero _)⟩
      intro τ8 v8 hv8 hC8
      refine sg_tx104 (tX tp n).2.1 v8 hv8 hC8.1 ⟨by omega, trivial⟩ ?_
      intro τ9 y9 hB9 F9 _ _ _ c9
      have f46 : cI τ9 48 = 0 := (congrArg Int32.toInt ((F9 93 48 rfl).trans ((hC8.2.1 93 48 rfl).trans ((F7 93 48 rfl).trans (hC6.2.1 93 48 rfl))))).trans (c5.2.2.2.1.trans z48)
      have f47 : cI τ9 49 = -1 := (congrArg Int32.toInt ((F9 93 49 rfl).trans ((hC8.2.1 93 49 rfl).trans ((F7 93 49 rfl).trans (hC6.2.1 93 49 rfl))))).trans (c5.2.2.2.2.1.trans z49)
      have f30 : cI τ9 30 = 0 := (congrArg Int32.toInt ((F9 93 30 rfl).trans ((hC8.2.1 93 30 rfl).trans ((F7 93 30 rfl).trans (hC6.2.1 93 30 rfl))))).trans c5.1
      refine ⟨hB9, f30, FQ.tr G4 (FQ.tr (FQ.up (G := [(93, 30), (93, 48), (93, 49)]) rfl F5) (FQ.tr (FQ.up (G := [(116, 9999), (117, 9999), (118, 9999)]) rfl hC6.2.1) (FQ.tr (FQ.up (G := []) rfl F7) (FQ.tr (FQ.up (G := [(119, 9999), (120, 9999)]) rfl hC8.2.1) (FQ.up (G := [(93, 36)]) rfl F9))))), Or.inl ⟨x1, rfl, x4, x3, f46, f47, ?_, ?_, x5, ?_⟩⟩
      · rw [← x4]
        exact c9.1
      · refine mt_LN.cp (k := (tX tp n).2.1) (σ := τ4) (fun i hi => ?_) (tX tp n).2.2 0 0 (by omega) x7
        have q := hC6.2.2.2 i hi
        refine ⟨?_, ?_, ?_⟩
        · rw [F9 116 i rfl, hC8.2.1 116 i rfl, F7 116 i rfl, q.1, F5 116 _ rfl]
        · rw [F9 117 i rfl, hC8.2.1 117 i rfl, F7 117 i rfl, q.2.1, F5 117 _ rfl]
        · rw [F9 118 i rfl, hC8.2.1 118 i rfl, F7 118 i rfl, q.2.2, F5 118 _ rfl]
      · intro j hj
        have q := hC8.2.2.2 j hj
        have p := x6.2.1 j hj
        refine ⟨?_, ?_⟩
        · have e : sI τ9 119 j = sI τ4 119 (400 + j) := congrArg Int32.toInt (by rw [F9 119 j rfl, q.1, F7 119 _ rfl, hC6.2.1 119 _ rfl, F5 119 _ rfl])
          rw [e]
          exact p.1
        · have e : sI τ9 120 j = sI τ4 120 (400 + j) := congrArg Int32.toInt (by rw [F9 120 j rfl, q.2, F7 120 _ rfl, hC6.2.1 120 _ rfl, F5 120 _ rfl])
          rw [e]
          exact p.2
    · intro τ5 y5 hB5 F5 f _ _ _
      have f1 := f.1
      exfalso
      omega
  · refine mq_z22 (-1) (cI τ4 46) (cI τ4 47) (cI τ4 48) (cI τ4 49) w1 w2 k1 k2 hB4 ⟨by decide, g46, g47, ai_rng _, ai_rng _, trivial⟩ ⟨rfl, rfl, rfl, rfl, trivial⟩ ?_ ?_
    · intro τ5 y5 hB5 F5 f _ _ _
      have f1 := f.1
      exfalso
      omega
    · intro τ5 y5 hB5 F5 _ _ _ c5
      refine ⟨hB5, c5.1, FQ.tr G4 (FQ.up (G := [(93, 30), (93, 48), (93, 49)]) rfl F5), Or.inr ⟨x1, rfl, c5.2.2.2.1.trans x3.1.1, c5.2.2.2.2.1.trans x3.1.2, ⟨fun j hj => ?_, fun j hj => ?_⟩, (congrArg Int32.toInt (F5 93 36 rfl)).trans e36⟩⟩
      · have q := x3.2 j hj
        rw [F5 119 j rfl, F5 120 j rfl, q.1, q.2, same 119 (by omega), same 120 (by omega)]
        exact ⟨rfl, rfl⟩
      · have q := K4 j (by omega)
        rw [F5 116 j rfl, F5 117 j rfl, F5 118 j rfl, q.1, q.2.1, q.2.2, same 116 (by omega), same 117 (by omega), same 118 (by omega)]
        exact ⟨rfl, rfl, rfl⟩
end MTT
