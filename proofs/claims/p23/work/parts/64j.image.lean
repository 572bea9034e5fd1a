/-! image jointly with spots -/
set_option maxRecDepth 100000 in
theorem sg_cim {σ : pm_S} {Q : Option Value → pm_S → Prop} (x0 x1 x2 x3 : Int)  (hB : an_GB pm_B σ) (eF : (0 ≤ x0 ∧ x0 ≤ 1) ∧ (0 ≤ x1 ∧ x1 ≤ 1) ∧ (0 ≤ x2 ∧ x2 ≤ 10) ∧ (0 ≤ x3 ∧ x3 ≤ 10) ∧ True) (eC : (σ.1 0 2).toInt = x1 ∧ (σ.1 3 0).toInt = x2 ∧ (σ.1 36 0).toInt = x3 ∧ True)
    (l0 : ∀ (τ : pm_S) (y : Nat → Int), an_GB pm_B τ → FQ [(0, 2), (1, 0), (1, 1), (1, 2), (1, 3), (2, 9999), (3, 0), (4, 9999), (5, 9999), (6, 9999), (7, 0), (8, 9999), (9, 9999), (10, 9999), (11, 9999), (12, 9999), (13, 0), (14, 9999), (15, 9999), (16, 9999), (17, 9999), (18, 9999), (19, 9999), (20, 9999), (21, 0), (22, 9999), (23, 9999), (24, 9999), (25, 9999), (31, 0), (31, 1), (32, 9999), (34, 0), (34, 1), (34, 2), (34, 3), (35, 9999), (36, 0), (37, 9999), (38, 9999), (39, 9999), (40, 0), (41, 9999), (42, 9999), (43, 9999), (44, 9999), (45, 9999), (46, 0), (47, 9999), (48, 9999), (49, 9999), (50, 9999), (51, 9999), (52, 9999), (53, 9999), (54, 0), (55, 9999), (56, 9999), (57, 9999), (58, 9999), (64, 0), (64, 1), (65, 9999)] σ τ → ((0 ≤ x0 ∧ x0 ≤ 0) ∧ (0 ≤ x1 ∧ x1 ≤ 0) ∧ (0 ≤ x2 ∧ x2 ≤ 10) ∧ (0 ≤ x3 ∧ x3 ≤ 10) ∧ True) → (True) → (True) → ((τ.1 0 2).toInt = x1 ∧ (τ.1 3 0).toInt = x2 ∧ (τ.1 36 0).toInt = x3 ∧ True) → Q (some (.int (Int32.ofInt 0))) τ)
    (l1 : ∀ (τ : pm_S) (y : Nat → Int), an_GB pm_B τ → FQ [(0, 2), (1, 0), (1, 1), (1, 2), (1, 3), (2, 9999), (3, 0), (4, 9999), (5, 9999), (6, 9999), (7, 0), (8, 9999), (9, 9999), (10, 9999), (11, 9999), (12, 9999), (13, 0), (14, 9999), (15, 9999), (16, 9999), (17, 9999), (18, 9999), (19, 9999), (20, 9999), (21, 0), (22, 9999), (23, 9999), (24, 9999), (25, 9999), (31, 0), (31, 1), (32, 9999), (34, 0), (34, 1), (34, 2), (34, 3), (35, 9999), (36, 0), (37, 9999), (38, 9999), (39, 9999), (40, 0), (41, 9999), (42, 9999), (43, 9999), (44, 9999), (45, 9999), (46, 0), (47, 9999), (48, 9999), (49, 9999), (50, 9999), (51, 9999), (52, 9999), (53, 9999), (54, 0), (55, 9999), (56, 9999), (57, 9999), (58, 9999), (64, 0), (64, 1), (65, 9999)] σ τ → ((0 ≤ x0 ∧ x0 ≤ 0) ∧ (1 ≤ x1 ∧ x1 ≤ 1) ∧ (0 ≤ x2 ∧ x2 ≤ 10) ∧ (0 ≤ x3 ∧ x3 ≤ 10) ∧ True) → (True) → (True) → ((τ.1 0 2).toInt = x1 ∧ (τ.1 3 0).toInt = x3 ∧ (τ.1 36 0).toInt = x3 ∧ True) → Q (some (.int (Int32.ofInt 1))) τ)
    (l2 : ∀ (τ : pm_S) (y : Nat → Int), an_GB pm_B τ → FQ [(0, 2), (1, 0), (1, 1), (1, 2), (1, 3), (2, 9999), (3, 0), (4, 9999), (5, 9999), (6, 9999), (7, 0), (8, 9999), (9, 9999), (10, 9999), (11, 9999), (12, 9999), (13, 0), (14, 9999), (15, 9999), (16, 9999), (17, 9999), (18, 9999), (19, 9999), (20, 9999), (21, 0), (22, 9999), (23, 9999), (24, 9999), (25, 9999), (31, 0), (31, 1), (32, 9999), (34, 0), (34, 1), (34, 2), (34, 3), (35, 9999), (36, 0), (37, 9999), (38, 9999), (39, 9999), (40, 0), (41, 9999), (42, 9999), (43, 9999), (44, 9999), (45, 9999), (46, 0), (47, 9999), (48, 9999), (49, 9999), (50, 9999), (51, 9999), (52, 9999), (53, 9999), (54, 0), (55, 9999), (56, 9999), (57, 9999), (58, 9999), (64, 0), (64, 1), (65, 9999)] σ τ → ((1 ≤ x0 ∧ x0 ≤ 1) ∧ (0 ≤ x1 ∧ x1 ≤ 1) ∧ (0 ≤ x2 ∧ x2 ≤ 10) ∧ (0 ≤ x3 ∧ x3 ≤ 10) ∧ True) → (True) → (True) → ((τ.1 0 2).toInt = 1 ∧ (τ.1 3 0).toInt = x2 ∧ (τ.1 36 0).toInt = x2 ∧ True) → Q (some (.int (Int32.ofInt 1))) τ)
    : Ok 151 41 0 [.ref 0, .int (Int32.ofInt (x0))] [] σ Q := by
  refine an_seg (B := pm_B) (F := [(0, 2), (1, 0), (1, 1), (1, 2), (1, 3), (2, 9999), (3, 0), (4, 9999), (5, 9999), (6, 9999), (7, 0), (8, 9999), (9, 9999), (10, 9999), (11, 9999), (12, 9999), (13, 0), (14, 9999), (15, 9999), (16, 9999), (17, 9999), (18, 9999), (19, 9999), (20, 9999), (21, 0), (22, 9999), (23, 9999), (24, 9999), (25, 9999), (31, 0), (31, 1), (32, 9999), (34, 0), (34, 1), (34, 2), (34, 3), (35, 9999), (36, 0), (37, 9999), (38, 9999), (39, 9999), (40, 0), (41, 9999), (42, 9999), (43, 9999), (44, 9999), (45, 9999), (46, 0), (47, 9999), (48, 9999), (49, 9999), (50, 9999), (51, 9999), (52, 9999), (53, 9999), (54, 0), (55, 9999), (56, 9999), (57, 9999), (58, 9999), (64, 0), (64, 1), (65, 9999)]) (T := []) (S := []) (fun _ h => absurd h List.not_mem_nil) (k := 151) (d := 40) (cs := []) 423 0 4 [(0, 0, 1), (1, 0, 1), (2, 0, 10), (3, 0, 10)] [(0, (1, 0, 2), (0, 1, 0)), (3, (1, 0, 0), (0, 2, 0)), (36, (1, 0, 0), (0, 3, 0))] [(2, 0, 0), (0, 0, 0)] [] [(9999, [], [(1, 0, 0)], [(0, 0, 0), (1, 0, 0), (2, 0, 10), (3, 0, 10)], [], [], [(0, (1, 0, 2), (0, 1, 0)), (3, (1, 0, 0), (0, 2, 0)), (36, (1, 0, 0), (0, 3, 0))]),
    (9999, [], [(1, 0, 1)], [(0, 0, 0), (1, 1, 1), (2, 0, 10), (3, 0, 10)], [], [], [(0, (1, 0, 2), (0, 1, 0)), (3, (1, 0, 0), (0, 3, 0)), (36, (1, 0, 0), (0, 3, 0))]),
    (9999, [], [(1, 0, 1)], [(0, 1, 1), (1, 0, 1), (2, 0, 10), (3, 0, 10)], [], [], [(0, (1, 0, 2), (1, 0, 1)), (3, (1, 0, 0), (0, 2, 0)), (36, (1, 0, 0), (0, 2, 0))])] (by decide +kernel) (ρ0 := (fun s => [x0, x1, x2, x3].getD s 0)) hB eF eC ⟨rfl, ⟨rfl, trivial⟩⟩ trivial ?_
  refine List.forall_mem_cons.mpr ⟨?_, List.forall_mem_cons.mpr ⟨?_, List.forall_mem_cons.mpr ⟨?_, fun _ h => absurd h List.not_mem_nil⟩⟩⟩
  · intro ρ τ Lc stc hx g1 g2 g3 g4 g5 g6 g7 g8
    have e0 : ρ 0 = x0 := hx 0 (by decide)
    have e1 : ρ 1 = x1 := hx 1 (by decide)
    have e2 : ρ 2 = x2 := hx 2 (by decide)
    have e3 : ρ 3 = x3 := hx 3 (by decide)
    subst e0
    subst e1
    subst e2
    subst e3
    match stc, g8 with
    | [_], ⟨h, _⟩ => cases h; exact l0 τ ρ g1 g2 g3 g4 g5 g6
  · intro ρ τ Lc stc hx g1 g2 g3 g4 g5 g6 g7 g8
    have e0 : ρ 0 = x0 := hx 0 (by decide)
    have e1 : ρ 1 = x1 := hx 1 (by decide)
    have e2 : ρ 2 = x2 := hx 2 (by decide)
    have e3 : ρ 3 = x3 := hx 3 (by decide)
    subst e0
    subst e1
    subst e2
    subst e3
    match stc, g8 with
    | [_], ⟨h, _⟩ => cases h; exact l1 τ ρ g1 g2 g3 g4 g5 g6
  · intro ρ τ Lc stc hx g1 g2 g3 g4 g5 g6 g7 g8
    have e0 : ρ 0 = x0 := hx 0 (by decide)
    have e1 : ρ 1 = x1 := hx 1 (by decide)
    have e2 : ρ 2 = x2 := hx 2 (by decide)
    have e3 : ρ 3 = x3 := hx 3 (by decide)
    subst e0
    subst e1
    subst e2
    subst e3
    match stc, g8 with
    | [_], ⟨h, _⟩ => cases h; exact l2 τ ρ g1 g2 g3 g4 g5 g6
abbrev CLs : List (Nat × Nat) := [(0, 2), (3, 0), (36, 0), (7, 0), (40, 0), (13, 0), (46, 0), (21, 0), (54, 0)]
theorem CLs_F : ∀ q ∈ CLs, an_inF FIm q.1 q.2 = false := by decide
theorem CLs_p : ∀ q ∈ CLs, q.1 ≠ 133 ∧ q.1 ≠ 93 ∧ psI q.1 q.2 = none := by decide
theorem kb_image (w : Int32) (hw : w = 0 ∨ w = 1) : ∀ σ, an_GB pm_B σ → mP σ → Sp 245 1200 [.ref 93, .int w] σ (fun r τ => an_sh 1 r ∧ an_GB pm_B τ ∧ mP τ ∧ (∀ q ∈ CLs, τ.1 q.1 q.2 = σ.1 q.1 q.2) ∧ ((r = some (.int (Int32.ofInt 0)) ∧ w.toInt = 0 ∧ cI σ 64 = 0 ∧ cI τ 64 = 0 ∧ FQ FIm σ τ) ∨ (r = some (.int (Int32.ofInt 1)) ∧ (w.toInt = 1 ∨ cI σ 64 = 1) ∧ cI τ 64 = 1 ∧ ∃ σ1, FQ FIm σ σ1 ∧ ∀ i, i < 1431 → qsV τ i = vI σ1 w.toInt i ∧ τ.1 133 i = vI σ1 w.toInt i))) := by
  intro σ hB hp
  have ht : w.toInt = 0 ∨ w.toInt = 1 := by
    rcases hw with rfl | rfl
    · exact Or.inl rfl
    · exact Or.inr rfl
  rw [← oI w]
  refine (m_image hB hp.2.1 w.toInt ht).use (by decide) (fun r τ q => ?_)
  obtain ⟨q1, q2⟩ := q
  rcases q2 with ⟨k1, F, k3, e1, e2, e3⟩ | ⟨h64, σ1, hB1, F1, hI, e1⟩
  · refine ⟨q1, k1, ?_, fun q hq => F _ _ (CLs_F q hq), Or.inl ⟨e1, by rw [oI]; exact e2, e3, by omega, F⟩⟩
    have F0 : FQ [(93, 0), (93, 63), (93, 65), (93, 64)] σ τ := F.up rfl
    refine ⟨⟨pPP.fr FIm rfl rfl rfl rfl rfl rfl rfl rfl F hp.1.1, ?_⟩, mP_img k3 (fun i => F 133 i rfl) hp⟩
    unfold sPP
    rw [F.c 2 rfl, F.c 5 rfl]
    exact hp.1.2
  · obtain ⟨hBt, i65, i63, i64, hall, hfr⟩ := hI
    refine ⟨q1, hBt, ?_, fun q hq => (hfr _ _ (CLs_p q hq).1 (fun z => (CLs_p q hq).2.1 z.1) (CLs_p q hq).2.2).trans (F1 _ _ (CLs_F q hq)), Or.inr ⟨e1, h64.imp (fun z => by rw [oI]; exact z) id, i64, σ1, F1, fun i hi => by rw [oI]; exact (hall i hi).1 hi⟩⟩
    have hv : ∀ i, i < 1431 → qsV τ i = vI σ1 w.toInt i ∧ τ.1 133 i = vI σ1 w.toInt i := fun i hi => (hall i hi).1 hi
    have same : ∀ i, i < 1431 → qsV τ i = τ.1 133 i := fun i hi => (hv i hi).1.trans (hv i hi).2.symm
    have himg := p0_img hBt same
    -- what the state is that both come from
    have p1 : p0P σ1 := by
      refine ⟨pPP.fr FIm rfl rfl rfl rfl rfl rfl rfl rfl F1 hp.1.1, ?_⟩
      unfold sPP
      rw [F1.c 2 rfl, F1.c 5 rfl]
      exact hp.1.2
    have pt : p0P τ := by
      rcases ht with e | e
      · have h1 : cI σ 64 = 1 := h64.resolve_left (by omega)
        have e1 : imgS σ1 = imgS σ := imgS_e (fun i => F1 133 i rfl)
        refine (p0_img (σ := σ1) hBt (fun i hi => ?_)).1 (by rw [e1]; exact hp.2.2 h1)
        rw [(hv i hi).1]
        exact if_neg (by omega)
      · have a : ∀ i p j, i < 1431 → qsI i = (p, j) → τ.1 p j = σ1.1 p j := fun i p j hi hq => by
          have := (hv i hi).1
          unfold qsV at this
          rw [hq] at this
          rw [this]
          have : vI σ1 w.toInt i = qsV σ1 i := if_pos e
          rw [this]
          unfold qsV
          rw [hq]
        obtain ⟨a1, a2, a3, a4, a5, a6⟩ := psR
        have g36 : 0 ≤ cI σ1 36 ∧ cI σ1 36 ≤ 16 := hB1 93 36 (by decide)
        have g11 : 0 ≤ cI σ1 11 ∧ cI σ1 11 ≤ 30 := hB1 93 11 (by decide)
        exact p0_of g36.2 g11.2 (congrArg Int32.toInt (a 582 93 36 (by decide) rfl)) (congrArg Int32.toInt (a 250 93 11 (by decide) rfl)) (congrArg Int32.toInt (a 1 93 2 (by decide) rfl)) (congrArg Int32.toInt (a 192 93 5 (by decide) rfl)) (fun j hj => ⟨a _ 101 j (a1 j hj).2 (a1 j hj).1, a _ 102 j (a2 j hj).2 (a2 j hj).1⟩) (fun j hj => ⟨a _ 117 j (a3 j hj).2 (a3 j hj).1, a _ 118 j (a4 j hj).2 (a4 j hj).1⟩) (fun j hj => ⟨a _ 119 j (a5 j hj).2 (a5 j hj).1, a _ 120 j (a6 j hj).2 (a6 j hj).1⟩) p1
    refine ⟨pt, fun _ i hi => ?_, fun _ => himg.2 pt⟩
    rw [← same i hi]
    exact hBt _ _ (qs_len i hi)
theorem ts_image (a1 : Int32) (hw : a1 = 0 ∨ a1 = 1) : Two 1 true (IK Ks) (IK Ks) 151 245 [.int a1] := by
  intro σ hI
  have d1 := KE.d hI.2.2
  have d2 := KE.d d1.2
  have d3 := KE.d d2.2
  have e1 : (σ.1 3 0).toInt = cI σ 2 := d1.1
  have e2 : (σ.1 0 2).toInt = cI σ 64 := d2.1
  have e3 : (σ.1 36 0).toInt = (σ.1 133 1).toInt := d3.1
  have g2 : 0 ≤ cI σ 2 ∧ cI σ 2 ≤ 10 := hI.1 93 2 (by decide)
  have g64 : 0 ≤ cI σ 64 ∧ cI σ 64 ≤ 1 := hI.1 93 64 (by decide)
  have g36 : 0 ≤ (σ.1 36 0).toInt ∧ (σ.1 36 0).toInt ≤ 10 := hI.1 36 0 (by decide)
  have ga : 0 ≤ a1.toInt ∧ a1.toInt ≤ 1 := by rcases hw with rfl | rfl <;> decide
  refine Sp.up (D := 41) ?_ (by decide)
  refine Sp.at rfl rfl ?_
  show Ok 151 41 0 [.ref 0, .int a1] [] σ _
  have go : ∀ (τ : pm_S) (c n k h : Int), an_GB pm_B τ → (∀ p j, 93 ≤ p → τ.1 p j = σ.1 p j) → (τ.1 0 2).toInt = h → (τ.1 3 0).toInt = n → (τ.1 36 0).toInt = k → ((c = 0 ∧ a1.toInt = 0 ∧ cI σ 64 = 0 ∧ h = 0 ∧ n = cI σ 2 ∧ k = (σ.1 36 0).toInt) ∨ (c = 1 ∧ h = 1 ∧ ((a1.toInt = 1 ∧ n = cI σ 2 ∧ k = cI σ 2) ∨ (a1.toInt = 0 ∧ cI σ 64 = 1 ∧ n = (σ.1 36 0).toInt ∧ k = (σ.1 36 0).toInt)))) → an_sh 1 (some (.int (Int32.ofInt c))) ∧ Sp 245 1200 (.ref 93 :: [.int a1]) τ (fun r2 τ2 => an_sh 1 r2 ∧ (true = true → some (Value.int (Int32.ofInt c)) = r2) ∧ IK Ks τ2) := by
    intro τ c n k h hB hF ch cn ck hc
    have hp : mP τ := mP93 σ τ hF hI.2.1
    have f64 : cI τ 64 = cI σ 64 := congrArg Int32.toInt (hF 93 64 (by decide))
    have f2 : τ.1 93 2 = σ.1 93 2 := hF 93 2 (by decide)
    have f133 : τ.1 133 1 = σ.1 133 1 := hF 133 1 (by decide)
    refine ⟨⟨_, rfl⟩, (kb_image a1 hw τ hB hp).mono (fun r2 τ2 q => ?_)⟩
    obtain ⟨q1, q2, q3, q4, q5⟩ := q
    have c02 : (τ2.1 0 2).toInt = h := by rw [q4 (0, 2) (by decide)]; exact ch
    have c30 : (τ2.1 3 0).toInt = n := by rw [q4 (3, 0) (by decide)]; exact cn
    have c36 : (τ2.1 36 0).toInt = k := by rw [q4 (36, 0) (by decide)]; exact ck
    rcases q5 with ⟨b1, b2, b3, b4, F⟩ | ⟨b1, b2, b3, σ1, F1, hv⟩
    · have c0 : c = 0 := by omega
      have z2 : cI τ2 2 = cI σ 2 := by show (τ2.1 93 2).toInt = _; rw [F 93 2 rfl, f2]
      have z133 : (τ2.1 133 1).toInt = (σ.1 133 1).toInt := by rw [F 133 1 rfl, f133]
      refine ⟨q1, fun _ => by rw [b1, c0], q2, q3, KE.c ?_ (KE.c ?_ (KE.c ?_ (fun q hq => absurd hq List.not_mem_nil)))⟩
      · show (τ2.1 3 0).toInt = cI τ2 2
        omega
      · show (τ2.1 0 2).toInt = cI τ2 64
        omega
      · show (τ2.1 36 0).toInt = (τ2.1 133 1).toInt
        omega
    · have c1 : c = 1 := by omega
      have h1 : h = 1 := by omega
      have v := hv 1 (by decide)
      have va : (vI σ1 a1.toInt 1).toInt = if a1.toInt = 1 then cI σ 2 else (σ.1 133 1).toInt := by
        unfold vI
        split
        · show (σ1.1 93 2).toInt = _
          rw [F1 93 2 rfl, f2]
        · rw [F1 133 1 rfl, f133]
      have z2 : cI τ2 2 = (vI σ1 a1.toInt 1).toInt := congrArg Int32.toInt v.1
      have z133 : (τ2.1 133 1).toInt = (vI σ1 a1.toInt 1).toInt := congrArg Int32.toInt v.2
      have vn : (vI σ1 a1.toInt 1).toInt = n ∧ (vI σ1 a1.toInt 1).toInt = k := by
        rw [va]
        split <;> omega
      refine ⟨q1, fun _ => by rw [b1, c1], q2, q3, KE.c ?_ (KE.c ?_ (KE.c ?_ (fun q hq => absurd hq List.not_mem_nil)))⟩
      · show (τ2.1 3 0).toInt = cI τ2 2
        omega
      · show (τ2.1 0 2).toInt = cI τ2 64
        omega
      · show (τ2.1 36 0).toInt = (τ2.1 133 1).toInt
        omega
  rw [← oI a1] at go ⊢
  have eo : (Int32.ofInt a1.toInt).toInt = a1.toInt := by rw [oI]
  refine sg_cim a1.toInt (cI σ 64) (cI σ 2) (σ.1 36 0).toInt hI.1 ⟨ga, g64, g2, g36, trivial⟩ ⟨e2, e1, rfl, trivial⟩ ?_ ?_ ?_ <;>
  · intro τ y hB1 hF1 f _ _ c
    have f0 := f.1
    have f1 := f.2.1
    exact go τ _ _ _ _ hB1 (fun p j hp => hF1 p j (an_foot93 rfl hp)) c.1 c.2.1 c.2.2.1 (by omega)
