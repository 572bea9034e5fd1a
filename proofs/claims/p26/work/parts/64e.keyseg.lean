/-! image, text, feed, end: what they do to the keys, by program, each checked by the kernel -/
/-- PaidWhereMade.image -/
abbrev sx_im1 : an_S := (151, 1000, [(2, 0, 0, 0), (1, 0, 1, 1)], [], (1, 1, 1), [(0, 2), (34, 0), (34, 1), (34, 2), (34, 3), (35, 9999), (36, 0), (37, 9999), (38, 9999), (39, 9999), (40, 0), (41, 9999), (42, 9999), (43, 9999), (44, 9999), (45, 9999), (46, 0), (47, 9999), (48, 9999), (49, 9999), (50, 9999), (51, 9999), (52, 9999), (53, 9999), (54, 0), (55, 9999), (56, 9999), (57, 9999), (58, 9999), (64, 0), (64, 1), (65, 9999)], [(0, 2, 1, 1)])
set_option maxRecDepth 100000 in
theorem sx_im1_ok : an_sok pm_B sx_im1 := an_sum (T := []) (S := []) (H := []) (f := 425) (fun _ h => absurd h List.not_mem_nil) (by decide +kernel)
/-- PaidWhereMade.image -/
abbrev sx_im0 : an_S := (151, 1000, [(2, 0, 0, 0), (1, 0, 0, 0)], [(0, 2, 0, 0)], (1, 0, 0), [], [(0, 2, 0, 0)])
set_option maxRecDepth 100000 in
theorem sx_im0_ok : an_sok pm_B sx_im0 := an_sum (T := []) (S := []) (H := []) (f := 12) (fun _ h => absurd h List.not_mem_nil) (by decide +kernel)
/-- PaidWhereMade.image -/
abbrev sx_imb : an_S := (151, 1000, [(2, 0, 0, 0), (1, 0, 0, 0)], [(0, 2, 1, 1)], (1, 1, 1), [(1, 0), (1, 1), (1, 2), (1, 3), (2, 9999), (3, 0), (4, 9999), (5, 9999), (6, 9999), (7, 0), (8, 9999), (9, 9999), (10, 9999), (11, 9999), (12, 9999), (13, 0), (14, 9999), (15, 9999), (16, 9999), (17, 9999), (18, 9999), (19, 9999), (20, 9999), (21, 0), (22, 9999), (23, 9999), (24, 9999), (25, 9999), (31, 0), (31, 1), (32, 9999)], [(0, 2, 1, 1)])
set_option maxRecDepth 100000 in
theorem sx_imb_ok : an_sok pm_B sx_imb := an_sum (T := []) (S := []) (H := []) (f := 424) (fun _ h => absurd h List.not_mem_nil) (by decide +kernel)
/-- LawReader.readInto -/
abbrev sx_ri : an_S := (27, 150, [(2, 67, 0, 0), (2, 31, 0, 0)], [], (1, (-2147483648), 2147483647), [(31, 0), (31, 1), (32, 9999), (67, 0), (67, 1), (67, 2), (67, 7), (67, 8), (67, 9), (69, 0), (69, 1), (70, 9999), (72, 9999), (73, 9999)], [(67, 2, 0, 0)])
set_option maxRecDepth 100000 in
theorem sx_ri_ok : an_sok pm_B sx_ri := an_sum (T := []) (S := [se_8, se_9, se_10, se_11, se_12, se_13, se_14, se_15, se_17, se_18, se_19, se_20, se_21, se_22, se_23, se_24, se_25, se_26, se_27, se_28, se_29, se_30, se_31, se_32, se_33, se_34]) (H := [(25, [(2, 67, 0, 0), (2, 31, 0, 0), (1, 0, 0, 17)], [(67, 2, 0, 0)], [(2, 2, 17), (0, 0, 1000000000000), (0, 0, 1000000000000), (0, 0, 1000000000000)], [])]) (f := 152) (List.forall_mem_cons.mpr ⟨se_8_ok, List.forall_mem_cons.mpr ⟨se_9_ok, List.forall_mem_cons.mpr ⟨se_10_ok, List.forall_mem_cons.mpr ⟨se_11_ok, List.forall_mem_cons.mpr ⟨se_12_ok, List.forall_mem_cons.mpr ⟨se_13_ok, List.forall_mem_cons.mpr ⟨se_14_ok, List.forall_mem_cons.mpr ⟨se_15_ok, List.forall_mem_cons.mpr ⟨se_17_ok, List.forall_mem_cons.mpr ⟨se_18_ok, List.forall_mem_cons.mpr ⟨se_19_ok, List.forall_mem_cons.mpr ⟨se_20_ok, List.forall_mem_cons.mpr ⟨se_21_ok, List.forall_mem_cons.mpr ⟨se_22_ok, List.forall_mem_cons.mpr ⟨se_23_ok, List.forall_mem_cons.mpr ⟨se_24_ok, List.forall_mem_cons.mpr ⟨se_25_ok, List.forall_mem_cons.mpr ⟨se_26_ok, List.forall_mem_cons.mpr ⟨se_27_ok, List.forall_mem_cons.mpr ⟨se_28_ok, List.forall_mem_cons.mpr ⟨se_29_ok, List.forall_mem_cons.mpr ⟨se_30_ok, List.forall_mem_cons.mpr ⟨se_31_ok, List.forall_mem_cons.mpr ⟨se_32_ok, List.forall_mem_cons.mpr ⟨se_33_ok, List.forall_mem_cons.mpr ⟨se_34_ok, fun _ h => absurd h List.not_mem_nil⟩⟩⟩⟩⟩⟩⟩⟩⟩⟩⟩⟩⟩⟩⟩⟩⟩⟩⟩⟩⟩⟩⟩⟩⟩⟩) (by decide +kernel)
/-- PaidWhereMade.text -/
abbrev sx_tx : an_S := (137, 1000, [(2, 0, 0, 0)], [], (1, (-2147483648), 2147483647), [(31, 0), (31, 1), (32, 9999), (67, 0), (67, 1), (67, 2), (67, 7), (67, 8), (67, 9), (69, 0), (69, 1), (70, 9999), (72, 9999), (73, 9999)], [(67, 2, 0, 0)])
set_option maxRecDepth 100000 in
theorem sx_tx_ok : an_sok pm_B sx_tx := an_sum (T := []) (S := [sx_ri, se_8, se_9, se_10, se_11, se_12, se_13, se_14, se_15, se_17, se_18, se_19, se_20, se_21, se_22, se_23, se_24, se_25, se_26, se_27, se_28, se_29, se_30, se_31, se_32, se_33, se_34, se_35]) (H := []) (f := 11) (List.forall_mem_cons.mpr ⟨sx_ri_ok, List.forall_mem_cons.mpr ⟨se_8_ok, List.forall_mem_cons.mpr ⟨se_9_ok, List.forall_mem_cons.mpr ⟨se_10_ok, List.forall_mem_cons.mpr ⟨se_11_ok, List.forall_mem_cons.mpr ⟨se_12_ok, List.forall_mem_cons.mpr ⟨se_13_ok, List.forall_mem_cons.mpr ⟨se_14_ok, List.forall_mem_cons.mpr ⟨se_15_ok, List.forall_mem_cons.mpr ⟨se_17_ok, List.forall_mem_cons.mpr ⟨se_18_ok, List.forall_mem_cons.mpr ⟨se_19_ok, List.forall_mem_cons.mpr ⟨se_20_ok, List.forall_mem_cons.mpr ⟨se_21_ok, List.forall_mem_cons.mpr ⟨se_22_ok, List.forall_mem_cons.mpr ⟨se_23_ok, List.forall_mem_cons.mpr ⟨se_24_ok, List.forall_mem_cons.mpr ⟨se_25_ok, List.forall_mem_cons.mpr ⟨se_26_ok, List.forall_mem_cons.mpr ⟨se_27_ok, List.forall_mem_cons.mpr ⟨se_28_ok, List.forall_mem_cons.mpr ⟨se_29_ok, List.forall_mem_cons.mpr ⟨se_30_ok, List.forall_mem_cons.mpr ⟨se_31_ok, List.forall_mem_cons.mpr ⟨se_32_ok, List.forall_mem_cons.mpr ⟨se_33_ok, List.forall_mem_cons.mpr ⟨se_34_ok, List.forall_mem_cons.mpr ⟨se_35_ok, fun _ h => absurd h List.not_mem_nil⟩⟩⟩⟩⟩⟩⟩⟩⟩⟩⟩⟩⟩⟩⟩⟩⟩⟩⟩⟩⟩⟩⟩⟩⟩⟩⟩⟩) (by decide +kernel)
set_option maxRecDepth 100000 in
theorem sg_cfe {σ : pm_S} {Q : Option Value → pm_S → Prop} (x0 x1 x2 x3 x4 x5 : Int)  (hB : an_GB pm_B σ) (eF : (0 ≤ x0 ∧ x0 ≤ 400) ∧ ((-2147483648) ≤ x1 ∧ x1 ≤ 2147483647) ∧ ((-2147483648) ≤ x2 ∧ x2 ≤ 2147483647) ∧ ((-2147483648) ≤ x3 ∧ x3 ≤ 2147483647) ∧ ((-2147483648) ≤ x4 ∧ x4 ≤ 2147483647) ∧ ((-2147483648) ≤ x5 ∧ x5 ≤ 2147483647) ∧ True) (eC : (σ.1 67 2).toInt = x0 ∧ True)
    (l0 : ∀ (τ : pm_S) (y : Nat → Int), an_GB pm_B τ → FQ [(67, 2), (68, 9999)] σ τ → ((0 ≤ x0 ∧ x0 ≤ 380) ∧ ((-2147483648) ≤ x1 ∧ x1 ≤ 2147483647) ∧ ((-2147483648) ≤ x2 ∧ x2 ≤ 2147483647) ∧ ((-2147483648) ≤ x3 ∧ x3 ≤ 2147483647) ∧ ((-2147483648) ≤ x4 ∧ x4 ≤ 2147483647) ∧ ((-2147483648) ≤ x5 ∧ x5 ≤ 2147483647) ∧ True) → (True) → (True) → ((τ.1 67 2).toInt = x0 + 20 ∧ True) → Q (some (.int (Int32.ofInt (x0 + 20)))) τ)
    (l1 : ∀ (τ : pm_S) (y : Nat → Int), an_GB pm_B τ → FQ [(67, 2), (68, 9999)] σ τ → ((381 ≤ x0 ∧ x0 ≤ 400) ∧ ((-2147483648) ≤ x1 ∧ x1 ≤ 2147483647) ∧ ((-2147483648) ≤ x2 ∧ x2 ≤ 2147483647) ∧ ((-2147483648) ≤ x3 ∧ x3 ≤ 2147483647) ∧ ((-2147483648) ≤ x4 ∧ x4 ≤ 2147483647) ∧ ((-2147483648) ≤ x5 ∧ x5 ≤ 2147483647) ∧ True) → (True) → (True) → ((τ.1 67 2).toInt = x0 ∧ True) → Q (some (.int (Int32.ofInt (-1)))) τ)
    : Ok 135 21 0 [.ref 0, .int (Int32.ofInt (x1)), .int (Int32.ofInt (x2)), .int (Int32.ofInt (x3)), .int (Int32.ofInt (x4)), .int (Int32.ofInt (x5))] [] σ Q := by
  refine an_seg (B := pm_B) (F := [(67, 2), (68, 9999)]) (T := []) (S := []) (fun _ h => absurd h List.not_mem_nil) (k := 135) (d := 20) (cs := []) 540 0 6 [(0, 0, 400), (1, (-2147483648), 2147483647), (2, (-2147483648), 2147483647), (3, (-2147483648), 2147483647), (4, (-2147483648), 2147483647), (5, (-2147483648), 2147483647)] [(67, (1, 0, 2), (0, 0, 0))] [(2, 0, 0), (0, 1, 0), (0, 2, 0), (0, 3, 0), (0, 4, 0), (0, 5, 0)] [] [(9999, [], [(0, 0, 20)], [(0, 0, 380), (1, (-2147483648), 2147483647), (2, (-2147483648), 2147483647), (3, (-2147483648), 2147483647), (4, (-2147483648), 2147483647), (5, (-2147483648), 2147483647)], [], [], [(67, (1, 0, 2), (0, 0, 20))]),
    (9999, [], [(1, 0, (-1))], [(0, 381, 400), (1, (-2147483648), 2147483647), (2, (-2147483648), 2147483647), (3, (-2147483648), 2147483647), (4, (-2147483648), 2147483647), (5, (-2147483648), 2147483647)], [], [], [(67, (1, 0, 2), (0, 0, 0))])] (by decide +kernel) (ρ0 := (fun s => [x0, x1, x2, x3, x4, x5].getD s 0)) hB eF eC ⟨rfl, ⟨rfl, ⟨rfl, ⟨rfl, ⟨rfl, ⟨rfl, trivial⟩⟩⟩⟩⟩⟩ trivial ?_
  refine List.forall_mem_cons.mpr ⟨?_, List.forall_mem_cons.mpr ⟨?_, fun _ h => absurd h List.not_mem_nil⟩⟩
  · intro ρ τ Lc stc hx g1 g2 g3 g4 g5 g6 g7 g8
    have e0 : ρ 0 = x0 := hx 0 (by decide)
    have e1 : ρ 1 = x1 := hx 1 (by decide)
    have e2 : ρ 2 = x2 := hx 2 (by decide)
    have e3 : ρ 3 = x3 := hx 3 (by decide)
    have e4 : ρ 4 = x4 := hx 4 (by decide)
    have e5 : ρ 5 = x5 := hx 5 (by decide)
    subst e0
    subst e1
    subst e2
    subst e3
    subst e4
    subst e5
    match stc, g8 with
    | [_], ⟨h, _⟩ => cases h; exact l0 τ ρ g1 g2 g3 g4 g5 g6
  · intro ρ τ Lc stc hx g1 g2 g3 g4 g5 g6 g7 g8
    have e0 : ρ 0 = x0 := hx 0 (by decide)
    have e1 : ρ 1 = x1 := hx 1 (by decide)
    have e2 : ρ 2 = x2 := hx 2 (by decide)
    have e3 : ρ 3 = x3 := hx 3 (by decide)
    have e4 : ρ 4 = x4 := hx 4 (by decide)
    have e5 : ρ 5 = x5 := hx 5 (by decide)
    subst e0
    subst e1
    subst e2
    subst e3
    subst e4
    subst e5
    match stc, g8 with
    | [_], ⟨h, _⟩ => cases h; exact l1 τ ρ g1 g2 g3 g4 g5 g6
set_option maxRecDepth 100000 in
theorem sg_mfe {σ : pm_S} {Q : Option Value → pm_S → Prop} (x0 x1 x2 x3 x4 x5 : Int)  (hB : an_GB pm_B σ) (eF : (0 ≤ x0 ∧ x0 ≤ 400) ∧ ((-2147483648) ≤ x1 ∧ x1 ≤ 2147483647) ∧ ((-2147483648) ≤ x2 ∧ x2 ≤ 2147483647) ∧ ((-2147483648) ≤ x3 ∧ x3 ≤ 2147483647) ∧ ((-2147483648) ≤ x4 ∧ x4 ≤ 2147483647) ∧ ((-2147483648) ≤ x5 ∧ x5 ≤ 2147483647) ∧ True) (eC : (σ.1 93 30).toInt = x0 ∧ True)
    (l0 : ∀ (τ : pm_S) (y : Nat → Int), an_GB pm_B τ → FQ [(93, 0), (93, 30), (114, 9999)] σ τ → ((0 ≤ x0 ∧ x0 ≤ 380) ∧ ((-2147483648) ≤ x1 ∧ x1 ≤ 2147483647) ∧ ((-2147483648) ≤ x2 ∧ x2 ≤ 2147483647) ∧ ((-2147483648) ≤ x3 ∧ x3 ≤ 2147483647) ∧ ((-2147483648) ≤ x4 ∧ x4 ≤ 2147483647) ∧ ((-2147483648) ≤ x5 ∧ x5 ≤ 2147483647) ∧ True) → (True) → (True) → ((τ.1 93 30).toInt = x0 + 20 ∧ True) → Q (some (.int (Int32.ofInt (x0 + 20)))) τ)
    (l1 : ∀ (τ : pm_S) (y : Nat → Int), an_GB pm_B τ → FQ [(93, 0), (93, 30), (114, 9999)] σ τ → ((381 ≤ x0 ∧ x0 ≤ 400) ∧ ((-2147483648) ≤ x1 ∧ x1 ≤ 2147483647) ∧ ((-2147483648) ≤ x2 ∧ x2 ≤ 2147483647) ∧ ((-2147483648) ≤ x3 ∧ x3 ≤ 2147483647) ∧ ((-2147483648) ≤ x4 ∧ x4 ≤ 2147483647) ∧ ((-2147483648) ≤ x5 ∧ x5 ≤ 2147483647) ∧ True) → (True) → (True) → ((τ.1 93 30).toInt = x0 ∧ True) → Q (some (.int (Int32.ofInt (-1)))) τ)
    : Ok 175 21 0 [.ref 93, .int (Int32.ofInt (x1)), .int (Int32.ofInt (x2)), .int (Int32.ofInt (x3)), .int (Int32.ofInt (x4)), .int (Int32.ofInt (x5))] [] σ Q := by
  refine an_seg (B := pm_B) (F := [(93, 0), (93, 30), (114, 9999)]) (T := []) (S := []) (fun _ h => absurd h List.not_mem_nil) (k := 175) (d := 20) (cs := []) 452 0 6 [(0, 0, 400), (1, (-2147483648), 2147483647), (2, (-2147483648), 2147483647), (3, (-2147483648), 2147483647), (4, (-2147483648), 2147483647), (5, (-2147483648), 2147483647)] [(93, (1, 0, 30), (0, 0, 0))] [(2, 93, 0), (0, 1, 0), (0, 2, 0), (0, 3, 0), (0, 4, 0), (0, 5, 0)] [] [(9999, [], [(0, 0, 20)], [(0, 0, 380), (1, (-2147483648), 2147483647), (2, (-2147483648), 2147483647), (3, (-2147483648), 2147483647), (4, (-2147483648), 2147483647), (5, (-2147483648), 2147483647)], [], [], [(93, (1, 0, 30), (0, 0, 20))]),
    (9999, [], [(1, 0, (-1))], [(0, 381, 400), (1, (-2147483648), 2147483647), (2, (-2147483648), 2147483647), (3, (-2147483648), 2147483647), (4, (-2147483648), 2147483647), (5, (-2147483648), 2147483647)], [], [], [(93, (1, 0, 30), (0, 0, 0))])] (by decide +kernel) (ρ0 := (fun s => [x0, x1, x2, x3, x4, x5].getD s 0)) hB eF eC ⟨rfl, ⟨rfl, ⟨rfl, ⟨rfl, ⟨rfl, ⟨rfl, trivial⟩⟩⟩⟩⟩⟩ trivial ?_
  refine List.forall_mem_cons.mpr ⟨?_, List.forall_mem_cons.mpr ⟨?_, fun _ h => absurd h List.not_mem_nil⟩⟩
  · intro ρ τ Lc stc hx g1 g2 g3 g4 g5 g6 g7 g8
    have e0 : ρ 0 = x0 := hx 0 (by decide)
    have e1 : ρ 1 = x1 := hx 1 (by decide)
    have e2 : ρ 2 = x2 := hx 2 (by decide)
    have e3 : ρ 3 = x3 := hx 3 (by decide)
    have e4 : ρ 4 = x4 := hx 4 (by decide)
    have e5 : ρ 5 = x5 := hx 5 (by decide)
    subst e0
    subst e1
    subst e2
    subst e3
    subst e4
    subst e5
    match stc, g8 with
    | [_], ⟨h, _⟩ => cases h; exact l0 τ ρ g1 g2 g3 g4 g5 g6
  · intro ρ τ Lc stc hx g1 g2 g3 g4 g5 g6 g7 g8
    have e0 : ρ 0 = x0 := hx 0 (by decide)
    have e1 : ρ 1 = x1 := hx 1 (by decide)
    have e2 : ρ 2 = x2 := hx 2 (by decide)
    have e3 : ρ 3 = x3 := hx 3 (by decide)
    have e4 : ρ 4 = x4 := hx 4 (by decide)
    have e5 : ρ 5 = x5 := hx 5 (by decide)
    subst e0
    subst e1
    subst e2
    subst e3
    subst e4
    subst e5
    match stc, g8 with
    | [_], ⟨h, _⟩ => cases h; exact l1 τ ρ g1 g2 g3 g4 g5 g6
set_option maxRecDepth 100000 in
theorem sg_tx22k {σ : pm_S} {Q : Option Value → pm_S → Prop} (x0 : Int) (v1 : Value) (v2 : Value) (hv1 : v1.category = 1) (hv2 : v2.category = 1) (hB : an_GB pm_B σ) (eF : ((-1) ≤ x0 ∧ x0 ≤ 16) ∧ True)
    (l0 : ∀ (τ : pm_S) (y : Nat → Int), an_GB pm_B τ → FQ [(93, 30), (93, 48), (93, 49)] σ τ → ((0 ≤ x0 ∧ x0 ≤ 16) ∧ True) → (True) → (True) → ((τ.1 93 30).toInt = 0 ∧ True) → Ok 195 111 41 [.ref 93, .int (Int32.ofInt (x0)), .int (Int32.ofInt 0)] [] τ Q)
    (l1 : ∀ (τ : pm_S) (y : Nat → Int), an_GB pm_B τ → FQ [(93, 30), (93, 48), (93, 49)] σ τ → (((-1) ≤ x0 ∧ x0 ≤ (-1)) ∧ True) → (True) → (True) → ((τ.1 93 30).toInt = 0 ∧ True) → Q (some (.int (Int32.ofInt (-1)))) τ)
    : Ok 195 111 22 [.ref 93, v1, v2] [.int (Int32.ofInt (x0))] σ Q := by
  refine an_seg (B := pm_B) (F := [(93, 30), (93, 48), (93, 49)]) (T := []) (S := []) (fun _ h => absurd h List.not_mem_nil) (k := 195) (d := 110) (cs := [41]) 19 22 1 [(0, (-1), 16)] [] [(2, 93, 0), (5, 0, 0), (5, 0, 0)] [(0, 0, 0)] [(41, [(2, 93, 0), (0, 0, 0), (1, 0, 0)], [], [(0, 0, 16)], [], [], [(93, (1, 0, 30), (1, 0, 0))]),
    (9999, [], [(1, 0, (-1))], [(0, (-1), (-1))], [], [], [(93, (1, 0, 30), (1, 0, 0))])] (by decide +kernel) (ρ0 := (fun s => [x0].getD s 0)) hB eF trivial ⟨rfl, ⟨hv1, ⟨hv2, trivial⟩⟩⟩ ⟨rfl, trivial⟩ ?_
  refine List.forall_mem_cons.mpr ⟨?_, List.forall_mem_cons.mpr ⟨?_, fun _ h => absurd h List.not_mem_nil⟩⟩
  · intro ρ τ Lc stc hx g1 g2 g3 g4 g5 g6 g7 g8
    have e0 : ρ 0 = x0 := hx 0 (by decide)
    subst e0
    have g7 := g7 (by decide)
    match Lc, stc, g7, g8 with
    | [v0, v1, v2], [], ⟨hv0, hv1, hv2, _⟩, _ =>
      cases hv0
      cases hv1
      cases hv2
      exact l0 τ ρ  g1 g2 g3 g4 g5 g6
  · intro ρ τ Lc stc hx g1 g2 g3 g4 g5 g6 g7 g8
    have e0 : ρ 0 = x0 := hx 0 (by decide)
    subst e0
    match stc, g8 with
    | [_], ⟨h, _⟩ => cases h; exact l1 τ ρ g1 g2 g3 g4 g5 g6
