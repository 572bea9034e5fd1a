/-! segments of first, by program, each checked by the kernel -/
set_option maxRecDepth 100000 in
theorem sg_gr0 {σ : pm_S} {Q : Option Value → pm_S → Prop} (x0 x1 : Int) (v3 : Value) (v4 : Value) (hv3 : v3.category = 1) (hv4 : v4.category = 1) (hB : an_GB pm_B σ) (eF : (0 ≤ x0 ∧ x0 ≤ 29) ∧ (0 ≤ x1 ∧ x1 ≤ 8) ∧ True)
    (l0 : ∀ (τ : pm_S) (y : Nat → Int), an_GB pm_B τ → FQ [] σ τ → ((0 ≤ x0 ∧ x0 ≤ 29) ∧ (0 ≤ x1 ∧ x1 ≤ 8) ∧ (0 ≤ y 2 ∧ y 2 ≤ 99999) ∧ True) → (True) → (True) → ((τ.1 103 (x0).toNat).toInt = y 2 ∧ True) → Ok 221 6 7 [.ref 93, .int (Int32.ofInt (x0)), .int (Int32.ofInt (x1)), .int (Int32.ofInt (y 2)), .int (Int32.ofInt 0)] [] τ Q)
    : Ok 221 6 0 [.ref 93, .int (Int32.ofInt (x0)), .int (Int32.ofInt (x1)), v3, v4] [] σ Q := by
  refine an_seg (B := pm_B) (F := []) (T := [103]) (S := []) (fun _ h => absurd h List.not_mem_nil) (k := 221) (d := 5) (cs := [7]) 9 0 2 [(0, 0, 29), (1, 0, 8)] [] [(2, 93, 0), (0, 0, 0), (0, 1, 0), (5, 0, 0), (5, 0, 0)] [] [(7, [(2, 93, 0), (0, 0, 0), (0, 1, 0), (0, 2, 0), (1, 0, 0)], [], [(0, 0, 29), (1, 0, 8), (2, 0, 99999)], [], [], [(103, (0, 0, 0), (0, 2, 0))])] (by decide +kernel) (ρ0 := (fun s => [x0, x1].getD s 0)) hB eF trivial ⟨rfl, ⟨rfl, ⟨rfl, ⟨hv3, ⟨hv4, trivial⟩⟩⟩⟩⟩ trivial ?_
  refine List.forall_mem_cons.mpr ⟨?_, fun _ h => absurd h List.not_mem_nil⟩
  · intro ρ τ Lc stc hx g1 g2 g3 g4 g5 g6 g7 g8
    have e0 : ρ 0 = x0 := hx 0 (by decide)
    have e1 : ρ 1 = x1 := hx 1 (by decide)
    subst e0
    subst e1
    have g7 := g7 (by decide)
    match Lc, stc, g7, g8 with
    | [v0, v1, v2, v3, v4], [], ⟨hv0, hv1, hv2, hv3, hv4, _⟩, _ =>
      cases hv0
      cases hv1
      cases hv2
      cases hv3
      cases hv4
      exact l0 τ ρ  g1 g2 g3 g4 g5 g6
set_option maxRecDepth 100000 in
theorem sg_gr7 {σ : pm_S} {Q : Option Value → pm_S → Prop} (x0 x1 x2 x3 : Int)  (hB : an_GB pm_B σ) (eF : (0 ≤ x0 ∧ x0 ≤ 29) ∧ (0 ≤ x1 ∧ x1 ≤ 8) ∧ ((-2147483648) ≤ x2 ∧ x2 ≤ 2147483647) ∧ (0 ≤ x3 ∧ x3 ≤ 8) ∧ True)
    (l0 : ∀ (τ : pm_S) (y : Nat → Int), an_GB pm_B τ → FQ [] σ τ → ((0 ≤ x0 ∧ x0 ≤ 29) ∧ (0 ≤ x1 ∧ x1 ≤ 8) ∧ ((-2147483648) ≤ x2 ∧ x2 ≤ 2147483647) ∧ (0 ≤ x3 ∧ x3 ≤ 8) ∧ True) → (True) → (True) → (True) → Ok 221 6 9 [.ref 93, .int (Int32.ofInt (x0)), .int (Int32.ofInt (x1)), .int (Int32.ofInt (x2)), .int (Int32.ofInt (x3))] [.int (Int32.ofInt (x1)), .int (Int32.ofInt (x3))] τ Q)
    : Ok 221 6 7 [.ref 93, .int (Int32.ofInt (x0)), .int (Int32.ofInt (x1)), .int (Int32.ofInt (x2)), .int (Int32.ofInt (x3))] [] σ Q := by
  refine an_seg (B := pm_B) (F := []) (T := []) (S := []) (fun _ h => absurd h List.not_mem_nil) (k := 221) (d := 5) (cs := [9]) 4 7 4 [(0, 0, 29), (1, 0, 8), (2, (-2147483648), 2147483647), (3, 0, 8)] [] [(2, 93, 0), (0, 0, 0), (0, 1, 0), (0, 2, 0), (0, 3, 0)] [] [(9, [(2, 93, 0), (0, 0, 0), (0, 1, 0), (0, 2, 0), (0, 3, 0)], [(0, 1, 0), (0, 3, 0)], [(0, 0, 29), (1, 0, 8), (2, (-2147483648), 2147483647), (3, 0, 8)], [], [], [])] (by decide +kernel) (ρ0 := (fun s => [x0, x1, x2, x3].getD s 0)) hB eF trivial ⟨rfl, ⟨rfl, ⟨rfl, ⟨rfl, ⟨rfl, trivial⟩⟩⟩⟩⟩ trivial ?_
  refine List.forall_mem_cons.mpr ⟨?_, fun _ h => absurd h List.not_mem_nil⟩
  · intro ρ τ Lc stc hx g1 g2 g3 g4 g5 g6 g7 g8
    have e0 : ρ 0 = x0 := hx 0 (by decide)
    have e1 : ρ 1 = x1 := hx 1 (by decide)
    have e2 : ρ 2 = x2 := hx 2 (by decide)
    have e3 : ρ 3 = x3 := hx 3 (by decide)
    subst e0
    subst e1
    subst e2
    subst e3
    have g7 := g7 (by decide)
    match Lc, stc, g7, g8 with
    | [v0, v1, v2, v3, v4], [w0, w1], ⟨hv0, hv1, hv2, hv3, hv4, _⟩, ⟨hw0, hw1, _⟩ =>
      cases hv0
      cases hv1
      cases hv2
      cases hv3
      cases hv4
      cases hw0
      cases hw1
      exact l0 τ ρ  g1 g2 g3 g4 g5 g6
set_option maxRecDepth 100000 in
theorem sg_gr10 {σ : pm_S} {Q : Option Value → pm_S → Prop} (x0 x1 x2 x3 x4 : Int)  (hB : an_GB pm_B σ) (eF : (0 ≤ x0 ∧ x0 ≤ 29) ∧ (0 ≤ x1 ∧ x1 ≤ 8) ∧ ((-2147483648) ≤ x2 ∧ x2 ≤ 2147483647) ∧ (0 ≤ x3 ∧ x3 ≤ 7) ∧ (0 ≤ x4 ∧ x4 ≤ 99) ∧ True) (eC : (σ.1 108 1).toInt = x4 ∧ True)
    (l0 : ∀ (τ : pm_S) (y : Nat → Int), an_GB pm_B τ → FQ [] σ τ → ((0 ≤ x0 ∧ x0 ≤ 29) ∧ (0 ≤ x1 ∧ x1 ≤ 8) ∧ ((-2147483648) ≤ x2 ∧ x2 ≤ 2147483647) ∧ (0 ≤ x3 ∧ x3 ≤ 7) ∧ (0 ≤ x4 ∧ x4 ≤ 99) ∧ ((-2147483648) ≤ y 5 ∧ y 5 ≤ 2147483647) ∧ ((-21474836) ≤ y 6 ∧ y 6 ≤ 21474836) ∧ ((-2147483648) ≤ y 7 ∧ y 7 ≤ 2147483647) ∧ True) → (True) → ((an_f 2 (Int32.ofInt (x2)) (Int32.ofInt (x4))).toInt = y 5 ∧ (an_f 9 (Int32.ofInt (y 5)) (Int32.ofInt (100))).toInt = y 6 ∧ (an_f 0 (Int32.ofInt (x2)) (Int32.ofInt (y 6))).toInt = y 7 ∧ True) → (True) → Ok 221 6 7 [.ref 93, .int (Int32.ofInt (x0)), .int (Int32.ofInt (x1)), .int (Int32.ofInt (y 7)), .int (Int32.ofInt (x3 + 1))] [] τ Q)
    : Ok 221 6 10 [.ref 93, .int (Int32.ofInt (x0)), .int (Int32.ofInt (x1)), .int (Int32.ofInt (x2)), .int (Int32.ofInt (x3))] [] σ Q := by
  refine an_seg (B := pm_B) (F := []) (T := [108]) (S := []) (fun _ h => absurd h List.not_mem_nil) (k := 221) (d := 5) (cs := [7]) 15 10 5 [(0, 0, 29), (1, 0, 8), (2, (-2147483648), 2147483647), (3, 0, 7), (4, 0, 99)] [(108, (1, 0, 1), (0, 4, 0))] [(2, 93, 0), (0, 0, 0), (0, 1, 0), (0, 2, 0), (0, 3, 0)] [] [(7, [(2, 93, 0), (0, 0, 0), (0, 1, 0), (0, 7, 0), (0, 3, 1)], [], [(0, 0, 29), (1, 0, 8), (2, (-2147483648), 2147483647), (3, 0, 7), (4, 0, 99), (5, (-2147483648), 2147483647), (6, (-21474836), 21474836), (7, (-2147483648), 2147483647)], [], [(2, (0, 2, 0), (0, 4, 0), 5), (9, (0, 5, 0), (1, 0, 100), 6), (0, (0, 2, 0), (0, 6, 0), 7)], [])] (by decide +kernel) (ρ0 := (fun s => [x0, x1, x2, x3, x4].getD s 0)) hB eF eC ⟨rfl, ⟨rfl, ⟨rfl, ⟨rfl, ⟨rfl, trivial⟩⟩⟩⟩⟩ trivial ?_
  refine List.forall_mem_cons.mpr ⟨?_, fun _ h => absurd h List.not_mem_nil⟩
  · intro ρ τ Lc stc hx g1 g2 g3 g4 g5 g6 g7 g8
    have e0 : ρ 0 = x0 := hx 0 (by decide)
    have e1 : ρ 1 = x1 := hx 1 (by decide)
    have e2 : ρ 2 = x2 := hx 2 (by decide)
    have e3 : ρ 3 = x3 := hx 3 (by decide)
    have e4 : ρ 4 = x4 := hx 4 (by decide)
    subst e0
    subst e1
    subst e2
    subst e3
    subst e4
    have g7 := g7 (by decide)
    match Lc, stc, g7, g8 with
    | [v0, v1, v2, v3, v4], [], ⟨hv0, hv1, hv2, hv3, hv4, _⟩, _ =>
      cases hv0
      cases hv1
      cases hv2
      cases hv3
      cases hv4
      exact l0 τ ρ  g1 g2 g3 g4 g5 g6
set_option maxRecDepth 100000 in
theorem sg_gr23 {σ : pm_S} {Q : Option Value → pm_S → Prop} (x0 : Int) (v1 : Value) (v2 : Value) (v4 : Value) (hv1 : v1.category = 1) (hv2 : v2.category = 1) (hv4 : v4.category = 1) (hB : an_GB pm_B σ) (eF : ((-2147483648) ≤ x0 ∧ x0 ≤ 2147483647) ∧ True)
    (l0 : ∀ (τ : pm_S) (y : Nat → Int), an_GB pm_B τ → FQ [] σ τ → (((-2147483648) ≤ x0 ∧ x0 ≤ 2147483647) ∧ True) → (True) → (True) → (True) → Q (some (.int (Int32.ofInt (x0)))) τ)
    : Ok 221 6 23 [.ref 93, v1, v2, .int (Int32.ofInt (x0)), v4] [] σ Q := by
  refine an_seg (B := pm_B) (F := []) (T := []) (S := []) (fun _ h => absurd h List.not_mem_nil) (k := 221) (d := 5) (cs := []) 4 23 1 [(0, (-2147483648), 2147483647)] [] [(2, 93, 0), (5, 0, 0), (5, 0, 0), (0, 0, 0), (5, 0, 0)] [] [(9999, [], [(0, 0, 0)], [(0, (-2147483648), 2147483647)], [], [], [])] (by decide +kernel) (ρ0 := (fun s => [x0].getD s 0)) hB eF trivial ⟨rfl, ⟨hv1, ⟨hv2, ⟨rfl, ⟨hv4, trivial⟩⟩⟩⟩⟩ trivial ?_
  refine List.forall_mem_cons.mpr ⟨?_, fun _ h => absurd h List.not_mem_nil⟩
  · intro ρ τ Lc stc hx g1 g2 g3 g4 g5 g6 g7 g8
    have e0 : ρ 0 = x0 := hx 0 (by decide)
    subst e0
    match stc, g8 with
    | [_], ⟨h, _⟩ => cases h; exact l0 τ ρ g1 g2 g3 g4 g5 g6
set_option maxRecDepth 100000 in
theorem sg_cw0 {σ : pm_S} {Q : Option Value → pm_S → Prop} (x0 x1 x2 : Int)  (hB : an_GB pm_B σ) (eF : (0 ≤ x0 ∧ x0 ≤ 255) ∧ (0 ≤ x1 ∧ x1 ≤ 7) ∧ (0 ≤ x2 ∧ x2 ≤ 8) ∧ True) (eC : (σ.1 93 55).toInt = x2 ∧ True)
    (l0 : ∀ (τ : pm_S) (y : Nat → Int), an_GB pm_B τ → FQ [] σ τ → ((0 ≤ x0 ∧ x0 ≤ 255) ∧ (0 ≤ x1 ∧ x1 ≤ 7) ∧ (0 ≤ x2 ∧ x2 ≤ 8) ∧ (0 ≤ y 3 ∧ y 3 ≤ 29) ∧ (0 ≤ y 4 ∧ y 4 ≤ 8) ∧ ((-8) ≤ y 5 ∧ y 5 ≤ 8) ∧ True) → (True) → ((an_f 16 (Int32.ofInt (x0)) (Int32.ofInt (0))).toInt = y 4 ∧ (an_f 1 (Int32.ofInt (x2)) (Int32.ofInt (y 4))).toInt = y 5 ∧ True) → ((τ.1 93 55).toInt = x2 ∧ (τ.1 125 (x1).toNat).toInt = y 3 ∧ True) → Ok 222 11 11 [.ref 93, .int (Int32.ofInt (x0)), .int (Int32.ofInt (x1))] [.int (Int32.ofInt (y 5)), .int (Int32.ofInt (y 3)), .ref 93] τ Q)
    : Ok 222 11 0 [.ref 93, .int (Int32.ofInt (x0)), .int (Int32.ofInt (x1))] [] σ Q := by
  refine an_seg (B := pm_B) (F := []) (T := [125]) (S := []) (fun _ h => absurd h List.not_mem_nil) (k := 222) (d := 10) (cs := [11]) 13 0 3 [(0, 0, 255), (1, 0, 7), (2, 0, 8)] [(93, (1, 0, 55), (0, 2, 0))] [(2, 93, 0), (0, 0, 0), (0, 1, 0)] [] [(11, [(2, 93, 0), (0, 0, 0), (0, 1, 0)], [(0, 5, 0), (0, 3, 0), (2, 93, 0)], [(0, 0, 255), (1, 0, 7), (2, 0, 8), (3, 0, 29), (4, 0, 8), (5, (-8), 8)], [], [(16, (0, 0, 0), (1, 0, 0), 4), (1, (0, 2, 0), (0, 4, 0), 5)], [(93, (1, 0, 55), (0, 2, 0)), (125, (0, 1, 0), (0, 3, 0))])] (by decide +kernel) (ρ0 := (fun s => [x0, x1, x2].getD s 0)) hB eF eC ⟨rfl, ⟨rfl, ⟨rfl, trivial⟩⟩⟩ trivial ?_
  refine List.forall_mem_cons.mpr ⟨?_, fun _ h => absurd h List.not_mem_nil⟩
  · intro ρ τ Lc stc hx g1 g2 g3 g4 g5 g6 g7 g8
    have e0 : ρ 0 = x0 := hx 0 (by decide)
    have e1 : ρ 1 = x1 := hx 1 (by decide)
    have e2 : ρ 2 = x2 := hx 2 (by decide)
    subst e0
    subst e1
    subst e2
    have g7 := g7 (by decide)
    match Lc, stc, g7, g8 with
    | [v0, v1, v2], [w0, w1, w2], ⟨hv0, hv1, hv2, _⟩, ⟨hw0, hw1, hw2, _⟩ =>
      cases hv0
      cases hv1
      cases hv2
      cases hw0
      cases hw1
      cases hw2
      exact l0 τ ρ  g1 g2 g3 g4 g5 g6
set_option maxRecDepth 100000 in
theorem sg_cw12 {σ : pm_S} {Q : Option Value → pm_S → Prop} (x0 x1 x2 : Int)  (hB : an_GB pm_B σ) (eF : (0 ≤ x0 ∧ x0 ≤ 255) ∧ (0 ≤ x1 ∧ x1 ≤ 7) ∧ ((-2147483648) ≤ x2 ∧ x2 ≤ 2147483647) ∧ True)
    (l0 : ∀ (τ : pm_S) (y : Nat → Int), an_GB pm_B τ → FQ [] σ τ → ((0 ≤ x0 ∧ x0 ≤ 255) ∧ (0 ≤ x1 ∧ x1 ≤ 7) ∧ ((-2147483648) ≤ x2 ∧ x2 ≤ 2147483647) ∧ (1 ≤ y 3 ∧ y 3 ≤ 128) ∧ ((-129) ≤ y 4 ∧ y 4 ≤ (-2)) ∧ (0 ≤ y 5 ∧ y 5 ≤ 255) ∧ ((-2147483648) ≤ y 6 ∧ y 6 ≤ 2147483647) ∧ ((-2147483648) ≤ y 7 ∧ y 7 ≤ 2147483647) ∧ True) → (y 5 ≤ x0 + 0 ∧ True) → ((an_f 6 (Int32.ofInt (1)) (Int32.ofInt (x1))).toInt = y 3 ∧ (an_f 5 (Int32.ofInt (y 3)) (Int32.ofInt ((-1)))).toInt = y 4 ∧ (an_f 3 (Int32.ofInt (x0)) (Int32.ofInt (y 4))).toInt = y 5 ∧ (an_f 0 (Int32.ofInt (x2)) (Int32.ofInt (y 6))).toInt = y 7 ∧ True) → ((τ.1 128 (y 5).toNat).toInt = y 6 ∧ True) → Q (some (.int (Int32.ofInt (y 7)))) τ)
    : Ok 222 11 12 [.ref 93, .int (Int32.ofInt (x0)), .int (Int32.ofInt (x1))] [.int (Int32.ofInt (x2))] σ Q := by
  refine an_seg (B := pm_B) (F := []) (T := [128]) (S := []) (fun _ h => absurd h List.not_mem_nil) (k := 222) (d := 10) (cs := []) 14 12 3 [(0, 0, 255), (1, 0, 7), (2, (-2147483648), 2147483647)] [] [(2, 93, 0), (0, 0, 0), (0, 1, 0)] [(0, 2, 0)] [(9999, [], [(0, 7, 0)], [(0, 0, 255), (1, 0, 7), (2, (-2147483648), 2147483647), (3, 1, 128), (4, (-129), (-2)), (5, 0, 255), (6, (-2147483648), 2147483647), (7, (-2147483648), 2147483647)], [(1, 5, 0, 0)], [(6, (1, 0, 1), (0, 1, 0), 3), (5, (0, 3, 0), (1, 0, (-1)), 4), (3, (0, 0, 0), (0, 4, 0), 5), (0, (0, 2, 0), (0, 6, 0), 7)], [(128, (0, 5, 0), (0, 6, 0))])] (by decide +kernel) (ρ0 := (fun s => [x0, x1, x2].getD s 0)) hB eF trivial ⟨rfl, ⟨rfl, ⟨rfl, trivial⟩⟩⟩ ⟨rfl, trivial⟩ ?_
  refine List.forall_mem_cons.mpr ⟨?_, fun _ h => absurd h List.not_mem_nil⟩
  · intro ρ τ Lc stc hx g1 g2 g3 g4 g5 g6 g7 g8
    have e0 : ρ 0 = x0 := hx 0 (by decide)
    have e1 : ρ 1 = x1 := hx 1 (by decide)
    have e2 : ρ 2 = x2 := hx 2 (by decide)
    subst e0
    subst e1
    subst e2
    match stc, g8 with
    | [_], ⟨h, _⟩ => cases h; exact l0 τ ρ g1 g2 g3 g4 g5 g6
set_option maxRecDepth 100000 in
theorem sg_ii0 {σ : pm_S} {Q : Option Value → pm_S → Prop} (x0 x1 x2 : Int)  (hB : an_GB pm_B σ) (eF : ((-2147483648) ≤ x0 ∧ x0 ≤ 2147483647) ∧ ((-2147483648) ≤ x1 ∧ x1 ≤ 2147483647) ∧ ((-2147483648) ≤ x2 ∧ x2 ≤ 2147483647) ∧ True)
    (l0 : ∀ (τ : pm_S) (y : Nat → Int), an_GB pm_B τ → FQ [] σ τ → (((-2147483648) ≤ x0 ∧ x0 ≤ 2147483647) ∧ ((-2147483648) ≤ x1 ∧ x1 ≤ 2147483647) ∧ ((-2147483648) ≤ x2 ∧ x2 ≤ 2147483647) ∧ True) → (True) → (True) → (True) → Ok 159 3 2 [.ref 93, .int (Int32.ofInt (x0)), .int (Int32.ofInt (x1)), .int (Int32.ofInt (x2))] [.int (Int32.ofInt (x1)), .int (Int32.ofInt (x0))] τ Q)
    : Ok 159 3 0 [.ref 93, .int (Int32.ofInt (x0)), .int (Int32.ofInt (x1)), .int (Int32.ofInt (x2))] [] σ Q := by
  refine an_seg (B := pm_B) (F := []) (T := []) (S := []) (fun _ h => absurd h List.not_mem_nil) (k := 159) (d := 2) (cs := [2, 5]) 4 0 3 [(0, (-2147483648), 2147483647), (1, (-2147483648), 2147483647), (2, (-2147483648), 2147483647)] [] [(2, 93, 0), (0, 0, 0), (0, 1, 0), (0, 2, 0)] [] [(2, [(2, 93, 0), (0, 0, 0), (0, 1, 0), (0, 2, 0)], [(0, 1, 0), (0, 0, 0)], [(0, (-2147483648), 2147483647), (1, (-2147483648), 2147483647), (2, (-2147483648), 2147483647)], [], [], [])] (by decide +kernel) (ρ0 := (fun s => [x0, x1, x2].getD s 0)) hB eF trivial ⟨rfl, ⟨rfl, ⟨rfl, ⟨rfl, trivial⟩⟩⟩⟩ trivial ?_
  refine List.forall_mem_cons.mpr ⟨?_, fun _ h => absurd h List.not_mem_nil⟩
  · intro ρ τ Lc stc hx g1 g2 g3 g4 g5 g6 g7 g8
    have e0 : ρ 0 = x0 := hx 0 (by decide)
    have e1 : ρ 1 = x1 := hx 1 (by decide)
    have e2 : ρ 2 = x2 := hx 2 (by decide)
    subst e0
    subst e1
    subst e2
    have g7 := g7 (by decide)
    match Lc, stc, g7, g8 with
    | [v0, v1, v2, v3], [w0, w1], ⟨hv0, hv1, hv2, hv3, _⟩, ⟨hw0, hw1, _⟩ =>
      cases hv0
      cases hv1
      cases hv2
      cases hv3
      cases hw0
      cases hw1
      exact l0 τ ρ  g1 g2 g3 g4 g5 g6
set_option maxRecDepth 100000 in
theorem sg_ii3 {σ : pm_S} {Q : Option Value → pm_S → Prop} (x0 x1 x2 : Int)  (hB : an_GB pm_B σ) (eF : ((-2147483648) ≤ x0 ∧ x0 ≤ 2147483647) ∧ ((-2147483648) ≤ x1 ∧ x1 ≤ 2147483647) ∧ ((-2147483648) ≤ x2 ∧ x2 ≤ 2147483647) ∧ True)
    (l0 : ∀ (τ : pm_S) (y : Nat → Int), an_GB pm_B τ → FQ [] σ τ → (((-2147483648) ≤ x0 ∧ x0 ≤ 2147483647) ∧ ((-2147483648) ≤ x1 ∧ x1 ≤ 2147483647) ∧ ((-2147483648) ≤ x2 ∧ x2 ≤ 2147483647) ∧ True) → (True) → (True) → (True) → Ok 159 3 5 [.ref 93, .int (Int32.ofInt (x0)), .int (Int32.ofInt (x1)), .int (Int32.ofInt (x2))] [.int (Int32.ofInt (x2)), .int (Int32.ofInt (x0))] τ Q)
    : Ok 159 3 3 [.ref 93, .int (Int32.ofInt (x0)), .int (Int32.ofInt (x1)), .int (Int32.ofInt (x2))] [] σ Q := by
  refine an_seg (B := pm_B) (F := []) (T := []) (S := []) (fun _ h => absurd h List.not_mem_nil) (k := 159) (d := 2) (cs := [5]) 4 3 3 [(0, (-2147483648), 2147483647), (1, (-2147483648), 2147483647), (2, (-2147483648), 2147483647)] [] [(2, 93, 0), (0, 0, 0), (0, 1, 0), (0, 2, 0)] [] [(5, [(2, 93, 0), (0, 0, 0), (0, 1, 0), (0, 2, 0)], [(0, 2, 0), (0, 0, 0)], [(0, (-2147483648), 2147483647), (1, (-2147483648), 2147483647), (2, (-2147483648), 2147483647)], [], [], [])] (by decide +kernel) (ρ0 := (fun s => [x0, x1, x2].getD s 0)) hB eF trivial ⟨rfl, ⟨rfl, ⟨rfl, ⟨rfl, trivial⟩⟩⟩⟩ trivial ?_
  refine List.forall_mem_cons.mpr ⟨?_, fun _ h => absurd h List.not_mem_nil⟩
  · intro ρ τ Lc stc hx g1 g2 g3 g4 g5 g6 g7 g8
    have e0 : ρ 0 = x0 := hx 0 (by decide)
    have e1 : ρ 1 = x1 := hx 1 (by decide)
    have e2 : ρ 2 = x2 := hx 2 (by decide)
    subst e0
    subst e1
    subst e2
    have g7 := g7 (by decide)
    match Lc, stc, g7, g8 with
    | [v0, v1, v2, v3], [w0, w1], ⟨hv0, hv1, hv2, hv3, _⟩, ⟨hw0, hw1, _⟩ =>
      cases hv0
      cases hv1
      cases hv2
      cases hv3
      cases hw0
      cases hw1
      exact l0 τ ρ  g1 g2 g3 g4 g5 g6
set_option maxRecDepth 100000 in
theorem sg_ii8 {σ : pm_S} {Q : Option Value → pm_S → Prop} (v1 : Value) (v2 : Value) (v3 : Value) (hv1 : v1.category = 1) (hv2 : v2.category = 1) (hv3 : v3.category = 1) (hB : an_GB pm_B σ)
    (l0 : ∀ (τ : pm_S) (y : Nat → Int), an_GB pm_B τ → FQ [] σ τ → (True) → (True) → (True) → (True) → Q (some (.int (Int32.ofInt 0))) τ)
    : Ok 159 3 8 [.ref 93, v1, v2, v3] [] σ Q := by
  refine an_seg (B := pm_B) (F := []) (T := []) (S := []) (fun _ h => absurd h List.not_mem_nil) (k := 159) (d := 2) (cs := []) 4 8 0 [] [] [(2, 93, 0), (5, 0, 0), (5, 0, 0), (5, 0, 0)] [] [(9999, [], [(1, 0, 0)], [], [], [], [])] (by decide +kernel) (ρ0 := (fun s => [].getD s 0)) hB trivial trivial ⟨rfl, ⟨hv1, ⟨hv2, ⟨hv3, trivial⟩⟩⟩⟩ trivial ?_
  refine List.forall_mem_cons.mpr ⟨?_, fun _ h => absurd h List.not_mem_nil⟩
  · intro ρ τ Lc stc hx g1 g2 g3 g4 g5 g6 g7 g8
    match stc, g8 with
    | [_], ⟨h, _⟩ => cases h; exact l0 τ ρ g1 g2 g3 g4 g5 g6
set_option maxRecDepth 100000 in
theorem sg_ii6 {σ : pm_S} {Q : Option Value → pm_S → Prop} (v1 : Value) (v2 : Value) (v3 : Value) (hv1 : v1.category = 1) (hv2 : v2.category = 1) (hv3 : v3.category = 1) (hB : an_GB pm_B σ)
    (l0 : ∀ (τ : pm_S) (y : Nat → Int), an_GB pm_B τ → FQ [] σ τ → (True) → (True) → (True) → (True) → Q (some (.int (Int32.ofInt 1))) τ)
    : Ok 159 3 6 [.ref 93, v1, v2, v3] [] σ Q := by
  refine an_seg (B := pm_B) (F := []) (T := []) (S := []) (fun _ h => absurd h List.not_mem_nil) (k := 159) (d := 2) (cs := []) 5 6 0 [] [] [(2, 93, 0), (5, 0, 0), (5, 0, 0), (5, 0, 0)] [] [(9999, [], [(1, 0, 1)], [], [], [], [])] (by decide +kernel) (ρ0 := (fun s => [].getD s 0)) hB trivial trivial ⟨rfl, ⟨hv1, ⟨hv2, ⟨hv3, trivial⟩⟩⟩⟩ trivial ?_
  refine List.forall_mem_cons.mpr ⟨?_, fun _ h => absurd h List.not_mem_nil⟩
  · intro ρ τ Lc stc hx g1 g2 g3 g4 g5 g6 g7 g8
    match stc, g8 with
    | [_], ⟨h, _⟩ => cases h; exact l0 τ ρ g1 g2 g3 g4 g5 g6
set_option maxRecDepth 100000 in
theorem sg_fi0 {σ : pm_S} {Q : Option Value → pm_S → Prop} (x0 x1 : Int) (v3 : Value) (v4 : Value) (v5 : Value) (hv3 : v3.category = 1) (hv4 : v4.category = 1) (hv5 : v5.category = 1) (hB : an_GB pm_B σ) (eF : ((-2147483648) ≤ x0 ∧ x0 ≤ 2147483647) ∧ ((-2147483648) ≤ x1 ∧ x1 ≤ 2147483647) ∧ True)
    (l0 : ∀ (τ : pm_S) (y : Nat → Int), an_GB pm_B τ → FQ [(93, 0), (93, 55), (125, 9999)] σ τ → (((-2147483648) ≤ x0 ∧ x0 ≤ 2147483647) ∧ ((-2147483648) ≤ x1 ∧ x1 ≤ 2147483647) ∧ True) → (True) → (True) → (True) → Q (some (.int (Int32.ofInt (-1)))) τ)
    (l1 : ∀ (τ : pm_S) (y : Nat → Int), an_GB pm_B τ → FQ [(93, 0), (93, 55), (125, 9999)] σ τ → ((0 ≤ x0 ∧ x0 ≤ 9) ∧ ((-2147483648) ≤ x1 ∧ x1 ≤ 2147483647) ∧ (9 ≤ y 3 ∧ y 3 ≤ 30) ∧ True) → (True) → (True) → ((τ.1 93 55).toInt = y 3 ∧ True) → Q (some (.int (Int32.ofInt (-1)))) τ)
    (l2 : ∀ (τ : pm_S) (y : Nat → Int) (v3 : Value) (v4 : Value) (v5 : Value), v3.category = 1 → v4.category = 1 → v5.category = 1 → an_GB pm_B τ → FQ [(93, 0), (93, 55), (125, 9999)] σ τ → ((0 ≤ x0 ∧ x0 ≤ 9) ∧ (0 ≤ x1 ∧ x1 ≤ 0) ∧ (0 ≤ y 3 ∧ y 3 ≤ 8) ∧ True) → (True) → (True) → ((τ.1 93 55).toInt = y 3 ∧ True) → Ok 223 31 33 [.ref 93, .int (Int32.ofInt (x0)), .int (Int32.ofInt (x1)), v3, v4, v5] [.int (Int32.ofInt 0), .int (Int32.ofInt 0), .ref 128] τ Q)
    (l3 : ∀ (τ : pm_S) (y : Nat → Int) (v3 : Value) (v4 : Value) (v5 : Value), v3.category = 1 → v4.category = 1 → v5.category = 1 → an_GB pm_B τ → FQ [(93, 0), (93, 55), (125, 9999)] σ τ → ((0 ≤ x0 ∧ x0 ≤ 9) ∧ ((-2147483648) ≤ x1 ∧ x1 ≤ 2147483647) ∧ (0 ≤ y 3 ∧ y 3 ≤ 8) ∧ True) → (x1 ≠ 0 ∧ True) → (True) → ((τ.1 93 55).toInt = y 3 ∧ True) → Ok 223 31 25 [.ref 93, .int (Int32.ofInt (x0)), .int (Int32.ofInt (x1)), v3, v4, v5] [.int (Int32.ofInt (y 3 + 9)), .int (Int32.ofInt 10), .int (Int32.ofInt (x1)), .ref 93] τ Q)
    : Ok 223 31 0 [.ref 93, .int (Int32.ofInt (x0)), .int (Int32.ofInt (x1)), v3, v4, v5] [] σ Q := by
  refine an_seg (B := pm_B) (F := [(93, 0), (93, 55), (125, 9999)]) (T := []) (S := [se_80]) (List.forall_mem_cons.mpr ⟨se_80_ok, fun _ h => absurd h List.not_mem_nil⟩) (k := 223) (d := 30) (cs := [25, 33]) 34 0 2 [(0, (-2147483648), 2147483647), (1, (-2147483648), 2147483647)] [] [(2, 93, 0), (0, 0, 0), (0, 1, 0), (5, 0, 0), (5, 0, 0), (5, 0, 0)] [] [(9999, [], [(1, 0, (-1))], [(0, (-2147483648), 2147483647), (1, (-2147483648), 2147483647)], [], [], []),
    (9999, [], [(1, 0, (-1))], [(0, 0, 9), (1, (-2147483648), 2147483647), (3, 9, 30)], [], [], [(93, (1, 0, 55), (0, 3, 0))]),
    (33, [(2, 93, 0), (0, 0, 0), (0, 1, 0), (5, 0, 0), (5, 0, 0), (5, 0, 0)], [(1, 0, 0), (1, 0, 0), (2, 128, 0)], [(0, 0, 9), (1, 0, 0), (3, 0, 8)], [], [], [(93, (1, 0, 55), (0, 3, 0))]),
    (25, [(2, 93, 0), (0, 0, 0), (0, 1, 0), (5, 0, 0), (5, 0, 0), (5, 0, 0)], [(0, 3, 9), (1, 0, 10), (0, 1, 0), (2, 93, 0)], [(0, 0, 9), (1, (-2147483648), 2147483647), (3, 0, 8)], [(3, 1, 1, 0)], [], [(93, (1, 0, 55), (0, 3, 0))])] (by decide +kernel) (ρ0 := (fun s => [x0, x1].getD s 0)) hB eF trivial ⟨rfl, ⟨rfl, ⟨rfl, ⟨hv3, ⟨hv4, ⟨hv5, trivial⟩⟩⟩⟩⟩⟩ trivial ?_
  refine List.forall_mem_cons.mpr ⟨?_, List.forall_mem_cons.mpr ⟨?_, List.forall_mem_cons.mpr ⟨?_, List.forall_mem_cons.mpr ⟨?_, fun _ h => absurd h List.not_mem_nil⟩⟩⟩⟩
  · intro ρ τ Lc stc hx g1 g2 g3 g4 g5 g6 g7 g8
    have e0 : ρ 0 = x0 := hx 0 (by decide)
    have e1 : ρ 1 = x1 := hx 1 (by decide)
    subst e0
    subst e1
    match stc, g8 with
    | [_], ⟨h, _⟩ => cases h; exact l0 τ ρ g1 g2 g3 g4 g5 g6
  · intro ρ τ Lc stc hx g1 g2 g3 g4 g5 g6 g7 g8
    have e0 : ρ 0 = x0 := hx 0 (by decide)
    have e1 : ρ 1 = x1 := hx 1 (by decide)
    subst e0
    subst e1
    match stc, g8 with
    | [_], ⟨h, _⟩ => cases h; exact l1 τ ρ g1 g2 g3 g4 g5 g6
  · intro ρ τ Lc stc hx g1 g2 g3 g4 g5 g6 g7 g8
    have e0 : ρ 0 = x0 := hx 0 (by decide)
    have e1 : ρ 1 = x1 := hx 1 (by decide)
    subst e0
    subst e1
    have g7 := g7 (by decide)
    match Lc, stc, g7, g8 with
    | [v0, v1, v2, v3, v4, v5], [w0, w1, w2], ⟨hv0, hv1, hv2, hv3, hv4, hv5, _⟩, ⟨hw0, hw1, hw2, _⟩ =>
      cases hv0
      cases hv1
      cases hv2
      cases hw0
      cases hw1
      cases hw2
      exact l2 τ ρ v3 v4 v5 hv3 hv4 hv5 g1 g2 g3 g4 g5 g6
  · intro ρ τ Lc stc hx g1 g2 g3 g4 g5 g6 g7 g8
    have e0 : ρ 0 = x0 := hx 0 (by decide)
    have e1 : ρ 1 = x1 := hx 1 (by decide)
    subst e0
    subst e1
    have g7 := g7 (by decide)
    match Lc, stc, g7, g8 with
    | [v0, v1, v2, v3, v4, v5], [w0, w1, w2, w3], ⟨hv0, hv1, hv2, hv3, hv4, hv5, _⟩, ⟨hw0, hw1, hw2, hw3, _⟩ =>
      cases hv0
      cases hv1
      cases hv2
      cases hw0
      cases hw1
      cases hw2
      cases hw3
      exact l3 τ ρ v3 v4 v5 hv3 hv4 hv5 g1 g2 g3 g4 g5 g6
set_option maxRecDepth 100000 in
theorem sg_fi26 {σ : pm_S} {Q : Option Value → pm_S → Prop} (x0 x1 : Int) (v1 : Value) (v3 : Value) (v4 : Value) (v5 : Value) (hv1 : v1.category = 1) (hv3 : v3.category = 1) (hv4 : v4.category = 1) (hv5 : v5.category = 1) (hB : an_GB pm_B σ) (eF : ((-2147483648) ≤ x0 ∧ x0 ≤ 2147483647) ∧ (0 ≤ x1 ∧ x1 ≤ 1) ∧ True)
    (l0 : ∀ (τ : pm_S) (y : Nat → Int) (v1 : Value) (v3 : Value) (v4 : Value) (v5 : Value), v1.category = 1 → v3.category = 1 → v4.category = 1 → v5.category = 1 → an_GB pm_B τ → FQ [] σ τ → (((-2147483648) ≤ x0 ∧ x0 ≤ 2147483647) ∧ (1 ≤ x1 ∧ x1 ≤ 1) ∧ True) → (True) → (True) → (True) → Ok 223 31 33 [.ref 93, v1, .int (Int32.ofInt (x0)), v3, v4, v5] [.int (Int32.ofInt 0), .int (Int32.ofInt 0), .ref 128] τ Q)
    (l1 : ∀ (τ : pm_S) (y : Nat → Int), an_GB pm_B τ → FQ [] σ τ → (((-2147483648) ≤ x0 ∧ x0 ≤ 2147483647) ∧ (0 ≤ x1 ∧ x1 ≤ 0) ∧ True) → (True) → (True) → (True) → Q (some (.int (Int32.ofInt (-1)))) τ)
    : Ok 223 31 26 [.ref 93, v1, .int (Int32.ofInt (x0)), v3, v4, v5] [.int (Int32.ofInt (x1))] σ Q := by
  refine an_seg (B := pm_B) (F := []) (T := []) (S := []) (fun _ h => absurd h List.not_mem_nil) (k := 223) (d := 30) (cs := [33]) 7 26 2 [(0, (-2147483648), 2147483647), (1, 0, 1)] [] [(2, 93, 0), (5, 0, 0), (0, 0, 0), (5, 0, 0), (5, 0, 0), (5, 0, 0)] [(0, 1, 0)] [(33, [(2, 93, 0), (5, 0, 0), (0, 0, 0), (5, 0, 0), (5, 0, 0), (5, 0, 0)], [(1, 0, 0), (1, 0, 0), (2, 128, 0)], [(0, (-2147483648), 2147483647), (1, 1, 1)], [], [], []),
    (9999, [], [(1, 0, (-1))], [(0, (-2147483648), 2147483647), (1, 0, 0)], [], [], [])] (by decide +kernel) (ρ0 := (fun s => [x0, x1].getD s 0)) hB eF trivial ⟨rfl, ⟨hv1, ⟨rfl, ⟨hv3, ⟨hv4, ⟨hv5, trivial⟩⟩⟩⟩⟩⟩ ⟨rfl, trivial⟩ ?_
  refine List.forall_mem_cons.mpr ⟨?_, List.forall_mem_cons.mpr ⟨?_, fun _ h => absurd h List.not_mem_nil⟩⟩
  · intro ρ τ Lc stc hx g1 g2 g3 g4 g5 g6 g7 g8
    have e0 : ρ 0 = x0 := hx 0 (by decide)
    have e1 : ρ 1 = x1 := hx 1 (by decide)
    subst e0
    subst e1
    have g7 := g7 (by decide)
    match Lc, stc, g7, g8 with
    | [v0, v1, v2, v3, v4, v5], [w0, w1, w2], ⟨hv0, hv1, hv2, hv3, hv4, hv5, _⟩, ⟨hw0, hw1, hw2, _⟩ =>
      cases hv0
      cases hv2
      cases hw0
      cases hw1
      cases hw2
      exact l0 τ ρ v1 v3 v4 v5 hv1 hv3 hv4 hv5 g1 g2 g3 g4 g5 g6
  · intro ρ τ Lc stc hx g1 g2 g3 g4 g5 g6 g7 g8
    have e0 : ρ 0 = x0 := hx 0 (by decide)
    have e1 : ρ 1 = x1 := hx 1 (by decide)
    subst e0
    subst e1
    match stc, g8 with
    | [_], ⟨h, _⟩ => cases h; exact l1 τ ρ g1 g2 g3 g4 g5 g6
set_option maxRecDepth 100000 in
theorem sg_fi34 {σ : pm_S} {Q : Option Value → pm_S → Prop} (x0 : Int) (v1 : Value) (v3 : Value) (v4 : Value) (v5 : Value) (hv1 : v1.category = 1) (hv3 : v3.category = 1) (hv4 : v4.category = 1) (hv5 : v5.category = 1) (hB : an_GB pm_B σ) (eF : ((-2147483648) ≤ x0 ∧ x0 ≤ 2147483647) ∧ True)
    (l0 : ∀ (τ : pm_S) (y : Nat → Int) (v1 : Value) (v4 : Value) (v5 : Value), v1.category = 1 → v4.category = 1 → v5.category = 1 → an_GB pm_B τ → FQ [] σ τ → (((-2147483648) ≤ x0 ∧ x0 ≤ 2147483647) ∧ True) → (True) → (True) → (True) → Ok 223 31 36 [.ref 93, v1, .int (Int32.ofInt (x0)), .int (Int32.ofInt 1), v4, v5] [] τ Q)
    : Ok 223 31 34 [.ref 93, v1, .int (Int32.ofInt (x0)), v3, v4, v5] [] σ Q := by
  refine an_seg (B := pm_B) (F := []) (T := []) (S := []) (fun _ h => absurd h List.not_mem_nil) (k := 223) (d := 30) (cs := [36]) 4 34 1 [(0, (-2147483648), 2147483647)] [] [(2, 93, 0), (5, 0, 0), (0, 0, 0), (5, 0, 0), (5, 0, 0), (5, 0, 0)] [] [(36, [(2, 93, 0), (5, 0, 0), (0, 0, 0), (1, 0, 1), (5, 0, 0), (5, 0, 0)], [], [(0, (-2147483648), 2147483647)], [], [], [])] (by decide +kernel) (ρ0 := (fun s => [x0].getD s 0)) hB eF trivial ⟨rfl, ⟨hv1, ⟨rfl, ⟨hv3, ⟨hv4, ⟨hv5, trivial⟩⟩⟩⟩⟩⟩ trivial ?_
  refine List.forall_mem_cons.mpr ⟨?_, fun _ h => absurd h List.not_mem_nil⟩
  · intro ρ τ Lc stc hx g1 g2 g3 g4 g5 g6 g7 g8
    have e0 : ρ 0 = x0 := hx 0 (by decide)
    subst e0
    have g7 := g7 (by decide)
    match Lc, stc, g7, g8 with
    | [v0, v1, v2, v3, v4, v5], [], ⟨hv0, hv1, hv2, hv3, hv4, hv5, _⟩, _ =>
      cases hv0
      cases hv2
      cases hv3
      exact l0 τ ρ v1 v4 v5 hv1 hv4 hv5 g1 g2 g3 g4 g5 g6
set_option maxRecDepth 100000 in
theorem sg_fi36 {σ : pm_S} {Q : Option Value → pm_S → Prop} (x0 x1 x2 : Int) (v1 : Value) (v4 : Value) (v5 : Value) (hv1 : v1.category = 1) (hv4 : v4.category = 1) (hv5 : v5.category = 1) (hB : an_GB pm_B σ) (eF : ((-2147483648) ≤ x0 ∧ x0 ≤ 2147483647) ∧ (1 ≤ x1 ∧ x1 ≤ 256) ∧ (0 ≤ x2 ∧ x2 ≤ 8) ∧ True) (eC : (σ.1 93 55).toInt = x2 ∧ True)
    (l0 : ∀ (τ : pm_S) (y : Nat → Int) (v1 : Value) (v4 : Value) (v5 : Value), v1.category = 1 → v4.category = 1 → v5.category = 1 → an_GB pm_B τ → FQ [] σ τ → (((-2147483648) ≤ x0 ∧ x0 ≤ 2147483647) ∧ (1 ≤ x1 ∧ x1 ≤ 256) ∧ (0 ≤ x2 ∧ x2 ≤ 8) ∧ (1 ≤ y 3 ∧ y 3 ≤ 256) ∧ True) → (True) → ((an_f 6 (Int32.ofInt (1)) (Int32.ofInt (x2))).toInt = y 3 ∧ True) → (True) → Ok 223 31 41 [.ref 93, v1, .int (Int32.ofInt (x0)), .int (Int32.ofInt (x1)), v4, v5] [.int (Int32.ofInt (y 3)), .int (Int32.ofInt (x1))] τ Q)
    : Ok 223 31 36 [.ref 93, v1, .int (Int32.ofInt (x0)), .int (Int32.ofInt (x1)), v4, v5] [] σ Q := by
  refine an_seg (B := pm_B) (F := []) (T := []) (S := []) (fun _ h => absurd h List.not_mem_nil) (k := 223) (d := 30) (cs := [41]) 7 36 3 [(0, (-2147483648), 2147483647), (1, 1, 256), (2, 0, 8)] [(93, (1, 0, 55), (0, 2, 0))] [(2, 93, 0), (5, 0, 0), (0, 0, 0), (0, 1, 0), (5, 0, 0), (5, 0, 0)] [] [(41, [(2, 93, 0), (5, 0, 0), (0, 0, 0), (0, 1, 0), (5, 0, 0), (5, 0, 0)], [(0, 3, 0), (0, 1, 0)], [(0, (-2147483648), 2147483647), (1, 1, 256), (2, 0, 8), (3, 1, 256)], [], [(6, (1, 0, 1), (0, 2, 0), 3)], [])] (by decide +kernel) (ρ0 := (fun s => [x0, x1, x2].getD s 0)) hB eF eC ⟨rfl, ⟨hv1, ⟨rfl, ⟨rfl, ⟨hv4, ⟨hv5, trivial⟩⟩⟩⟩⟩⟩ trivial ?_
  refine List.forall_mem_cons.mpr ⟨?_, fun _ h => absurd h List.not_mem_nil⟩
  · intro ρ τ Lc stc hx g1 g2 g3 g4 g5 g6 g7 g8
    have e0 : ρ 0 = x0 := hx 0 (by decide)
    have e1 : ρ 1 = x1 := hx 1 (by decide)
    have e2 : ρ 2 = x2 := hx 2 (by decide)
    subst e0
    subst e1
    subst e2
    have g7 := g7 (by decide)
    match Lc, stc, g7, g8 with
    | [v0, v1, v2, v3, v4, v5], [w0, w1], ⟨hv0, hv1, hv2, hv3, hv4, hv5, _⟩, ⟨hw0, hw1, _⟩ =>
      cases hv0
      cases hv2
      cases hv3
      cases hw0
      cases hw1
      exact l0 τ ρ v1 v4 v5 hv1 hv4 hv5 g1 g2 g3 g4 g5 g6
set_option maxRecDepth 100000 in
theorem sg_fi42 {σ : pm_S} {Q : Option Value → pm_S → Prop} (x0 x1 : Int) (v1 : Value) (v4 : Value) (v5 : Value) (hv1 : v1.category = 1) (hv4 : v4.category = 1) (hv5 : v5.category = 1) (hB : an_GB pm_B σ) (eF : ((-2147483648) ≤ x0 ∧ x0 ≤ 2147483647) ∧ (1 ≤ x1 ∧ x1 ≤ 255) ∧ True)
    (l0 : ∀ (τ : pm_S) (y : Nat → Int) (v1 : Value) (v4 : Value) (v5 : Value), v1.category = 1 → v4.category = 1 → v5.category = 1 → an_GB pm_B τ → FQ [] σ τ → (((-2147483648) ≤ x0 ∧ x0 ≤ 2147483647) ∧ (1 ≤ x1 ∧ x1 ≤ 255) ∧ True) → (True) → (True) → (True) → Ok 223 31 46 [.ref 93, v1, .int (Int32.ofInt (x0)), .int (Int32.ofInt (x1)), v4, v5] [.int (Int32.ofInt 1000000000), .int (Int32.ofInt (x1)), .ref 128] τ Q)
    : Ok 223 31 42 [.ref 93, v1, .int (Int32.ofInt (x0)), .int (Int32.ofInt (x1)), v4, v5] [] σ Q := by
  refine an_seg (B := pm_B) (F := []) (T := []) (S := []) (fun _ h => absurd h List.not_mem_nil) (k := 223) (d := 30) (cs := [46]) 6 42 2 [(0, (-2147483648), 2147483647), (1, 1, 255)] [] [(2, 93, 0), (5, 0, 0), (0, 0, 0), (0, 1, 0), (5, 0, 0), (5, 0, 0)] [] [(46, [(2, 93, 0), (5, 0, 0), (0, 0, 0), (0, 1, 0), (5, 0, 0), (5, 0, 0)], [(1, 0, 1000000000), (0, 1, 0), (2, 128, 0)], [(0, (-2147483648), 2147483647), (1, 1, 255)], [], [], [])] (by decide +kernel) (ρ0 := (fun s => [x0, x1].getD s 0)) hB eF trivial ⟨rfl, ⟨hv1, ⟨rfl, ⟨rfl, ⟨hv4, ⟨hv5, trivial⟩⟩⟩⟩⟩⟩ trivial ?_
  refine List.forall_mem_cons.mpr ⟨?_, fun _ h => absurd h List.not_mem_nil⟩
  · intro ρ τ Lc stc hx g1 g2 g3 g4 g5 g6 g7 g8
    have e0 : ρ 0 = x0 := hx 0 (by decide)
    have e1 : ρ 1 = x1 := hx 1 (by decide)
    subst e0
    subst e1
    have g7 := g7 (by decide)
    match Lc, stc, g7, g8 with
    | [v0, v1, v2, v3, v4, v5], [w0, w1, w2], ⟨hv0, hv1, hv2, hv3, hv4, hv5, _⟩, ⟨hw0, hw1, hw2, _⟩ =>
      cases hv0
      cases hv2
      cases hv3
      cases hw0
      cases hw1
      cases hw2
      exact l0 τ ρ v1 v4 v5 hv1 hv4 hv5 g1 g2 g3 g4 g5 g6
set_option maxRecDepth 100000 in
theorem sg_fi47 {σ : pm_S} {Q : Option Value → pm_S → Prop} (x0 x1 : Int) (v1 : Value) (v4 : Value) (v5 : Value) (hv1 : v1.category = 1) (hv4 : v4.category = 1) (hv5 : v5.category = 1) (hB : an_GB pm_B σ) (eF : ((-2147483648) ≤ x0 ∧ x0 ≤ 2147483647) ∧ (1 ≤ x1 ∧ x1 ≤ 255) ∧ True)
    (l0 : ∀ (τ : pm_S) (y : Nat → Int) (v1 : Value) (v5 : Value), v1.category = 1 → v5.category = 1 → an_GB pm_B τ → FQ [] σ τ → (((-2147483648) ≤ x0 ∧ x0 ≤ 2147483647) ∧ (1 ≤ x1 ∧ x1 ≤ 255) ∧ True) → (True) → (True) → (True) → Ok 223 31 49 [.ref 93, v1, .int (Int32.ofInt (x0)), .int (Int32.ofInt (x1)), .int (Int32.ofInt 0), v5] [] τ Q)
    : Ok 223 31 47 [.ref 93, v1, .int (Int32.ofInt (x0)), .int (Int32.ofInt (x1)), v4, v5] [] σ Q := by
  refine an_seg (B := pm_B) (F := []) (T := []) (S := []) (fun _ h => absurd h List.not_mem_nil) (k := 223) (d := 30) (cs := [49]) 4 47 2 [(0, (-2147483648), 2147483647), (1, 1, 255)] [] [(2, 93, 0), (5, 0, 0), (0, 0, 0), (0, 1, 0), (5, 0, 0), (5, 0, 0)] [] [(49, [(2, 93, 0), (5, 0, 0), (0, 0, 0), (0, 1, 0), (1, 0, 0), (5, 0, 0)], [], [(0, (-2147483648), 2147483647), (1, 1, 255)], [], [], [])] (by decide +kernel) (ρ0 := (fun s => [x0, x1].getD s 0)) hB eF trivial ⟨rfl, ⟨hv1, ⟨rfl, ⟨rfl, ⟨hv4, ⟨hv5, trivial⟩⟩⟩⟩⟩⟩ trivial ?_
  refine List.forall_mem_cons.mpr ⟨?_, fun _ h => absurd h List.not_mem_nil⟩
  · intro ρ τ Lc stc hx g1 g2 g3 g4 g5 g6 g7 g8
    have e0 : ρ 0 = x0 := hx 0 (by decide)
    have e1 : ρ 1 = x1 := hx 1 (by decide)
    subst e0
    subst e1
    have g7 := g7 (by decide)
    match Lc, stc, g7, g8 with
    | [v0, v1, v2, v3, v4, v5], [], ⟨hv0, hv1, hv2, hv3, hv4, hv5, _⟩, _ =>
      cases hv0
      cases hv2
      cases hv3
      cases hv4
      exact l0 τ ρ v1 v5 hv1 hv5 g1 g2 g3 g4 g5 g6
set_option maxRecDepth 100000 in
theorem sg_fi49 {σ : pm_S} {Q : Option Value → pm_S → Prop} (x0 x1 x2 x3 : Int) (v1 : Value) (v5 : Value) (hv1 : v1.category = 1) (hv5 : v5.category = 1) (hB : an_GB pm_B σ) (eF : ((-2147483648) ≤ x0 ∧ x0 ≤ 2147483647) ∧ (1 ≤ x1 ∧ x1 ≤ 255) ∧ (0 ≤ x2 ∧ x2 ≤ 8) ∧ (0 ≤ x3 ∧ x3 ≤ 8) ∧ True) (eC : (σ.1 93 55).toInt = x3 ∧ True)
    (l0 : ∀ (τ : pm_S) (y : Nat → Int) (v1 : Value) (v5 : Value), v1.category = 1 → v5.category = 1 → an_GB pm_B τ → FQ [] σ τ → (((-2147483648) ≤ x0 ∧ x0 ≤ 2147483647) ∧ (1 ≤ x1 ∧ x1 ≤ 255) ∧ (0 ≤ x2 ∧ x2 ≤ 8) ∧ (0 ≤ x3 ∧ x3 ≤ 8) ∧ True) → (True) → (True) → (True) → Ok 223 31 52 [.ref 93, v1, .int (Int32.ofInt (x0)), .int (Int32.ofInt (x1)), .int (Int32.ofInt (x2)), v5] [.int (Int32.ofInt (x3)), .int (Int32.ofInt (x2))] τ Q)
    : Ok 223 31 49 [.ref 93, v1, .int (Int32.ofInt (x0)), .int (Int32.ofInt (x1)), .int (Int32.ofInt (x2)), v5] [] σ Q := by
  refine an_seg (B := pm_B) (F := []) (T := []) (S := []) (fun _ h => absurd h List.not_mem_nil) (k := 223) (d := 30) (cs := [52]) 5 49 4 [(0, (-2147483648), 2147483647), (1, 1, 255), (2, 0, 8), (3, 0, 8)] [(93, (1, 0, 55), (0, 3, 0))] [(2, 93, 0), (5, 0, 0), (0, 0, 0), (0, 1, 0), (0, 2, 0), (5, 0, 0)] [] [(52, [(2, 93, 0), (5, 0, 0), (0, 0, 0), (0, 1, 0), (0, 2, 0), (5, 0, 0)], [(0, 3, 0), (0, 2, 0)], [(0, (-2147483648), 2147483647), (1, 1, 255), (2, 0, 8), (3, 0, 8)], [], [], [])] (by decide +kernel) (ρ0 := (fun s => [x0, x1, x2, x3].getD s 0)) hB eF eC ⟨rfl, ⟨hv1, ⟨rfl, ⟨rfl, ⟨rfl, ⟨hv5, trivial⟩⟩⟩⟩⟩⟩ trivial ?_
  refine List.forall_mem_cons.mpr ⟨?_, fun _ h => absurd h List.not_mem_nil⟩
  · intro ρ τ Lc stc hx g1 g2 g3 g4 g5 g6 g7 g8
    have e0 : ρ 0 = x0 := hx 0 (by decide)
    have e1 : ρ 1 = x1 := hx 1 (by decide)
    have e2 : ρ 2 = x2 := hx 2 (by decide)
    have e3 : ρ 3 = x3 := hx 3 (by decide)
    subst e0
    subst e1
    subst e2
    subst e3
    have g7 := g7 (by decide)
    match Lc, stc, g7, g8 with
    | [v0, v1, v2, v3, v4, v5], [w0, w1], ⟨hv0, hv1, hv2, hv3, hv4, hv5, _⟩, ⟨hw0, hw1, _⟩ =>
      cases hv0
      cases hv2
      cases hv3
      cases hv4
      cases hw0
      cases hw1
      exact l0 τ ρ v1 v5 hv1 hv5 g1 g2 g3 g4 g5 g6
set_option maxRecDepth 100000 in
theorem sg_fi53 {σ : pm_S} {Q : Option Value → pm_S → Prop} (x0 x1 x2 : Int) (v1 : Value) (v5 : Value) (hv1 : v1.category = 1) (hv5 : v5.category = 1) (hB : an_GB pm_B σ) (eF : ((-2147483648) ≤ x0 ∧ x0 ≤ 2147483647) ∧ (1 ≤ x1 ∧ x1 ≤ 255) ∧ (0 ≤ x2 ∧ x2 ≤ 7) ∧ True)
    (l0 : ∀ (τ : pm_S) (y : Nat → Int) (v1 : Value) (v5 : Value), v1.category = 1 → v5.category = 1 → an_GB pm_B τ → FQ [] σ τ → (((-2147483648) ≤ x0 ∧ x0 ≤ 2147483647) ∧ (1 ≤ x1 ∧ x1 ≤ 255) ∧ (0 ≤ x2 ∧ x2 ≤ 7) ∧ (0 ≤ y 3 ∧ y 3 ≤ 255) ∧ (0 ≤ y 4 ∧ y 4 ≤ 0) ∧ True) → (y 4 ≤ y 3 + 0 ∧ True) → ((an_f 7 (Int32.ofInt (x1)) (Int32.ofInt (x2))).toInt = y 3 ∧ (an_f 3 (Int32.ofInt (y 3)) (Int32.ofInt (1))).toInt = y 4 ∧ True) → (True) → Ok 223 31 77 [.ref 93, v1, .int (Int32.ofInt (x0)), .int (Int32.ofInt (x1)), .int (Int32.ofInt (x2)), v5] [] τ Q)
    (l1 : ∀ (τ : pm_S) (y : Nat → Int) (v1 : Value) (v5 : Value), v1.category = 1 → v5.category = 1 → an_GB pm_B τ → FQ [] σ τ → (((-2147483648) ≤ x0 ∧ x0 ≤ 2147483647) ∧ (1 ≤ x1 ∧ x1 ≤ 255) ∧ (0 ≤ x2 ∧ x2 ≤ 7) ∧ (0 ≤ y 3 ∧ y 3 ≤ 255) ∧ (1 ≤ y 4 ∧ y 4 ≤ 1) ∧ True) → (y 4 ≤ y 3 + 0 ∧ True) → ((an_f 7 (Int32.ofInt (x1)) (Int32.ofInt (x2))).toInt = y 3 ∧ (an_f 3 (Int32.ofInt (y 3)) (Int32.ofInt (1))).toInt = y 4 ∧ True) → (True) → Ok 223 31 63 [.ref 93, v1, .int (Int32.ofInt (x0)), .int (Int32.ofInt (x1)), .int (Int32.ofInt (x2)), v5] [.int (Int32.ofInt (x2)), .int (Int32.ofInt (x1)), .ref 93] τ Q)
    : Ok 223 31 53 [.ref 93, v1, .int (Int32.ofInt (x0)), .int (Int32.ofInt (x1)), .int (Int32.ofInt (x2)), v5] [] σ Q := by
  refine an_seg (B := pm_B) (F := []) (T := []) (S := []) (fun _ h => absurd h List.not_mem_nil) (k := 223) (d := 30) (cs := [63, 77]) 12 53 3 [(0, (-2147483648), 2147483647), (1, 1, 255), (2, 0, 7)] [] [(2, 93, 0), (5, 0, 0), (0, 0, 0), (0, 1, 0), (0, 2, 0), (5, 0, 0)] [] [(77, [(2, 93, 0), (5, 0, 0), (0, 0, 0), (0, 1, 0), (0, 2, 0), (5, 0, 0)], [], [(0, (-2147483648), 2147483647), (1, 1, 255), (2, 0, 7), (3, 0, 255), (4, 0, 0)], [(1, 4, 3, 0)], [(7, (0, 1, 0), (0, 2, 0), 3), (3, (0, 3, 0), (1, 0, 1), 4)], []),
    (63, [(2, 93, 0), (5, 0, 0), (0, 0, 0), (0, 1, 0), (0, 2, 0), (5, 0, 0)], [(0, 2, 0), (0, 1, 0), (2, 93, 0)], [(0, (-2147483648), 2147483647), (1, 1, 255), (2, 0, 7), (3, 0, 255), (4, 1, 1)], [(1, 4, 3, 0)], [(7, (0, 1, 0), (0, 2, 0), 3), (3, (0, 3, 0), (1, 0, 1), 4)], [])] (by decide +kernel) (ρ0 := (fun s => [x0, x1, x2].getD s 0)) hB eF trivial ⟨rfl, ⟨hv1, ⟨rfl, ⟨rfl, ⟨rfl, ⟨hv5, trivial⟩⟩⟩⟩⟩⟩ trivial ?_
  refine List.forall_mem_cons.mpr ⟨?_, List.forall_mem_cons.mpr ⟨?_, fun _ h => absurd h List.not_mem_nil⟩⟩
  · intro ρ τ Lc stc hx g1 g2 g3 g4 g5 g6 g7 g8
    have e0 : ρ 0 = x0 := hx 0 (by decide)
    have e1 : ρ 1 = x1 := hx 1 (by decide)
    have e2 : ρ 2 = x2 := hx 2 (by decide)
    subst e0
    subst e1
    subst e2
    have g7 := g7 (by decide)
    match Lc, stc, g7, g8 with
    | [v0, v1, v2, v3, v4, v5], [], ⟨hv0, hv1, hv2, hv3, hv4, hv5, _⟩, _ =>
      cases hv0
      cases hv2
      cases hv3
      cases hv4
      exact l0 τ ρ v1 v5 hv1 hv5 g1 g2 g3 g4 g5 g6
  · intro ρ τ Lc stc hx g1 g2 g3 g4 g5 g6 g7 g8
    have e0 : ρ 0 = x0 := hx 0 (by decide)
    have e1 : ρ 1 = x1 := hx 1 (by decide)
    have e2 : ρ 2 = x2 := hx 2 (by decide)
    subst e0
    subst e1
    subst e2
    have g7 := g7 (by decide)
    match Lc, stc, g7, g8 with
    | [v0, v1, v2, v3, v4, v5], [w0, w1, w2], ⟨hv0, hv1, hv2, hv3, hv4, hv5, _⟩, ⟨hw0, hw1, hw2, _⟩ =>
      cases hv0
      cases hv2
      cases hv3
      cases hv4
      cases hw0
      cases hw1
      cases hw2
      exact l1 τ ρ v1 v5 hv1 hv5 g1 g2 g3 g4 g5 g6
set_option maxRecDepth 100000 in
theorem sg_fi64 {σ : pm_S} {Q : Option Value → pm_S → Prop} (x0 x1 x2 x3 : Int) (v1 : Value) (v5 : Value) (hv1 : v1.category = 1) (hv5 : v5.category = 1) (hB : an_GB pm_B σ) (eF : ((-2147483648) ≤ x0 ∧ x0 ≤ 2147483647) ∧ (1 ≤ x1 ∧ x1 ≤ 255) ∧ (0 ≤ x2 ∧ x2 ≤ 7) ∧ ((-2147483648) ≤ x3 ∧ x3 ≤ 2147483647) ∧ True)
    (l0 : ∀ (τ : pm_S) (y : Nat → Int) (v1 : Value) (v5 : Value), v1.category = 1 → v5.category = 1 → an_GB pm_B τ → FQ [] σ τ → (((-2147483648) ≤ x0 ∧ x0 ≤ 2147483647) ∧ (1 ≤ x1 ∧ x1 ≤ 255) ∧ (0 ≤ x2 ∧ x2 ≤ 7) ∧ ((-2147483648) ≤ x3 ∧ x3 ≤ 2147483647) ∧ ((-2147483648) ≤ y 4 ∧ y 4 ≤ 2147483647) ∧ True) → (True) → (True) → ((τ.1 128 (x1).toNat).toInt = y 4 ∧ True) → Ok 223 31 68 [.ref 93, v1, .int (Int32.ofInt (x0)), .int (Int32.ofInt (x1)), .int (Int32.ofInt (x2)), v5] [.int (Int32.ofInt (y 4)), .int (Int32.ofInt (x3))] τ Q)
    : Ok 223 31 64 [.ref 93, v1, .int (Int32.ofInt (x0)), .int (Int32.ofInt (x1)), .int (Int32.ofInt (x2)), v5] [.int (Int32.ofInt (x3))] σ Q := by
  refine an_seg (B := pm_B) (F := []) (T := [128]) (S := []) (fun _ h => absurd h List.not_mem_nil) (k := 223) (d := 30) (cs := [68]) 6 64 4 [(0, (-2147483648), 2147483647), (1, 1, 255), (2, 0, 7), (3, (-2147483648), 2147483647)] [] [(2, 93, 0), (5, 0, 0), (0, 0, 0), (0, 1, 0), (0, 2, 0), (5, 0, 0)] [(0, 3, 0)] [(68, [(2, 93, 0), (5, 0, 0), (0, 0, 0), (0, 1, 0), (0, 2, 0), (5, 0, 0)], [(0, 4, 0), (0, 3, 0)], [(0, (-2147483648), 2147483647), (1, 1, 255), (2, 0, 7), (3, (-2147483648), 2147483647), (4, (-2147483648), 2147483647)], [], [], [(128, (0, 1, 0), (0, 4, 0))])] (by decide +kernel) (ρ0 := (fun s => [x0, x1, x2, x3].getD s 0)) hB eF trivial ⟨rfl, ⟨hv1, ⟨rfl, ⟨rfl, ⟨rfl, ⟨hv5, trivial⟩⟩⟩⟩⟩⟩ ⟨rfl, trivial⟩ ?_
  refine List.forall_mem_cons.mpr ⟨?_, fun _ h => absurd h List.not_mem_nil⟩
  · intro ρ τ Lc stc hx g1 g2 g3 g4 g5 g6 g7 g8
    have e0 : ρ 0 = x0 := hx 0 (by decide)
    have e1 : ρ 1 = x1 := hx 1 (by decide)
    have e2 : ρ 2 = x2 := hx 2 (by decide)
    have e3 : ρ 3 = x3 := hx 3 (by decide)
    subst e0
    subst e1
    subst e2
    subst e3
    have g7 := g7 (by decide)
    match Lc, stc, g7, g8 with
    | [v0, v1, v2, v3, v4, v5], [w0, w1], ⟨hv0, hv1, hv2, hv3, hv4, hv5, _⟩, ⟨hw0, hw1, _⟩ =>
      cases hv0
      cases hv2
      cases hv3
      cases hv4
      cases hw0
      cases hw1
      exact l0 τ ρ v1 v5 hv1 hv5 g1 g2 g3 g4 g5 g6
set_option maxRecDepth 100000 in
theorem sg_fi69 {σ : pm_S} {Q : Option Value → pm_S → Prop} (x0 x1 x2 : Int) (v1 : Value) (v5 : Value) (hv1 : v1.category = 1) (hv5 : v5.category = 1) (hB : an_GB pm_B σ) (eF : ((-2147483648) ≤ x0 ∧ x0 ≤ 2147483647) ∧ (1 ≤ x1 ∧ x1 ≤ 255) ∧ (0 ≤ x2 ∧ x2 ≤ 7) ∧ True)
    (l0 : ∀ (τ : pm_S) (y : Nat → Int) (v1 : Value) (v5 : Value), v1.category = 1 → v5.category = 1 → an_GB pm_B τ → FQ [] σ τ → (((-2147483648) ≤ x0 ∧ x0 ≤ 2147483647) ∧ (1 ≤ x1 ∧ x1 ≤ 255) ∧ (0 ≤ x2 ∧ x2 ≤ 7) ∧ True) → (True) → (True) → (True) → Ok 223 31 75 [.ref 93, v1, .int (Int32.ofInt (x0)), .int (Int32.ofInt (x1)), .int (Int32.ofInt (x2)), v5] [.int (Int32.ofInt (x2)), .int (Int32.ofInt (x1)), .ref 93, .int (Int32.ofInt (x1)), .ref 128] τ Q)
    : Ok 223 31 69 [.ref 93, v1, .int (Int32.ofInt (x0)), .int (Int32.ofInt (x1)), .int (Int32.ofInt (x2)), v5] [] σ Q := by
  refine an_seg (B := pm_B) (F := []) (T := []) (S := []) (fun _ h => absurd h List.not_mem_nil) (k := 223) (d := 30) (cs := [75]) 8 69 3 [(0, (-2147483648), 2147483647), (1, 1, 255), (2, 0, 7)] [] [(2, 93, 0), (5, 0, 0), (0, 0, 0), (0, 1, 0), (0, 2, 0), (5, 0, 0)] [] [(75, [(2, 93, 0), (5, 0, 0), (0, 0, 0), (0, 1, 0), (0, 2, 0), (5, 0, 0)], [(0, 2, 0), (0, 1, 0), (2, 93, 0), (0, 1, 0), (2, 128, 0)], [(0, (-2147483648), 2147483647), (1, 1, 255), (2, 0, 7)], [], [], [])] (by decide +kernel) (ρ0 := (fun s => [x0, x1, x2].getD s 0)) hB eF trivial ⟨rfl, ⟨hv1, ⟨rfl, ⟨rfl, ⟨rfl, ⟨hv5, trivial⟩⟩⟩⟩⟩⟩ trivial ?_
  refine List.forall_mem_cons.mpr ⟨?_, fun _ h => absurd h List.not_mem_nil⟩
  · intro ρ τ Lc stc hx g1 g2 g3 g4 g5 g6 g7 g8
    have e0 : ρ 0 = x0 := hx 0 (by decide)
    have e1 : ρ 1 = x1 := hx 1 (by decide)
    have e2 : ρ 2 = x2 := hx 2 (by decide)
    subst e0
    subst e1
    subst e2
    have g7 := g7 (by decide)
    match Lc, stc, g7, g8 with
    | [v0, v1, v2, v3, v4, v5], [w0, w1, w2, w3, w4], ⟨hv0, hv1, hv2, hv3, hv4, hv5, _⟩, ⟨hw0, hw1, hw2, hw3, hw4, _⟩ =>
      cases hv0
      cases hv2
      cases hv3
      cases hv4
      cases hw0
      cases hw1
      cases hw2
      cases hw3
      cases hw4
      exact l0 τ ρ v1 v5 hv1 hv5 g1 g2 g3 g4 g5 g6
set_option maxRecDepth 100000 in
theorem sg_fi77 {σ : pm_S} {Q : Option Value → pm_S → Prop} (x0 x1 x2 : Int) (v1 : Value) (v5 : Value) (hv1 : v1.category = 1) (hv5 : v5.category = 1) (hB : an_GB pm_B σ) (eF : ((-2147483648) ≤ x0 ∧ x0 ≤ 2147483647) ∧ (1 ≤ x1 ∧ x1 ≤ 255) ∧ (0 ≤ x2 ∧ x2 ≤ 7) ∧ True)
    (l0 : ∀ (τ : pm_S) (y : Nat → Int) (v1 : Value) (v5 : Value), v1.category = 1 → v5.category = 1 → an_GB pm_B τ → FQ [] σ τ → (((-2147483648) ≤ x0 ∧ x0 ≤ 2147483647) ∧ (1 ≤ x1 ∧ x1 ≤ 255) ∧ (0 ≤ x2 ∧ x2 ≤ 7) ∧ True) → (True) → (True) → (True) → Ok 223 31 49 [.ref 93, v1, .int (Int32.ofInt (x0)), .int (Int32.ofInt (x1)), .int (Int32.ofInt (x2 + 1)), v5] [] τ Q)
    : Ok 223 31 77 [.ref 93, v1, .int (Int32.ofInt (x0)), .int (Int32.ofInt (x1)), .int (Int32.ofInt (x2)), v5] [] σ Q := by
  refine an_seg (B := pm_B) (F := []) (T := []) (S := []) (fun _ h => absurd h List.not_mem_nil) (k := 223) (d := 30) (cs := [49]) 4 77 3 [(0, (-2147483648), 2147483647), (1, 1, 255), (2, 0, 7)] [] [(2, 93, 0), (5, 0, 0), (0, 0, 0), (0, 1, 0), (0, 2, 0), (5, 0, 0)] [] [(49, [(2, 93, 0), (5, 0, 0), (0, 0, 0), (0, 1, 0), (0, 2, 1), (5, 0, 0)], [], [(0, (-2147483648), 2147483647), (1, 1, 255), (2, 0, 7)], [], [], [])] (by decide +kernel) (ρ0 := (fun s => [x0, x1, x2].getD s 0)) hB eF trivial ⟨rfl, ⟨hv1, ⟨rfl, ⟨rfl, ⟨rfl, ⟨hv5, trivial⟩⟩⟩⟩⟩⟩ trivial ?_
  refine List.forall_mem_cons.mpr ⟨?_, fun _ h => absurd h List.not_mem_nil⟩
  · intro ρ τ Lc stc hx g1 g2 g3 g4 g5 g6 g7 g8
    have e0 : ρ 0 = x0 := hx 0 (by decide)
    have e1 : ρ 1 = x1 := hx 1 (by decide)
    have e2 : ρ 2 = x2 := hx 2 (by decide)
    subst e0
    subst e1
    subst e2
    have g7 := g7 (by decide)
    match Lc, stc, g7, g8 with
    | [v0, v1, v2, v3, v4, v5], [], ⟨hv0, hv1, hv2, hv3, hv4, hv5, _⟩, _ =>
      cases hv0
      cases hv2
      cases hv3
      cases hv4
      exact l0 τ ρ v1 v5 hv1 hv5 g1 g2 g3 g4 g5 g6
set_option maxRecDepth 100000 in
theorem sg_fi79 {σ : pm_S} {Q : Option Value → pm_S → Prop} (x0 x1 : Int) (v1 : Value) (v4 : Value) (v5 : Value) (hv1 : v1.category = 1) (hv4 : v4.category = 1) (hv5 : v5.category = 1) (hB : an_GB pm_B σ) (eF : ((-2147483648) ≤ x0 ∧ x0 ≤ 2147483647) ∧ (1 ≤ x1 ∧ x1 ≤ 255) ∧ True)
    (l0 : ∀ (τ : pm_S) (y : Nat → Int) (v1 : Value) (v4 : Value) (v5 : Value), v1.category = 1 → v4.category = 1 → v5.category = 1 → an_GB pm_B τ → FQ [] σ τ → (((-2147483648) ≤ x0 ∧ x0 ≤ 2147483647) ∧ (1 ≤ x1 ∧ x1 ≤ 255) ∧ True) → (True) → (True) → (True) → Ok 223 31 36 [.ref 93, v1, .int (Int32.ofInt (x0)), .int (Int32.ofInt (x1 + 1)), v4, v5] [] τ Q)
    : Ok 223 31 79 [.ref 93, v1, .int (Int32.ofInt (x0)), .int (Int32.ofInt (x1)), v4, v5] [] σ Q := by
  refine an_seg (B := pm_B) (F := []) (T := []) (S := []) (fun _ h => absurd h List.not_mem_nil) (k := 223) (d := 30) (cs := [36]) 4 79 2 [(0, (-2147483648), 2147483647), (1, 1, 255)] [] [(2, 93, 0), (5, 0, 0), (0, 0, 0), (0, 1, 0), (5, 0, 0), (5, 0, 0)] [] [(36, [(2, 93, 0), (5, 0, 0), (0, 0, 0), (0, 1, 1), (5, 0, 0), (5, 0, 0)], [], [(0, (-2147483648), 2147483647), (1, 1, 255)], [], [], [])] (by decide +kernel) (ρ0 := (fun s => [x0, x1].getD s 0)) hB eF trivial ⟨rfl, ⟨hv1, ⟨rfl, ⟨rfl, ⟨hv4, ⟨hv5, trivial⟩⟩⟩⟩⟩⟩ trivial ?_
  refine List.forall_mem_cons.mpr ⟨?_, fun _ h => absurd h List.not_mem_nil⟩
  · intro ρ τ Lc stc hx g1 g2 g3 g4 g5 g6 g7 g8
    have e0 : ρ 0 = x0 := hx 0 (by decide)
    have e1 : ρ 1 = x1 := hx 1 (by decide)
    subst e0
    subst e1
    have g7 := g7 (by decide)
    match Lc, stc, g7, g8 with
    | [v0, v1, v2, v3, v4, v5], [], ⟨hv0, hv1, hv2, hv3, hv4, hv5, _⟩, _ =>
      cases hv0
      cases hv2
      cases hv3
      exact l0 τ ρ v1 v4 v5 hv1 hv4 hv5 g1 g2 g3 g4 g5 g6
set_option maxRecDepth 100000 in
theorem sg_fi81 {σ : pm_S} {Q : Option Value → pm_S → Prop} (x0 x1 : Int) (v1 : Value) (v3 : Value) (v4 : Value) (v5 : Value) (hv1 : v1.category = 1) (hv3 : v3.category = 1) (hv4 : v4.category = 1) (hv5 : v5.category = 1) (hB : an_GB pm_B σ) (eF : ((-2147483648) ≤ x0 ∧ x0 ≤ 2147483647) ∧ (0 ≤ x1 ∧ x1 ≤ 8) ∧ True) (eC : (σ.1 93 55).toInt = x1 ∧ True)
    (l0 : ∀ (τ : pm_S) (y : Nat → Int) (v1 : Value), v1.category = 1 → an_GB pm_B τ → FQ [] σ τ → (((-2147483648) ≤ x0 ∧ x0 ≤ 2147483647) ∧ (0 ≤ x1 ∧ x1 ≤ 8) ∧ (1 ≤ y 2 ∧ y 2 ≤ 256) ∧ True) → (x0 ≠ 0 ∧ True) → ((an_f 6 (Int32.ofInt (1)) (Int32.ofInt (x1))).toInt = y 2 ∧ True) → (True) → Ok 223 31 99 [.ref 93, v1, .int (Int32.ofInt (x0)), .int (Int32.ofInt (y 2 + (-1))), .int (Int32.ofInt 0), .int (Int32.ofInt 0)] [] τ Q)
    (l1 : ∀ (τ : pm_S) (y : Nat → Int), an_GB pm_B τ → FQ [] σ τ → ((0 ≤ x0 ∧ x0 ≤ 0) ∧ (0 ≤ x1 ∧ x1 ≤ 8) ∧ (1 ≤ y 2 ∧ y 2 ≤ 256) ∧ ((-2147483648) ≤ y 3 ∧ y 3 ≤ 2147483647) ∧ True) → (True) → ((an_f 6 (Int32.ofInt (1)) (Int32.ofInt (x1))).toInt = y 2 ∧ True) → (True) → Q (some (.int (Int32.ofInt (y 3)))) τ)
    : Ok 223 31 81 [.ref 93, v1, .int (Int32.ofInt (x0)), v3, v4, v5] [] σ Q := by
  refine an_seg (B := pm_B) (F := []) (T := []) (S := []) (fun _ h => absurd h List.not_mem_nil) (k := 223) (d := 30) (cs := [99]) 16 81 2 [(0, (-2147483648), 2147483647), (1, 0, 8)] [(93, (1, 0, 55), (0, 1, 0))] [(2, 93, 0), (5, 0, 0), (0, 0, 0), (5, 0, 0), (5, 0, 0), (5, 0, 0)] [] [(99, [(2, 93, 0), (5, 0, 0), (0, 0, 0), (0, 2, (-1)), (1, 0, 0), (1, 0, 0)], [], [(0, (-2147483648), 2147483647), (1, 0, 8), (2, 1, 256)], [(3, 0, 0, 0)], [(6, (1, 0, 1), (0, 1, 0), 2)], []),
    (9999, [], [(0, 3, 0)], [(0, 0, 0), (1, 0, 8), (2, 1, 256), (3, (-2147483648), 2147483647)], [], [(6, (1, 0, 1), (0, 1, 0), 2)], [])] (by decide +kernel) (ρ0 := (fun s => [x0, x1].getD s 0)) hB eF eC ⟨rfl, ⟨hv1, ⟨rfl, ⟨hv3, ⟨hv4, ⟨hv5, trivial⟩⟩⟩⟩⟩⟩ trivial ?_
  refine List.forall_mem_cons.mpr ⟨?_, List.forall_mem_cons.mpr ⟨?_, fun _ h => absurd h List.not_mem_nil⟩⟩
  · intro ρ τ Lc stc hx g1 g2 g3 g4 g5 g6 g7 g8
    have e0 : ρ 0 = x0 := hx 0 (by decide)
    have e1 : ρ 1 = x1 := hx 1 (by decide)
    subst e0
    subst e1
    have g7 := g7 (by decide)
    match Lc, stc, g7, g8 with
    | [v0, v1, v2, v3, v4, v5], [], ⟨hv0, hv1, hv2, hv3, hv4, hv5, _⟩, _ =>
      cases hv0
      cases hv2
      cases hv3
      cases hv4
      cases hv5
      exact l0 τ ρ v1 hv1 g1 g2 g3 g4 g5 g6
  · intro ρ τ Lc stc hx g1 g2 g3 g4 g5 g6 g7 g8
    have e0 : ρ 0 = x0 := hx 0 (by decide)
    have e1 : ρ 1 = x1 := hx 1 (by decide)
    subst e0
    subst e1
    match stc, g8 with
    | [_], ⟨h, _⟩ => cases h; exact l1 τ ρ g1 g2 g3 g4 g5 g6
set_option maxRecDepth 100000 in
theorem sg_fi99 {σ : pm_S} {Q : Option Value → pm_S → Prop} (x0 x1 x2 x3 : Int) (v1 : Value) (hv1 : v1.category = 1) (hB : an_GB pm_B σ) (eF : (10 ≤ x0 ∧ x0 ≤ 17) ∧ (0 ≤ x1 ∧ x1 ≤ 255) ∧ (0 ≤ x2 ∧ x2 ≤ 7) ∧ (0 ≤ x3 ∧ x3 ≤ 8) ∧ True)
    (l0 : ∀ (τ : pm_S) (y : Nat → Int) (v1 : Value), v1.category = 1 → an_GB pm_B τ → FQ [] σ τ → ((10 ≤ x0 ∧ x0 ≤ 17) ∧ (0 ≤ x1 ∧ x1 ≤ 255) ∧ (0 ≤ x2 ∧ x2 ≤ 7) ∧ (0 ≤ x3 ∧ x3 ≤ 8) ∧ True) → (True) → (True) → (True) → Ok 223 31 103 [.ref 93, v1, .int (Int32.ofInt (x0)), .int (Int32.ofInt (x1)), .int (Int32.ofInt (x2)), .int (Int32.ofInt (x3))] [.int (Int32.ofInt (x0 + (-10))), .int (Int32.ofInt (x3))] τ Q)
    : Ok 223 31 99 [.ref 93, v1, .int (Int32.ofInt (x0)), .int (Int32.ofInt (x1)), .int (Int32.ofInt (x2)), .int (Int32.ofInt (x3))] [] σ Q := by
  refine an_seg (B := pm_B) (F := []) (T := []) (S := []) (fun _ h => absurd h List.not_mem_nil) (k := 223) (d := 30) (cs := [103]) 6 99 4 [(0, 10, 17), (1, 0, 255), (2, 0, 7), (3, 0, 8)] [] [(2, 93, 0), (5, 0, 0), (0, 0, 0), (0, 1, 0), (0, 2, 0), (0, 3, 0)] [] [(103, [(2, 93, 0), (5, 0, 0), (0, 0, 0), (0, 1, 0), (0, 2, 0), (0, 3, 0)], [(0, 0, (-10)), (0, 3, 0)], [(0, 10, 17), (1, 0, 255), (2, 0, 7), (3, 0, 8)], [], [], [])] (by decide +kernel) (ρ0 := (fun s => [x0, x1, x2, x3].getD s 0)) hB eF trivial ⟨rfl, ⟨hv1, ⟨rfl, ⟨rfl, ⟨rfl, ⟨rfl, trivial⟩⟩⟩⟩⟩⟩ trivial ?_
  refine List.forall_mem_cons.mpr ⟨?_, fun _ h => absurd h List.not_mem_nil⟩
  · intro ρ τ Lc stc hx g1 g2 g3 g4 g5 g6 g7 g8
    have e0 : ρ 0 = x0 := hx 0 (by decide)
    have e1 : ρ 1 = x1 := hx 1 (by decide)
    have e2 : ρ 2 = x2 := hx 2 (by decide)
    have e3 : ρ 3 = x3 := hx 3 (by decide)
    subst e0
    subst e1
    subst e2
    subst e3
    have g7 := g7 (by decide)
    match Lc, stc, g7, g8 with
    | [v0, v1, v2, v3, v4, v5], [w0, w1], ⟨hv0, hv1, hv2, hv3, hv4, hv5, _⟩, ⟨hw0, hw1, _⟩ =>
      cases hv0
      cases hv2
      cases hv3
      cases hv4
      cases hv5
      cases hw0
      cases hw1
      exact l0 τ ρ v1 hv1 g1 g2 g3 g4 g5 g6
set_option maxRecDepth 100000 in
theorem sg_fi104 {σ : pm_S} {Q : Option Value → pm_S → Prop} (x0 x1 x2 : Int) (v1 : Value) (v4 : Value) (hv1 : v1.category = 1) (hv4 : v4.category = 1) (hB : an_GB pm_B σ) (eF : (10 ≤ x0 ∧ x0 ≤ 17) ∧ (0 ≤ x1 ∧ x1 ≤ 255) ∧ (0 ≤ x2 ∧ x2 ≤ 7) ∧ True)
    (l0 : ∀ (τ : pm_S) (y : Nat → Int) (v1 : Value), v1.category = 1 → an_GB pm_B τ → FQ [] σ τ → ((10 ≤ x0 ∧ x0 ≤ 17) ∧ (0 ≤ x1 ∧ x1 ≤ 255) ∧ (0 ≤ x2 ∧ x2 ≤ 7) ∧ True) → (True) → (True) → (True) → Ok 223 31 106 [.ref 93, v1, .int (Int32.ofInt (x0)), .int (Int32.ofInt (x1)), .int (Int32.ofInt 0), .int (Int32.ofInt (x2))] [] τ Q)
    : Ok 223 31 104 [.ref 93, v1, .int (Int32.ofInt (x0)), .int (Int32.ofInt (x1)), v4, .int (Int32.ofInt (x2))] [] σ Q := by
  refine an_seg (B := pm_B) (F := []) (T := []) (S := []) (fun _ h => absurd h List.not_mem_nil) (k := 223) (d := 30) (cs := [106]) 4 104 3 [(0, 10, 17), (1, 0, 255), (2, 0, 7)] [] [(2, 93, 0), (5, 0, 0), (0, 0, 0), (0, 1, 0), (5, 0, 0), (0, 2, 0)] [] [(106, [(2, 93, 0), (5, 0, 0), (0, 0, 0), (0, 1, 0), (1, 0, 0), (0, 2, 0)], [], [(0, 10, 17), (1, 0, 255), (2, 0, 7)], [], [], [])] (by decide +kernel) (ρ0 := (fun s => [x0, x1, x2].getD s 0)) hB eF trivial ⟨rfl, ⟨hv1, ⟨rfl, ⟨rfl, ⟨hv4, ⟨rfl, trivial⟩⟩⟩⟩⟩⟩ trivial ?_
  refine List.forall_mem_cons.mpr ⟨?_, fun _ h => absurd h List.not_mem_nil⟩
  · intro ρ τ Lc stc hx g1 g2 g3 g4 g5 g6 g7 g8
    have e0 : ρ 0 = x0 := hx 0 (by decide)
    have e1 : ρ 1 = x1 := hx 1 (by decide)
    have e2 : ρ 2 = x2 := hx 2 (by decide)
    subst e0
    subst e1
    subst e2
    have g7 := g7 (by decide)
    match Lc, stc, g7, g8 with
    | [v0, v1, v2, v3, v4, v5], [], ⟨hv0, hv1, hv2, hv3, hv4, hv5, _⟩, _ =>
      cases hv0
      cases hv2
      cases hv3
      cases hv4
      cases hv5
      exact l0 τ ρ v1 hv1 g1 g2 g3 g4 g5 g6
set_option maxRecDepth 100000 in
theorem sg_fi106 {σ : pm_S} {Q : Option Value → pm_S → Prop} (x0 x1 x2 x3 : Int) (v1 : Value) (hv1 : v1.category = 1) (hB : an_GB pm_B σ) (eF : (10 ≤ x0 ∧ x0 ≤ 17) ∧ (1 ≤ x1 ∧ x1 ≤ 255) ∧ (0 ≤ x2 ∧ x2 ≤ 7) ∧ (0 ≤ x3 ∧ x3 ≤ 7) ∧ True)
    (l0 : ∀ (τ : pm_S) (y : Nat → Int) (v1 : Value), v1.category = 1 → an_GB pm_B τ → FQ [] σ τ → ((10 ≤ x0 ∧ x0 ≤ 17) ∧ (1 ≤ x1 ∧ x1 ≤ 255) ∧ (0 ≤ x2 ∧ x2 ≤ 7) ∧ (0 ≤ x3 ∧ x3 ≤ 7) ∧ (0 ≤ y 4 ∧ y 4 ≤ 255) ∧ (0 ≤ y 5 ∧ y 5 ≤ 0) ∧ True) → (y 5 ≤ y 4 + 0 ∧ True) → ((an_f 7 (Int32.ofInt (x1)) (Int32.ofInt (x2))).toInt = y 4 ∧ (an_f 3 (Int32.ofInt (y 4)) (Int32.ofInt (1))).toInt = y 5 ∧ True) → (True) → Ok 223 31 121 [.ref 93, v1, .int (Int32.ofInt (x0)), .int (Int32.ofInt (x1)), .int (Int32.ofInt (x2)), .int (Int32.ofInt (x3))] [] τ Q)
    (l1 : ∀ (τ : pm_S) (y : Nat → Int) (v1 : Value), v1.category = 1 → an_GB pm_B τ → FQ [] σ τ → ((10 ≤ x0 ∧ x0 ≤ 17) ∧ (1 ≤ x1 ∧ x1 ≤ 255) ∧ (0 ≤ x2 ∧ x2 ≤ 7) ∧ (0 ≤ x3 ∧ x3 ≤ 7) ∧ (0 ≤ y 4 ∧ y 4 ≤ 255) ∧ (1 ≤ y 5 ∧ y 5 ≤ 1) ∧ True) → (y 5 ≤ y 4 + 0 ∧ True) → ((an_f 7 (Int32.ofInt (x1)) (Int32.ofInt (x2))).toInt = y 4 ∧ (an_f 3 (Int32.ofInt (y 4)) (Int32.ofInt (1))).toInt = y 5 ∧ True) → (True) → Ok 223 31 115 [.ref 93, v1, .int (Int32.ofInt (x0)), .int (Int32.ofInt (x1)), .int (Int32.ofInt (x2)), .int (Int32.ofInt (x3))] [.int (Int32.ofInt (x2)), .int (Int32.ofInt (x1)), .ref 93] τ Q)
    : Ok 223 31 106 [.ref 93, v1, .int (Int32.ofInt (x0)), .int (Int32.ofInt (x1)), .int (Int32.ofInt (x2)), .int (Int32.ofInt (x3))] [] σ Q := by
  refine an_seg (B := pm_B) (F := []) (T := []) (S := []) (fun _ h => absurd h List.not_mem_nil) (k := 223) (d := 30) (cs := [115, 121]) 11 106 4 [(0, 10, 17), (1, 1, 255), (2, 0, 7), (3, 0, 7)] [] [(2, 93, 0), (5, 0, 0), (0, 0, 0), (0, 1, 0), (0, 2, 0), (0, 3, 0)] [] [(121, [(2, 93, 0), (5, 0, 0), (0, 0, 0), (0, 1, 0), (0, 2, 0), (0, 3, 0)], [], [(0, 10, 17), (1, 1, 255), (2, 0, 7), (3, 0, 7), (4, 0, 255), (5, 0, 0)], [(1, 5, 4, 0)], [(7, (0, 1, 0), (0, 2, 0), 4), (3, (0, 4, 0), (1, 0, 1), 5)], []),
    (115, [(2, 93, 0), (5, 0, 0), (0, 0, 0), (0, 1, 0), (0, 2, 0), (0, 3, 0)], [(0, 2, 0), (0, 1, 0), (2, 93, 0)], [(0, 10, 17), (1, 1, 255), (2, 0, 7), (3, 0, 7), (4, 0, 255), (5, 1, 1)], [(1, 5, 4, 0)], [(7, (0, 1, 0), (0, 2, 0), 4), (3, (0, 4, 0), (1, 0, 1), 5)], [])] (by decide +kernel) (ρ0 := (fun s => [x0, x1, x2, x3].getD s 0)) hB eF trivial ⟨rfl, ⟨hv1, ⟨rfl, ⟨rfl, ⟨rfl, ⟨rfl, trivial⟩⟩⟩⟩⟩⟩ trivial ?_
  refine List.forall_mem_cons.mpr ⟨?_, List.forall_mem_cons.mpr ⟨?_, fun _ h => absurd h List.not_mem_nil⟩⟩
  · intro ρ τ Lc stc hx g1 g2 g3 g4 g5 g6 g7 g8
    have e0 : ρ 0 = x0 := hx 0 (by decide)
    have e1 : ρ 1 = x1 := hx 1 (by decide)
    have e2 : ρ 2 = x2 := hx 2 (by decide)
    have e3 : ρ 3 = x3 := hx 3 (by decide)
    subst e0
    subst e1
    subst e2
    subst e3
    have g7 := g7 (by decide)
    match Lc, stc, g7, g8 with
    | [v0, v1, v2, v3, v4, v5], [], ⟨hv0, hv1, hv2, hv3, hv4, hv5, _⟩, _ =>
      cases hv0
      cases hv2
      cases hv3
      cases hv4
      cases hv5
      exact l0 τ ρ v1 hv1 g1 g2 g3 g4 g5 g6
  · intro ρ τ Lc stc hx g1 g2 g3 g4 g5 g6 g7 g8
    have e0 : ρ 0 = x0 := hx 0 (by decide)
    have e1 : ρ 1 = x1 := hx 1 (by decide)
    have e2 : ρ 2 = x2 := hx 2 (by decide)
    have e3 : ρ 3 = x3 := hx 3 (by decide)
    subst e0
    subst e1
    subst e2
    subst e3
    have g7 := g7 (by decide)
    match Lc, stc, g7, g8 with
    | [v0, v1, v2, v3, v4, v5], [w0, w1, w2], ⟨hv0, hv1, hv2, hv3, hv4, hv5, _⟩, ⟨hw0, hw1, hw2, _⟩ =>
      cases hv0
      cases hv2
      cases hv3
      cases hv4
      cases hv5
      cases hw0
      cases hw1
      cases hw2
      exact l1 τ ρ v1 hv1 g1 g2 g3 g4 g5 g6
set_option maxRecDepth 100000 in
theorem sg_fi116 {σ : pm_S} {Q : Option Value → pm_S → Prop} (x0 x1 x2 x3 x4 : Int) (v1 : Value) (hv1 : v1.category = 1) (hB : an_GB pm_B σ) (eF : (10 ≤ x0 ∧ x0 ≤ 17) ∧ (1 ≤ x1 ∧ x1 ≤ 255) ∧ (0 ≤ x2 ∧ x2 ≤ 7) ∧ (0 ≤ x3 ∧ x3 ≤ 7) ∧ ((-2147483648) ≤ x4 ∧ x4 ≤ 2147483647) ∧ True)
    (l0 : ∀ (τ : pm_S) (y : Nat → Int) (v1 : Value), v1.category = 1 → an_GB pm_B τ → FQ [] σ τ → ((10 ≤ x0 ∧ x0 ≤ 17) ∧ (1 ≤ x1 ∧ x1 ≤ 255) ∧ (0 ≤ x2 ∧ x2 ≤ 7) ∧ (0 ≤ x3 ∧ x3 ≤ 7) ∧ ((-2147483648) ≤ x4 ∧ x4 ≤ 2147483647) ∧ ((-2147483648) ≤ y 5 ∧ y 5 ≤ 2147483647) ∧ True) → (True) → (True) → ((τ.1 128 (x1).toNat).toInt = y 5 ∧ True) → Ok 223 31 120 [.ref 93, v1, .int (Int32.ofInt (x0)), .int (Int32.ofInt (x1)), .int (Int32.ofInt (x2)), .int (Int32.ofInt (x3))] [.int (Int32.ofInt (y 5)), .int (Int32.ofInt (x4))] τ Q)
    : Ok 223 31 116 [.ref 93, v1, .int (Int32.ofInt (x0)), .int (Int32.ofInt (x1)), .int (Int32.ofInt (x2)), .int (Int32.ofInt (x3))] [.int (Int32.ofInt (x4))] σ Q := by
  refine an_seg (B := pm_B) (F := []) (T := [128]) (S := []) (fun _ h => absurd h List.not_mem_nil) (k := 223) (d := 30) (cs := [120]) 6 116 5 [(0, 10, 17), (1, 1, 255), (2, 0, 7), (3, 0, 7), (4, (-2147483648), 2147483647)] [] [(2, 93, 0), (5, 0, 0), (0, 0, 0), (0, 1, 0), (0, 2, 0), (0, 3, 0)] [(0, 4, 0)] [(120, [(2, 93, 0), (5, 0, 0), (0, 0, 0), (0, 1, 0), (0, 2, 0), (0, 3, 0)], [(0, 5, 0), (0, 4, 0)], [(0, 10, 17), (1, 1, 255), (2, 0, 7), (3, 0, 7), (4, (-2147483648), 2147483647), (5, (-2147483648), 2147483647)], [], [], [(128, (0, 1, 0), (0, 5, 0))])] (by decide +kernel) (ρ0 := (fun s => [x0, x1, x2, x3, x4].getD s 0)) hB eF trivial ⟨rfl, ⟨hv1, ⟨rfl, ⟨rfl, ⟨rfl, ⟨rfl, trivial⟩⟩⟩⟩⟩⟩ ⟨rfl, trivial⟩ ?_
  refine List.forall_mem_cons.mpr ⟨?_, fun _ h => absurd h List.not_mem_nil⟩
  · intro ρ τ Lc stc hx g1 g2 g3 g4 g5 g6 g7 g8
    have e0 : ρ 0 = x0 := hx 0 (by decide)
    have e1 : ρ 1 = x1 := hx 1 (by decide)
    have e2 : ρ 2 = x2 := hx 2 (by decide)
    have e3 : ρ 3 = x3 := hx 3 (by decide)
    have e4 : ρ 4 = x4 := hx 4 (by decide)
    subst e0
    subst e1
    subst e2
    subst e3
    subst e4
    have g7 := g7 (by decide)
    match Lc, stc, g7, g8 with
    | [v0, v1, v2, v3, v4, v5], [w0, w1], ⟨hv0, hv1, hv2, hv3, hv4, hv5, _⟩, ⟨hw0, hw1, _⟩ =>
      cases hv0
      cases hv2
      cases hv3
      cases hv4
      cases hv5
      cases hw0
      cases hw1
      exact l0 τ ρ v1 hv1 g1 g2 g3 g4 g5 g6
set_option maxRecDepth 100000 in
theorem sg_fi121 {σ : pm_S} {Q : Option Value → pm_S → Prop} (x0 x1 x2 x3 : Int) (v1 : Value) (hv1 : v1.category = 1) (hB : an_GB pm_B σ) (eF : (10 ≤ x0 ∧ x0 ≤ 17) ∧ (1 ≤ x1 ∧ x1 ≤ 255) ∧ (0 ≤ x2 ∧ x2 ≤ 7) ∧ (0 ≤ x3 ∧ x3 ≤ 7) ∧ True)
    (l0 : ∀ (τ : pm_S) (y : Nat → Int) (v1 : Value), v1.category = 1 → an_GB pm_B τ → FQ [] σ τ → ((10 ≤ x0 ∧ x0 ≤ 17) ∧ (1 ≤ x1 ∧ x1 ≤ 255) ∧ (0 ≤ x2 ∧ x2 ≤ 7) ∧ (0 ≤ x3 ∧ x3 ≤ 7) ∧ True) → (True) → (True) → (True) → Ok 223 31 106 [.ref 93, v1, .int (Int32.ofInt (x0)), .int (Int32.ofInt (x1)), .int (Int32.ofInt (x2 + 1)), .int (Int32.ofInt (x3))] [] τ Q)
    : Ok 223 31 121 [.ref 93, v1, .int (Int32.ofInt (x0)), .int (Int32.ofInt (x1)), .int (Int32.ofInt (x2)), .int (Int32.ofInt (x3))] [] σ Q := by
  refine an_seg (B := pm_B) (F := []) (T := []) (S := []) (fun _ h => absurd h List.not_mem_nil) (k := 223) (d := 30) (cs := [106]) 7 121 4 [(0, 10, 17), (1, 1, 255), (2, 0, 7), (3, 0, 7)] [] [(2, 93, 0), (5, 0, 0), (0, 0, 0), (0, 1, 0), (0, 2, 0), (0, 3, 0)] [] [(106, [(2, 93, 0), (5, 0, 0), (0, 0, 0), (0, 1, 0), (0, 2, 1), (0, 3, 0)], [], [(0, 10, 17), (1, 1, 255), (2, 0, 7), (3, 0, 7)], [], [], [])] (by decide +kernel) (ρ0 := (fun s => [x0, x1, x2, x3].getD s 0)) hB eF trivial ⟨rfl, ⟨hv1, ⟨rfl, ⟨rfl, ⟨rfl, ⟨rfl, trivial⟩⟩⟩⟩⟩⟩ trivial ?_
  refine List.forall_mem_cons.mpr ⟨?_, fun _ h => absurd h List.not_mem_nil⟩
  · intro ρ τ Lc stc hx g1 g2 g3 g4 g5 g6 g7 g8
    have e0 : ρ 0 = x0 := hx 0 (by decide)
    have e1 : ρ 1 = x1 := hx 1 (by decide)
    have e2 : ρ 2 = x2 := hx 2 (by decide)
    have e3 : ρ 3 = x3 := hx 3 (by decide)
    subst e0
    subst e1
    subst e2
    subst e3
    have g7 := g7 (by decide)
    match Lc, stc, g7, g8 with
    | [v0, v1, v2, v3, v4, v5], [], ⟨hv0, hv1, hv2, hv3, hv4, hv5, _⟩, _ =>
      cases hv0
      cases hv2
      cases hv3
      cases hv4
      cases hv5
      exact l0 τ ρ v1 hv1 g1 g2 g3 g4 g5 g6
set_option maxRecDepth 100000 in
theorem sg_fi126 {σ : pm_S} {Q : Option Value → pm_S → Prop} (x0 x1 x2 x3 : Int) (v1 : Value) (hv1 : v1.category = 1) (hB : an_GB pm_B σ) (eF : (10 ≤ x0 ∧ x0 ≤ 17) ∧ (1 ≤ x1 ∧ x1 ≤ 255) ∧ (0 ≤ x2 ∧ x2 ≤ 7) ∧ (0 ≤ x3 ∧ x3 ≤ 7) ∧ True)
    (l0 : ∀ (τ : pm_S) (y : Nat → Int) (v1 : Value), v1.category = 1 → an_GB pm_B τ → FQ [] σ τ → ((10 ≤ x0 ∧ x0 ≤ 17) ∧ (1 ≤ x1 ∧ x1 ≤ 255) ∧ (0 ≤ x2 ∧ x2 ≤ 7) ∧ (0 ≤ x3 ∧ x3 ≤ 7) ∧ (1 ≤ y 4 ∧ y 4 ≤ 128) ∧ ((-129) ≤ y 5 ∧ y 5 ≤ (-2)) ∧ (0 ≤ y 6 ∧ y 6 ≤ 255) ∧ True) → (y 6 ≤ x1 + 0 ∧ True) → ((an_f 6 (Int32.ofInt (1)) (Int32.ofInt (x2))).toInt = y 4 ∧ (an_f 5 (Int32.ofInt (y 4)) (Int32.ofInt ((-1)))).toInt = y 5 ∧ (an_f 3 (Int32.ofInt (x1)) (Int32.ofInt (y 5))).toInt = y 6 ∧ True) → (True) → Ok 223 31 99 [.ref 93, v1, .int (Int32.ofInt (x0)), .int (Int32.ofInt (y 6)), .int (Int32.ofInt (x2)), .int (Int32.ofInt (x3 + 1))] [] τ Q)
    : Ok 223 31 126 [.ref 93, v1, .int (Int32.ofInt (x0)), .int (Int32.ofInt (x1)), .int (Int32.ofInt (x2)), .int (Int32.ofInt (x3))] [] σ Q := by
  refine an_seg (B := pm_B) (F := []) (T := []) (S := []) (fun _ h => absurd h List.not_mem_nil) (k := 223) (d := 30) (cs := [99]) 12 126 4 [(0, 10, 17), (1, 1, 255), (2, 0, 7), (3, 0, 7)] [] [(2, 93, 0), (5, 0, 0), (0, 0, 0), (0, 1, 0), (0, 2, 0), (0, 3, 0)] [] [(99, [(2, 93, 0), (5, 0, 0), (0, 0, 0), (0, 6, 0), (0, 2, 0), (0, 3, 1)], [], [(0, 10, 17), (1, 1, 255), (2, 0, 7), (3, 0, 7), (4, 1, 128), (5, (-129), (-2)), (6, 0, 255)], [(1, 6, 1, 0)], [(6, (1, 0, 1), (0, 2, 0), 4), (5, (0, 4, 0), (1, 0, (-1)), 5), (3, (0, 1, 0), (0, 5, 0), 6)], [])] (by decide +kernel) (ρ0 := (fun s => [x0, x1, x2, x3].getD s 0)) hB eF trivial ⟨rfl, ⟨hv1, ⟨rfl, ⟨rfl, ⟨rfl, ⟨rfl, trivial⟩⟩⟩⟩⟩⟩ trivial ?_
  refine List.forall_mem_cons.mpr ⟨?_, fun _ h => absurd h List.not_mem_nil⟩
  · intro ρ τ Lc stc hx g1 g2 g3 g4 g5 g6 g7 g8
    have e0 : ρ 0 = x0 := hx 0 (by decide)
    have e1 : ρ 1 = x1 := hx 1 (by decide)
    have e2 : ρ 2 = x2 := hx 2 (by decide)
    have e3 : ρ 3 = x3 := hx 3 (by decide)
    subst e0
    subst e1
    subst e2
    subst e3
    have g7 := g7 (by decide)
    match Lc, stc, g7, g8 with
    | [v0, v1, v2, v3, v4, v5], [], ⟨hv0, hv1, hv2, hv3, hv4, hv5, _⟩, _ =>
      cases hv0
      cases hv2
      cases hv3
      cases hv4
      cases hv5
      exact l0 τ ρ v1 hv1 g1 g2 g3 g4 g5 g6
set_option maxRecDepth 100000 in
theorem sg_fi136 {σ : pm_S} {Q : Option Value → pm_S → Prop} (x0 : Int) (v1 : Value) (v2 : Value) (v3 : Value) (v5 : Value) (hv1 : v1.category = 1) (hv2 : v2.category = 1) (hv3 : v3.category = 1) (hv5 : v5.category = 1) (hB : an_GB pm_B σ) (eF : (0 ≤ x0 ∧ x0 ≤ 7) ∧ True)
    (l0 : ∀ (τ : pm_S) (y : Nat → Int), an_GB pm_B τ → FQ [] σ τ → ((0 ≤ x0 ∧ x0 ≤ 7) ∧ (0 ≤ y 1 ∧ y 1 ≤ 29) ∧ True) → (True) → (True) → (True) → Q (some (.int (Int32.ofInt (y 1)))) τ)
    : Ok 223 31 136 [.ref 93, v1, v2, v3, .int (Int32.ofInt (x0)), v5] [] σ Q := by
  refine an_seg (B := pm_B) (F := []) (T := []) (S := []) (fun _ h => absurd h List.not_mem_nil) (k := 223) (d := 30) (cs := []) 7 136 1 [(0, 0, 7)] [] [(2, 93, 0), (5, 0, 0), (5, 0, 0), (5, 0, 0), (0, 0, 0), (5, 0, 0)] [] [(9999, [], [(0, 1, 0)], [(0, 0, 7), (1, 0, 29)], [], [], [])] (by decide +kernel) (ρ0 := (fun s => [x0].getD s 0)) hB eF trivial ⟨rfl, ⟨hv1, ⟨hv2, ⟨hv3, ⟨rfl, ⟨hv5, trivial⟩⟩⟩⟩⟩⟩ trivial ?_
  refine List.forall_mem_cons.mpr ⟨?_, fun _ h => absurd h List.not_mem_nil⟩
  · intro ρ τ Lc stc hx g1 g2 g3 g4 g5 g6 g7 g8
    have e0 : ρ 0 = x0 := hx 0 (by decide)
    subst e0
    match stc, g8 with
    | [_], ⟨h, _⟩ => cases h; exact l0 τ ρ g1 g2 g3 g4 g5 g6
