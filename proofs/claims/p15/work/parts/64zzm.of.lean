/-! of: what one is told of a person, both sides -/
set_option maxRecDepth 100000 in
theorem zo_b0 {σ : pm_S} {Q : Option Value → pm_S → Prop} (x0 : Int) (v2 : Value) (v3 : Value) (hv2 : v2.category = 1) (hv3 : v3.category = 1) (hB : an_GB pm_B σ) (eF : (0 ≤ x0 ∧ x0 ≤ 9) ∧ True)
    (l0 : ∀ (τ : pm_S) (y : Nat → Int), an_GB pm_B τ → FQ [] σ τ → ((0 ≤ x0 ∧ x0 ≤ 9) ∧ True) → (True) → (True) → (True) → Ok 6 5 4 [.ref 13, .int (Int32.ofInt (x0)), .int (Int32.ofInt 0), .int (Int32.ofInt 0)] [] τ Q)
    : Ok 6 5 0 [.ref 13, .int (Int32.ofInt (x0)), v2, v3] [] σ Q := by
  refine an_seg (B := pm_B) (F := []) (T := []) (S := []) (fun _ h => absurd h List.not_mem_nil) (k := 6) (d := 4) (cs := [4]) 6 0 1 [(0, 0, 9)] [] [(2, 13, 0), (0, 0, 0), (5, 0, 0), (5, 0, 0)] [] [(4, [(2, 13, 0), (0, 0, 0), (1, 0, 0), (1, 0, 0)], [], [(0, 0, 9)], [], [], [])] (by decide +kernel) (ρ0 := (fun s => [x0].getD s 0)) hB eF trivial ⟨rfl, ⟨rfl, ⟨hv2, ⟨hv3, trivial⟩⟩⟩⟩ trivial ?_
  refine List.forall_mem_cons.mpr ⟨?_, fun _ h => absurd h List.not_mem_nil⟩
  · intro ρ τ Lc stc hx g1 g2 g3 g4 g5 g6 g7 g8
    have e0 : ρ 0 = x0 := hx 0 (by decide)
    subst e0
    have g7 := g7 (by decide)
    match Lc, stc, g7, g8 with
    | [v0, v1, v2, v3], [], ⟨hv0, hv1, hv2, hv3, _⟩, _ =>
      cases hv0
      cases hv1
      cases hv2
      cases hv3
      exact l0 τ ρ  g1 g2 g3 g4 g5 g6
set_option maxRecDepth 100000 in
theorem zo_b4 {σ : pm_S} {Q : Option Value → pm_S → Prop} (x0 x1 x2 x3 : Int)  (hB : an_GB pm_B σ) (eF : (0 ≤ x0 ∧ x0 ≤ 9) ∧ ((-2147483648) ≤ x1 ∧ x1 ≤ 2147483647) ∧ (0 ≤ x2 ∧ x2 ≤ 30) ∧ (0 ≤ x3 ∧ x3 ≤ 30) ∧ True) (eC : (σ.1 13 0).toInt = x3 ∧ True)
    (l0 : ∀ (τ : pm_S) (y : Nat → Int), an_GB pm_B τ → FQ [] σ τ → ((0 ≤ x0 ∧ x0 ≤ 9) ∧ ((-2147483648) ≤ x1 ∧ x1 ≤ 2147483647) ∧ (0 ≤ x2 ∧ x2 ≤ 30) ∧ (0 ≤ x3 ∧ x3 ≤ 30) ∧ True) → (True) → (True) → ((τ.1 13 0).toInt = x3 ∧ True) → Ok 6 5 7 [.ref 13, .int (Int32.ofInt (x0)), .int (Int32.ofInt (x1)), .int (Int32.ofInt (x2))] [.int (Int32.ofInt (x3)), .int (Int32.ofInt (x2))] τ Q)
    : Ok 6 5 4 [.ref 13, .int (Int32.ofInt (x0)), .int (Int32.ofInt (x1)), .int (Int32.ofInt (x2))] [] σ Q := by
  refine an_seg (B := pm_B) (F := []) (T := []) (S := []) (fun _ h => absurd h List.not_mem_nil) (k := 6) (d := 4) (cs := [7]) 5 4 4 [(0, 0, 9), (1, (-2147483648), 2147483647), (2, 0, 30), (3, 0, 30)] [(13, (1, 0, 0), (0, 3, 0))] [(2, 13, 0), (0, 0, 0), (0, 1, 0), (0, 2, 0)] [] [(7, [(2, 13, 0), (0, 0, 0), (0, 1, 0), (0, 2, 0)], [(0, 3, 0), (0, 2, 0)], [(0, 0, 9), (1, (-2147483648), 2147483647), (2, 0, 30), (3, 0, 30)], [], [], [(13, (1, 0, 0), (0, 3, 0))])] (by decide +kernel) (ρ0 := (fun s => [x0, x1, x2, x3].getD s 0)) hB eF eC ⟨rfl, ⟨rfl, ⟨rfl, ⟨rfl, trivial⟩⟩⟩⟩ trivial ?_
  refine List.forall_mem_cons.mpr ⟨?_, fun _ h => absurd h List.not_mem_nil⟩
  · intro ρ τ Lc stc hx g1 g2 g3 g4 g5 g6 g7 g8
    have e0 : ρ 0 = x0 := hx 0 (by decide)
    have e1 : ρ 1 = x1 := hx 1 (by decide)
    have e2 : ρ 2 = x2 := hx 2 (by decide)
    have e3 : ρ 3 = x3 := hx 3 (by decide)
    subst e0
    subst e1
    subst e2
    subst e3
    have g7 := g7 (by decide)
    match Lc, stc, g7, g8 with
    | [v0, v1, v2, v3], [w0, w1], ⟨hv0, hv1, hv2, hv3, _⟩, ⟨hw0, hw1, _⟩ =>
      cases hv0
      cases hv1
      cases hv2
      cases hv3
      cases hw0
      cases hw1
      exact l0 τ ρ  g1 g2 g3 g4 g5 g6
set_option maxRecDepth 100000 in
theorem zo_b8 {σ : pm_S} {Q : Option Value → pm_S → Prop} (x0 x1 x2 : Int)  (hB : an_GB pm_B σ) (eF : (0 ≤ x0 ∧ x0 ≤ 9) ∧ ((-2147483648) ≤ x1 ∧ x1 ≤ 2147483647) ∧ (0 ≤ x2 ∧ x2 ≤ 29) ∧ True)
    (l0 : ∀ (τ : pm_S) (y : Nat → Int), an_GB pm_B τ → FQ [] σ τ → ((0 ≤ x0 ∧ x0 ≤ 9) ∧ ((-2147483648) ≤ x1 ∧ x1 ≤ 2147483647) ∧ (0 ≤ x2 ∧ x2 ≤ 29) ∧ True) → (True) → (True) → (True) → Ok 6 5 11 [.ref 13, .int (Int32.ofInt (x0)), .int (Int32.ofInt (x1)), .int (Int32.ofInt (x2))] [.int (Int32.ofInt (x2)), .ref 13, .int (Int32.ofInt (x1))] τ Q)
    : Ok 6 5 8 [.ref 13, .int (Int32.ofInt (x0)), .int (Int32.ofInt (x1)), .int (Int32.ofInt (x2))] [] σ Q := by
  refine an_seg (B := pm_B) (F := []) (T := []) (S := []) (fun _ h => absurd h List.not_mem_nil) (k := 6) (d := 4) (cs := [11]) 5 8 3 [(0, 0, 9), (1, (-2147483648), 2147483647), (2, 0, 29)] [] [(2, 13, 0), (0, 0, 0), (0, 1, 0), (0, 2, 0)] [] [(11, [(2, 13, 0), (0, 0, 0), (0, 1, 0), (0, 2, 0)], [(0, 2, 0), (2, 13, 0), (0, 1, 0)], [(0, 0, 9), (1, (-2147483648), 2147483647), (2, 0, 29)], [], [], [])] (by decide +kernel) (ρ0 := (fun s => [x0, x1, x2].getD s 0)) hB eF trivial ⟨rfl, ⟨rfl, ⟨rfl, ⟨rfl, trivial⟩⟩⟩⟩ trivial ?_
  refine List.forall_mem_cons.mpr ⟨?_, fun _ h => absurd h List.not_mem_nil⟩
  · intro ρ τ Lc stc hx g1 g2 g3 g4 g5 g6 g7 g8
    have e0 : ρ 0 = x0 := hx 0 (by decide)
    have e1 : ρ 1 = x1 := hx 1 (by decide)
    have e2 : ρ 2 = x2 := hx 2 (by decide)
    subst e0
    subst e1
    subst e2
    have g7 := g7 (by decide)
    match Lc, stc, g7, g8 with
    | [v0, v1, v2, v3], [w0, w1, w2], ⟨hv0, hv1, hv2, hv3, _⟩, ⟨hw0, hw1, hw2, _⟩ =>
      cases hv0
      cases hv1
      cases hv2
      cases hv3
      cases hw0
      cases hw1
      cases hw2
      exact l0 τ ρ  g1 g2 g3 g4 g5 g6
set_option maxRecDepth 100000 in
theorem zo_b12 {σ : pm_S} {Q : Option Value → pm_S → Prop} (x0 x1 x2 x3 x4 : Int)  (hB : an_GB pm_B σ) (eF : (0 ≤ x0 ∧ x0 ≤ 9) ∧ ((-2147483648) ≤ x1 ∧ x1 ≤ 2147483647) ∧ (0 ≤ x2 ∧ x2 ≤ 29) ∧ (0 ≤ x3 ∧ x3 ≤ 1) ∧ (0 ≤ x4 ∧ x4 ≤ 9) ∧ True) (eC : (σ.1 14 (x2).toNat).toInt = x4 ∧ True)
    (l0 : ∀ (τ : pm_S) (y : Nat → Int), an_GB pm_B τ → FQ [] σ τ → ((0 ≤ x0 ∧ x0 ≤ 9) ∧ ((-2147483648) ≤ x1 ∧ x1 ≤ 2147483647) ∧ (0 ≤ x2 ∧ x2 ≤ 29) ∧ (0 ≤ x3 ∧ x3 ≤ 0) ∧ (0 ≤ x4 ∧ x4 ≤ 9) ∧ True) → (True) → (True) → ((τ.1 14 (x2).toNat).toInt = x4 ∧ True) → Ok 6 5 4 [.ref 13, .int (Int32.ofInt (x0)), .int (Int32.ofInt (x1)), .int (Int32.ofInt (x2 + 1))] [] τ Q)
    (l1 : ∀ (τ : pm_S) (y : Nat → Int), an_GB pm_B τ → FQ [] σ τ → ((0 ≤ x0 ∧ x0 ≤ 9) ∧ ((-2147483648) ≤ x1 ∧ x1 ≤ 2147483647) ∧ (0 ≤ x2 ∧ x2 ≤ 29) ∧ (1 ≤ x3 ∧ x3 ≤ 1) ∧ (0 ≤ x4 ∧ x4 ≤ 9) ∧ True) → (True) → (True) → ((τ.1 14 (x2).toNat).toInt = x4 ∧ True) → Ok 6 5 18 [.ref 13, .int (Int32.ofInt (x0)), .int (Int32.ofInt (x1)), .int (Int32.ofInt (x2))] [.int (Int32.ofInt (x0)), .int (Int32.ofInt (x4)), .int (Int32.ofInt (x1))] τ Q)
    : Ok 6 5 12 [.ref 13, .int (Int32.ofInt (x0)), .int (Int32.ofInt (x1)), .int (Int32.ofInt (x2))] [.int (Int32.ofInt (x3)), .int (Int32.ofInt (x1))] σ Q := by
  refine an_seg (B := pm_B) (F := []) (T := [14]) (S := []) (fun _ h => absurd h List.not_mem_nil) (k := 6) (d := 4) (cs := [18, 4]) 8 12 5 [(0, 0, 9), (1, (-2147483648), 2147483647), (2, 0, 29), (3, 0, 1), (4, 0, 9)] [(14, (0, 2, 0), (0, 4, 0))] [(2, 13, 0), (0, 0, 0), (0, 1, 0), (0, 2, 0)] [(0, 3, 0), (0, 1, 0)] [(4, [(2, 13, 0), (0, 0, 0), (0, 1, 0), (0, 2, 1)], [], [(0, 0, 9), (1, (-2147483648), 2147483647), (2, 0, 29), (3, 0, 0), (4, 0, 9)], [], [], [(14, (0, 2, 0), (0, 4, 0))]),
    (18, [(2, 13, 0), (0, 0, 0), (0, 1, 0), (0, 2, 0)], [(0, 0, 0), (0, 4, 0), (0, 1, 0)], [(0, 0, 9), (1, (-2147483648), 2147483647), (2, 0, 29), (3, 1, 1), (4, 0, 9)], [], [], [(14, (0, 2, 0), (0, 4, 0))])] (by decide +kernel) (ρ0 := (fun s => [x0, x1, x2, x3, x4].getD s 0)) hB eF eC ⟨rfl, ⟨rfl, ⟨rfl, ⟨rfl, trivial⟩⟩⟩⟩ ⟨rfl, ⟨rfl, trivial⟩⟩ ?_
  refine List.forall_mem_cons.mpr ⟨?_, List.forall_mem_cons.mpr ⟨?_, fun _ h => absurd h List.not_mem_nil⟩⟩
  · intro ρ τ Lc stc hx g1 g2 g3 g4 g5 g6 g7 g8
    have e0 : ρ 0 = x0 := hx 0 (by decide)
    have e1 : ρ 1 = x1 := hx 1 (by decide)
    have e2 : ρ 2 = x2 := hx 2 (by decide)
    have e3 : ρ 3 = x3 := hx 3 (by decide)
    have e4 : ρ 4 = x4 := hx 4 (by decide)
    subst e0
    subst e1
    subst e2
    subst e3
    subst e4
    have g7 := g7 (by decide)
    match Lc, stc, g7, g8 with
    | [v0, v1, v2, v3], [], ⟨hv0, hv1, hv2, hv3, _⟩, _ =>
      cases hv0
      cases hv1
      cases hv2
      cases hv3
      exact l0 τ ρ  g1 g2 g3 g4 g5 g6
  · intro ρ τ Lc stc hx g1 g2 g3 g4 g5 g6 g7 g8
    have e0 : ρ 0 = x0 := hx 0 (by decide)
    have e1 : ρ 1 = x1 := hx 1 (by decide)
    have e2 : ρ 2 = x2 := hx 2 (by decide)
    have e3 : ρ 3 = x3 := hx 3 (by decide)
    have e4 : ρ 4 = x4 := hx 4 (by decide)
    subst e0
    subst e1
    subst e2
    subst e3
    subst e4
    have g7 := g7 (by decide)
    match Lc, stc, g7, g8 with
    | [v0, v1, v2, v3], [w0, w1, w2], ⟨hv0, hv1, hv2, hv3, _⟩, ⟨hw0, hw1, hw2, _⟩ =>
      cases hv0
      cases hv1
      cases hv2
      cases hv3
      cases hw0
      cases hw1
      cases hw2
      exact l1 τ ρ  g1 g2 g3 g4 g5 g6
set_option maxRecDepth 100000 in
theorem zo_b24 {σ : pm_S} {Q : Option Value → pm_S → Prop} (x0 x1 x2 : Int)  (hB : an_GB pm_B σ) (eF : (0 ≤ x0 ∧ x0 ≤ 9) ∧ ((-2147483648) ≤ x1 ∧ x1 ≤ 2147483647) ∧ (0 ≤ x2 ∧ x2 ≤ 29) ∧ True)
    (l0 : ∀ (τ : pm_S) (y : Nat → Int), an_GB pm_B τ → FQ [] σ τ → ((0 ≤ x0 ∧ x0 ≤ 9) ∧ ((-2147483648) ≤ x1 ∧ x1 ≤ 2147483647) ∧ (0 ≤ x2 ∧ x2 ≤ 29) ∧ True) → (True) → (True) → (True) → Ok 6 5 4 [.ref 13, .int (Int32.ofInt (x0)), .int (Int32.ofInt (x1)), .int (Int32.ofInt (x2 + 1))] [] τ Q)
    : Ok 6 5 24 [.ref 13, .int (Int32.ofInt (x0)), .int (Int32.ofInt (x1)), .int (Int32.ofInt (x2))] [.int (Int32.ofInt (x1))] σ Q := by
  refine an_seg (B := pm_B) (F := []) (T := []) (S := []) (fun _ h => absurd h List.not_mem_nil) (k := 6) (d := 4) (cs := [4]) 7 24 3 [(0, 0, 9), (1, (-2147483648), 2147483647), (2, 0, 29)] [] [(2, 13, 0), (0, 0, 0), (0, 1, 0), (0, 2, 0)] [(0, 1, 0)] [(4, [(2, 13, 0), (0, 0, 0), (0, 1, 0), (0, 2, 1)], [], [(0, 0, 9), (1, (-2147483648), 2147483647), (2, 0, 29)], [], [], [])] (by decide +kernel) (ρ0 := (fun s => [x0, x1, x2].getD s 0)) hB eF trivial ⟨rfl, ⟨rfl, ⟨rfl, ⟨rfl, trivial⟩⟩⟩⟩ ⟨rfl, trivial⟩ ?_
  refine List.forall_mem_cons.mpr ⟨?_, fun _ h => absurd h List.not_mem_nil⟩
  · intro ρ τ Lc stc hx g1 g2 g3 g4 g5 g6 g7 g8
    have e0 : ρ 0 = x0 := hx 0 (by decide)
    have e1 : ρ 1 = x1 := hx 1 (by decide)
    have e2 : ρ 2 = x2 := hx 2 (by decide)
    subst e0
    subst e1
    subst e2
    have g7 := g7 (by decide)
    match Lc, stc, g7, g8 with
    | [v0, v1, v2, v3], [], ⟨hv0, hv1, hv2, hv3, _⟩, _ =>
      cases hv0
      cases hv1
      cases hv2
      cases hv3
      exact l0 τ ρ  g1 g2 g3 g4 g5 g6
set_option maxRecDepth 100000 in
theorem zo_b19 {σ : pm_S} {Q : Option Value → pm_S → Prop} (x0 x1 x2 x3 : Int)  (hB : an_GB pm_B σ) (eF : (0 ≤ x0 ∧ x0 ≤ 9) ∧ ((-2147483648) ≤ x1 ∧ x1 ≤ 2147483647) ∧ (0 ≤ x2 ∧ x2 ≤ 29) ∧ ((-2147483648) ≤ x3 ∧ x3 ≤ 2147483647) ∧ True) (eC : (σ.1 16 (x2).toNat).toInt = x3 ∧ True)
    (l0 : ∀ (τ : pm_S) (y : Nat → Int), an_GB pm_B τ → FQ [] σ τ → ((0 ≤ x0 ∧ x0 ≤ 9) ∧ ((-2147483648) ≤ x1 ∧ x1 ≤ 2147483647) ∧ (0 ≤ x2 ∧ x2 ≤ 29) ∧ ((-2147483648) ≤ x3 ∧ x3 ≤ 2147483647) ∧ ((-2147483648) ≤ y 4 ∧ y 4 ≤ 2147483647) ∧ True) → (True) → ((an_f 0 (Int32.ofInt (x1)) (Int32.ofInt (x3))).toInt = y 4 ∧ True) → ((τ.1 16 (x2).toNat).toInt = x3 ∧ True) → Ok 6 5 4 [.ref 13, .int (Int32.ofInt (x0)), .int (Int32.ofInt (y 4)), .int (Int32.ofInt (x2 + 1))] [] τ Q)
    : Ok 6 5 19 [.ref 13, .int (Int32.ofInt (x0)), .int (Int32.ofInt (x1)), .int (Int32.ofInt (x2))] [.int (Int32.ofInt (x1))] σ Q := by
  refine an_seg (B := pm_B) (F := []) (T := [16]) (S := []) (fun _ h => absurd h List.not_mem_nil) (k := 6) (d := 4) (cs := [4]) 11 19 4 [(0, 0, 9), (1, (-2147483648), 2147483647), (2, 0, 29), (3, (-2147483648), 2147483647)] [(16, (0, 2, 0), (0, 3, 0))] [(2, 13, 0), (0, 0, 0), (0, 1, 0), (0, 2, 0)] [(0, 1, 0)] [(4, [(2, 13, 0), (0, 0, 0), (0, 4, 0), (0, 2, 1)], [], [(0, 0, 9), (1, (-2147483648), 2147483647), (2, 0, 29), (3, (-2147483648), 2147483647), (4, (-2147483648), 2147483647)], [], [(0, (0, 1, 0), (0, 3, 0), 4)], [(16, (0, 2, 0), (0, 3, 0))])] (by decide +kernel) (ρ0 := (fun s => [x0, x1, x2, x3].getD s 0)) hB eF eC ⟨rfl, ⟨rfl, ⟨rfl, ⟨rfl, trivial⟩⟩⟩⟩ ⟨rfl, trivial⟩ ?_
  refine List.forall_mem_cons.mpr ⟨?_, fun _ h => absurd h List.not_mem_nil⟩
  · intro ρ τ Lc stc hx g1 g2 g3 g4 g5 g6 g7 g8
    have e0 : ρ 0 = x0 := hx 0 (by decide)
    have e1 : ρ 1 = x1 := hx 1 (by decide)
    have e2 : ρ 2 = x2 := hx 2 (by decide)
    have e3 : ρ 3 = x3 := hx 3 (by decide)
    subst e0
    subst e1
    subst e2
    subst e3
    have g7 := g7 (by decide)
    match Lc, stc, g7, g8 with
    | [v0, v1, v2, v3], [], ⟨hv0, hv1, hv2, hv3, _⟩, _ =>
      cases hv0
      cases hv1
      cases hv2
      cases hv3
      exact l0 τ ρ  g1 g2 g3 g4 g5 g6
set_option maxRecDepth 100000 in
theorem zo_b29 {σ : pm_S} {Q : Option Value → pm_S → Prop} (x0 x1 x2 : Int)  (hB : an_GB pm_B σ) (eF : (0 ≤ x0 ∧ x0 ≤ 9) ∧ ((-2147483648) ≤ x1 ∧ x1 ≤ 2147483647) ∧ (0 ≤ x2 ∧ x2 ≤ 30) ∧ True)
    (l0 : ∀ (τ : pm_S) (y : Nat → Int), an_GB pm_B τ → FQ [] σ τ → ((0 ≤ x0 ∧ x0 ≤ 9) ∧ ((-2147483648) ≤ x1 ∧ x1 ≤ 2147483647) ∧ (0 ≤ x2 ∧ x2 ≤ 30) ∧ True) → (True) → (True) → (True) → Q (some (.int (Int32.ofInt (x1)))) τ)
    : Ok 6 5 29 [.ref 13, .int (Int32.ofInt (x0)), .int (Int32.ofInt (x1)), .int (Int32.ofInt (x2))] [] σ Q := by
  refine an_seg (B := pm_B) (F := []) (T := []) (S := []) (fun _ h => absurd h List.not_mem_nil) (k := 6) (d := 4) (cs := []) 4 29 3 [(0, 0, 9), (1, (-2147483648), 2147483647), (2, 0, 30)] [] [(2, 13, 0), (0, 0, 0), (0, 1, 0), (0, 2, 0)] [] [(9999, [], [(0, 1, 0)], [(0, 0, 9), (1, (-2147483648), 2147483647), (2, 0, 30)], [], [], [])] (by decide +kernel) (ρ0 := (fun s => [x0, x1, x2].getD s 0)) hB eF trivial ⟨rfl, ⟨rfl, ⟨rfl, ⟨rfl, trivial⟩⟩⟩⟩ trivial ?_
  refine List.forall_mem_cons.mpr ⟨?_, fun _ h => absurd h List.not_mem_nil⟩
  · intro ρ τ Lc stc hx g1 g2 g3 g4 g5 g6 g7 g8
    have e0 : ρ 0 = x0 := hx 0 (by decide)
    have e1 : ρ 1 = x1 := hx 1 (by decide)
    have e2 : ρ 2 = x2 := hx 2 (by decide)
    subst e0
    subst e1
    subst e2
    match stc, g8 with
    | [_], ⟨h, _⟩ => cases h; exact l0 τ ρ g1 g2 g3 g4 g5 g6
set_option maxRecDepth 100000 in
theorem zo_t0 {σ : pm_S} {Q : Option Value → pm_S → Prop} (x0 : Int) (v2 : Value) (v3 : Value) (hv2 : v2.category = 1) (hv3 : v3.category = 1) (hB : an_GB pm_B σ) (eF : (0 ≤ x0 ∧ x0 ≤ 9) ∧ True)
    (l0 : ∀ (τ : pm_S) (y : Nat → Int), an_GB pm_B τ → FQ [] σ τ → ((0 ≤ x0 ∧ x0 ≤ 9) ∧ True) → (True) → (True) → (True) → Ok 7 5 4 [.ref 13, .int (Int32.ofInt (x0)), .int (Int32.ofInt 0), .int (Int32.ofInt 0)] [] τ Q)
    : Ok 7 5 0 [.ref 13, .int (Int32.ofInt (x0)), v2, v3] [] σ Q := by
  refine an_seg (B := pm_B) (F := []) (T := []) (S := []) (fun _ h => absurd h List.not_mem_nil) (k := 7) (d := 4) (cs := [4]) 6 0 1 [(0, 0, 9)] [] [(2, 13, 0), (0, 0, 0), (5, 0, 0), (5, 0, 0)] [] [(4, [(2, 13, 0), (0, 0, 0), (1, 0, 0), (1, 0, 0)], [], [(0, 0, 9)], [], [], [])] (by decide +kernel) (ρ0 := (fun s => [x0].getD s 0)) hB eF trivial ⟨rfl, ⟨rfl, ⟨hv2, ⟨hv3, trivial⟩⟩⟩⟩ trivial ?_
  refine List.forall_mem_cons.mpr ⟨?_, fun _ h => absurd h List.not_mem_nil⟩
  · intro ρ τ Lc stc hx g1 g2 g3 g4 g5 g6 g7 g8
    have e0 : ρ 0 = x0 := hx 0 (by decide)
    subst e0
    have g7 := g7 (by decide)
    match Lc, stc, g7, g8 with
    | [v0, v1, v2, v3], [], ⟨hv0, hv1, hv2, hv3, _⟩, _ =>
      cases hv0
      cases hv1
      cases hv2
      cases hv3
      exact l0 τ ρ  g1 g2 g3 g4 g5 g6
set_option maxRecDepth 100000 in
theorem zo_t4 {σ : pm_S} {Q : Option Value → pm_S → Prop} (x0 x1 x2 x3 : Int)  (hB : an_GB pm_B σ) (eF : (0 ≤ x0 ∧ x0 ≤ 9) ∧ ((-2147483648) ≤ x1 ∧ x1 ≤ 2147483647) ∧ (0 ≤ x2 ∧ x2 ≤ 30) ∧ (0 ≤ x3 ∧ x3 ≤ 30) ∧ True) (eC : (σ.1 13 0).toInt = x3 ∧ True)
    (l0 : ∀ (τ : pm_S) (y : Nat → Int), an_GB pm_B τ → FQ [] σ τ → ((0 ≤ x0 ∧ x0 ≤ 9) ∧ ((-2147483648) ≤ x1 ∧ x1 ≤ 2147483647) ∧ (0 ≤ x2 ∧ x2 ≤ 30) ∧ (0 ≤ x3 ∧ x3 ≤ 30) ∧ True) → (True) → (True) → ((τ.1 13 0).toInt = x3 ∧ True) → Ok 7 5 7 [.ref 13, .int (Int32.ofInt (x0)), .int (Int32.ofInt (x1)), .int (Int32.ofInt (x2))] [.int (Int32.ofInt (x3)), .int (Int32.ofInt (x2))] τ Q)
    : Ok 7 5 4 [.ref 13, .int (Int32.ofInt (x0)), .int (Int32.ofInt (x1)), .int (Int32.ofInt (x2))] [] σ Q := by
  refine an_seg (B := pm_B) (F := []) (T := []) (S := []) (fun _ h => absurd h List.not_mem_nil) (k := 7) (d := 4) (cs := [7]) 5 4 4 [(0, 0, 9), (1, (-2147483648), 2147483647), (2, 0, 30), (3, 0, 30)] [(13, (1, 0, 0), (0, 3, 0))] [(2, 13, 0), (0, 0, 0), (0, 1, 0), (0, 2, 0)] [] [(7, [(2, 13, 0), (0, 0, 0), (0, 1, 0), (0, 2, 0)], [(0, 3, 0), (0, 2, 0)], [(0, 0, 9), (1, (-2147483648), 2147483647), (2, 0, 30), (3, 0, 30)], [], [], [(13, (1, 0, 0), (0, 3, 0))])] (by decide +kernel) (ρ0 := (fun s => [x0, x1, x2, x3].getD s 0)) hB eF eC ⟨rfl, ⟨rfl, ⟨rfl, ⟨rfl, trivial⟩⟩⟩⟩ trivial ?_
  refine List.forall_mem_cons.mpr ⟨?_, fun _ h => absurd h List.not_mem_nil⟩
  · intro ρ τ Lc stc hx g1 g2 g3 g4 g5 g6 g7 g8
    have e0 : ρ 0 = x0 := hx 0 (by decide)
    have e1 : ρ 1 = x1 := hx 1 (by decide)
    have e2 : ρ 2 = x2 := hx 2 (by decide)
    have e3 : ρ 3 = x3 := hx 3 (by decide)
    subst e0
    subst e1
    subst e2
    subst e3
    have g7 := g7 (by decide)
    match Lc, stc, g7, g8 with
    | [v0, v1, v2, v3], [w0, w1], ⟨hv0, hv1, hv2, hv3, _⟩, ⟨hw0, hw1, _⟩ =>
      cases hv0
      cases hv1
      cases hv2
      cases hv3
      cases hw0
      cases hw1
      exact l0 τ ρ  g1 g2 g3 g4 g5 g6
set_option maxRecDepth 100000 in
theorem zo_t8 {σ : pm_S} {Q : Option Value → pm_S → Prop} (x0 x1 x2 : Int)  (hB : an_GB pm_B σ) (eF : (0 ≤ x0 ∧ x0 ≤ 9) ∧ ((-2147483648) ≤ x1 ∧ x1 ≤ 2147483647) ∧ (0 ≤ x2 ∧ x2 ≤ 29) ∧ True)
    (l0 : ∀ (τ : pm_S) (y : Nat → Int), an_GB pm_B τ → FQ [] σ τ → ((0 ≤ x0 ∧ x0 ≤ 9) ∧ ((-2147483648) ≤ x1 ∧ x1 ≤ 2147483647) ∧ (0 ≤ x2 ∧ x2 ≤ 29) ∧ True) → (True) → (True) → (True) → Ok 7 5 11 [.ref 13, .int (Int32.ofInt (x0)), .int (Int32.ofInt (x1)), .int (Int32.ofInt (x2))] [.int (Int32.ofInt (x2)), .ref 13, .int (Int32.ofInt (x1))] τ Q)
    : Ok 7 5 8 [.ref 13, .int (Int32.ofInt (x0)), .int (Int32.ofInt (x1)), .int (Int32.ofInt (x2))] [] σ Q := by
  refine an_seg (B := pm_B) (F := []) (T := []) (S := []) (fun _ h => absurd h List.not_mem_nil) (k := 7) (d := 4) (cs := [11]) 5 8 3 [(0, 0, 9), (1, (-2147483648), 2147483647), (2, 0, 29)] [] [(2, 13, 0), (0, 0, 0), (0, 1, 0), (0, 2, 0)] [] [(11, [(2, 13, 0), (0, 0, 0), (0, 1, 0), (0, 2, 0)], [(0, 2, 0), (2, 13, 0), (0, 1, 0)], [(0, 0, 9), (1, (-2147483648), 2147483647), (2, 0, 29)], [], [], [])] (by decide +kernel) (ρ0 := (fun s => [x0, x1, x2].getD s 0)) hB eF trivial ⟨rfl, ⟨rfl, ⟨rfl, ⟨rfl, trivial⟩⟩⟩⟩ trivial ?_
  refine List.forall_mem_cons.mpr ⟨?_, fun _ h => absurd h List.not_mem_nil⟩
  · intro ρ τ Lc stc hx g1 g2 g3 g4 g5 g6 g7 g8
    have e0 : ρ 0 = x0 := hx 0 (by decide)
    have e1 : ρ 1 = x1 := hx 1 (by decide)
    have e2 : ρ 2 = x2 := hx 2 (by decide)
    subst e0
    subst e1
    subst e2
    have g7 := g7 (by decide)
    match Lc, stc, g7, g8 with
    | [v0, v1, v2, v3], [w0, w1, w2], ⟨hv0, hv1, hv2, hv3, _⟩, ⟨hw0, hw1, hw2, _⟩ =>
      cases hv0
      cases hv1
      cases hv2
      cases hv3
      cases hw0
      cases hw1
      cases hw2
      exact l0 τ ρ  g1 g2 g3 g4 g5 g6
set_option maxRecDepth 100000 in
theorem zo_t12 {σ : pm_S} {Q : Option Value → pm_S → Prop} (x0 x1 x2 x3 x4 : Int)  (hB : an_GB pm_B σ) (eF : (0 ≤ x0 ∧ x0 ≤ 9) ∧ ((-2147483648) ≤ x1 ∧ x1 ≤ 2147483647) ∧ (0 ≤ x2 ∧ x2 ≤ 29) ∧ (0 ≤ x3 ∧ x3 ≤ 1) ∧ (0 ≤ x4 ∧ x4 ≤ 9) ∧ True) (eC : (σ.1 15 (x2).toNat).toInt = x4 ∧ True)
    (l0 : ∀ (τ : pm_S) (y : Nat → Int), an_GB pm_B τ → FQ [] σ τ → ((0 ≤ x0 ∧ x0 ≤ 9) ∧ ((-2147483648) ≤ x1 ∧ x1 ≤ 2147483647) ∧ (0 ≤ x2 ∧ x2 ≤ 29) ∧ (0 ≤ x3 ∧ x3 ≤ 0) ∧ (0 ≤ x4 ∧ x4 ≤ 9) ∧ True) → (True) → (True) → ((τ.1 15 (x2).toNat).toInt = x4 ∧ True) → Ok 7 5 4 [.ref 13, .int (Int32.ofInt (x0)), .int (Int32.ofInt (x1)), .int (Int32.ofInt (x2 + 1))] [] τ Q)
    (l1 : ∀ (τ : pm_S) (y : Nat → Int), an_GB pm_B τ → FQ [] σ τ → ((0 ≤ x0 ∧ x0 ≤ 9) ∧ ((-2147483648) ≤ x1 ∧ x1 ≤ 2147483647) ∧ (0 ≤ x2 ∧ x2 ≤ 29) ∧ (1 ≤ x3 ∧ x3 ≤ 1) ∧ (0 ≤ x4 ∧ x4 ≤ 9) ∧ True) → (True) → (True) → ((τ.1 15 (x2).toNat).toInt = x4 ∧ True) → Ok 7 5 18 [.ref 13, .int (Int32.ofInt (x0)), .int (Int32.ofInt (x1)), .int (Int32.ofInt (x2))] [.int (Int32.ofInt (x0)), .int (Int32.ofInt (x4)), .int (Int32.ofInt (x1))] τ Q)
    : Ok 7 5 12 [.ref 13, .int (Int32.ofInt (x0)), .int (Int32.ofInt (x1)), .int (Int32.ofInt (x2))] [.int (Int32.ofInt (x3)), .int (Int32.ofInt (x1))] σ Q := by
  refine an_seg (B := pm_B) (F := []) (T := [15]) (S := []) (fun _ h => absurd h List.not_mem_nil) (k := 7) (d := 4) (cs := [18, 4]) 8 12 5 [(0, 0, 9), (1, (-2147483648), 2147483647), (2, 0, 29), (3, 0, 1), (4, 0, 9)] [(15, (0, 2, 0), (0, 4, 0))] [(2, 13, 0), (0, 0, 0), (0, 1, 0), (0, 2, 0)] [(0, 3, 0), (0, 1, 0)] [(4, [(2, 13, 0), (0, 0, 0), (0, 1, 0), (0, 2, 1)], [], [(0, 0, 9), (1, (-2147483648), 2147483647), (2, 0, 29), (3, 0, 0), (4, 0, 9)], [], [], [(15, (0, 2, 0), (0, 4, 0))]),
    (18, [(2, 13, 0), (0, 0, 0), (0, 1, 0), (0, 2, 0)], [(0, 0, 0), (0, 4, 0), (0, 1, 0)], [(0, 0, 9), (1, (-2147483648), 2147483647), (2, 0, 29), (3, 1, 1), (4, 0, 9)], [], [], [(15, (0, 2, 0), (0, 4, 0))])] (by decide +kernel) (ρ0 := (fun s => [x0, x1, x2, x3, x4].getD s 0)) hB eF eC ⟨rfl, ⟨rfl, ⟨rfl, ⟨rfl, trivial⟩⟩⟩⟩ ⟨rfl, ⟨rfl, trivial⟩⟩ ?_
  refine List.forall_mem_cons.mpr ⟨?_, List.forall_mem_cons.mpr ⟨?_, fun _ h => absurd h List.not_mem_nil⟩⟩
  · intro ρ τ Lc stc hx g1 g2 g3 g4 g5 g6 g7 g8
    have e0 : ρ 0 = x0 := hx 0 (by decide)
    have e1 : ρ 1 = x1 := hx 1 (by decide)
    have e2 : ρ 2 = x2 := hx 2 (by decide)
    have e3 : ρ 3 = x3 := hx 3 (by decide)
    have e4 : ρ 4 = x4 := hx 4 (by decide)
    subst e0
    subst e1
    subst e2
    subst e3
    subst e4
    have g7 := g7 (by decide)
    match Lc, stc, g7, g8 with
    | [v0, v1, v2, v3], [], ⟨hv0, hv1, hv2, hv3, _⟩, _ =>
      cases hv0
      cases hv1
      cases hv2
      cases hv3
      exact l0 τ ρ  g1 g2 g3 g4 g5 g6
  · intro ρ τ Lc stc hx g1 g2 g3 g4 g5 g6 g7 g8
    have e0 : ρ 0 = x0 := hx 0 (by decide)
    have e1 : ρ 1 = x1 := hx 1 (by decide)
    have e2 : ρ 2 = x2 := hx 2 (by decide)
    have e3 : ρ 3 = x3 := hx 3 (by decide)
    have e4 : ρ 4 = x4 := hx 4 (by decide)
    subst e0
    subst e1
    subst e2
    subst e3
    subst e4
    have g7 := g7 (by decide)
    match Lc, stc, g7, g8 with
    | [v0, v1, v2, v3], [w0, w1, w2], ⟨hv0, hv1, hv2, hv3, _⟩, ⟨hw0, hw1, hw2, _⟩ =>
      cases hv0
      cases hv1
      cases hv2
      cases hv3
      cases hw0
      cases hw1
      cases hw2
      exact l1 τ ρ  g1 g2 g3 g4 g5 g6
set_option maxRecDepth 100000 in
theorem zo_t24 {σ : pm_S} {Q : Option Value → pm_S → Prop} (x0 x1 x2 : Int)  (hB : an_GB pm_B σ) (eF : (0 ≤ x0 ∧ x0 ≤ 9) ∧ ((-2147483648) ≤ x1 ∧ x1 ≤ 2147483647) ∧ (0 ≤ x2 ∧ x2 ≤ 29) ∧ True)
    (l0 : ∀ (τ : pm_S) (y : Nat → Int), an_GB pm_B τ → FQ [] σ τ → ((0 ≤ x0 ∧ x0 ≤ 9) ∧ ((-2147483648) ≤ x1 ∧ x1 ≤ 2147483647) ∧ (0 ≤ x2 ∧ x2 ≤ 29) ∧ True) → (True) → (True) → (True) → Ok 7 5 4 [.ref 13, .int (Int32.ofInt (x0)), .int (Int32.ofInt (x1)), .int (Int32.ofInt (x2 + 1))] [] τ Q)
    : Ok 7 5 24 [.ref 13, .int (Int32.ofInt (x0)), .int (Int32.ofInt (x1)), .int (Int32.ofInt (x2))] [.int (Int32.ofInt (x1))] σ Q := by
  refine an_seg (B := pm_B) (F := []) (T := []) (S := []) (fun _ h => absurd h List.not_mem_nil) (k := 7) (d := 4) (cs := [4]) 7 24 3 [(0, 0, 9), (1, (-2147483648), 2147483647), (2, 0, 29)] [] [(2, 13, 0), (0, 0, 0), (0, 1, 0), (0, 2, 0)] [(0, 1, 0)] [(4, [(2, 13, 0), (0, 0, 0), (0, 1, 0), (0, 2, 1)], [], [(0, 0, 9), (1, (-2147483648), 2147483647), (2, 0, 29)], [], [], [])] (by decide +kernel) (ρ0 := (fun s => [x0, x1, x2].getD s 0)) hB eF trivial ⟨rfl, ⟨rfl, ⟨rfl, ⟨rfl, trivial⟩⟩⟩⟩ ⟨rfl, trivial⟩ ?_
  refine List.forall_mem_cons.mpr ⟨?_, fun _ h => absurd h List.not_mem_nil⟩
  · intro ρ τ Lc stc hx g1 g2 g3 g4 g5 g6 g7 g8
    have e0 : ρ 0 = x0 := hx 0 (by decide)
    have e1 : ρ 1 = x1 := hx 1 (by decide)
    have e2 : ρ 2 = x2 := hx 2 (by decide)
    subst e0
    subst e1
    subst e2
    have g7 := g7 (by decide)
    match Lc, stc, g7, g8 with
    | [v0, v1, v2, v3], [], ⟨hv0, hv1, hv2, hv3, _⟩, _ =>
      cases hv0
      cases hv1
      cases hv2
      cases hv3
      exact l0 τ ρ  g1 g2 g3 g4 g5 g6
set_option maxRecDepth 100000 in
theorem zo_t19 {σ : pm_S} {Q : Option Value → pm_S → Prop} (x0 x1 x2 x3 : Int)  (hB : an_GB pm_B σ) (eF : (0 ≤ x0 ∧ x0 ≤ 9) ∧ ((-2147483648) ≤ x1 ∧ x1 ≤ 2147483647) ∧ (0 ≤ x2 ∧ x2 ≤ 29) ∧ ((-2147483648) ≤ x3 ∧ x3 ≤ 2147483647) ∧ True) (eC : (σ.1 16 (x2).toNat).toInt = x3 ∧ True)
    (l0 : ∀ (τ : pm_S) (y : Nat → Int), an_GB pm_B τ → FQ [] σ τ → ((0 ≤ x0 ∧ x0 ≤ 9) ∧ ((-2147483648) ≤ x1 ∧ x1 ≤ 2147483647) ∧ (0 ≤ x2 ∧ x2 ≤ 29) ∧ ((-2147483648) ≤ x3 ∧ x3 ≤ 2147483647) ∧ ((-2147483648) ≤ y 4 ∧ y 4 ≤ 2147483647) ∧ True) → (True) → ((an_f 0 (Int32.ofInt (x1)) (Int32.ofInt (x3))).toInt = y 4 ∧ True) → ((τ.1 16 (x2).toNat).toInt = x3 ∧ True) → Ok 7 5 4 [.ref 13, .int (Int32.ofInt (x0)), .int (Int32.ofInt (y 4)), .int (Int32.ofInt (x2 + 1))] [] τ Q)
    : Ok 7 5 19 [.ref 13, .int (Int32.ofInt (x0)), .int (Int32.ofInt (x1)), .int (Int32.ofInt (x2))] [.int (Int32.ofInt (x1))] σ Q := by
  refine an_seg (B := pm_B) (F := []) (T := [16]) (S := []) (fun _ h => absurd h List.not_mem_nil) (k := 7) (d := 4) (cs := [4]) 11 19 4 [(0, 0, 9), (1, (-2147483648), 2147483647), (2, 0, 29), (3, (-2147483648), 2147483647)] [(16, (0, 2, 0), (0, 3, 0))] [(2, 13, 0), (0, 0, 0), (0, 1, 0), (0, 2, 0)] [(0, 1, 0)] [(4, [(2, 13, 0), (0, 0, 0), (0, 4, 0), (0, 2, 1)], [], [(0, 0, 9), (1, (-2147483648), 2147483647), (2, 0, 29), (3, (-2147483648), 2147483647), (4, (-2147483648), 2147483647)], [], [(0, (0, 1, 0), (0, 3, 0), 4)], [(16, (0, 2, 0), (0, 3, 0))])] (by decide +kernel) (ρ0 := (fun s => [x0, x1, x2, x3].getD s 0)) hB eF eC ⟨rfl, ⟨rfl, ⟨rfl, ⟨rfl, trivial⟩⟩⟩⟩ ⟨rfl, trivial⟩ ?_
  refine List.forall_mem_cons.mpr ⟨?_, fun _ h => absurd h List.not_mem_nil⟩
  · intro ρ τ Lc stc hx g1 g2 g3 g4 g5 g6 g7 g8
    have e0 : ρ 0 = x0 := hx 0 (by decide)
    have e1 : ρ 1 = x1 := hx 1 (by decide)
    have e2 : ρ 2 = x2 := hx 2 (by decide)
    have e3 : ρ 3 = x3 := hx 3 (by decide)
    subst e0
    subst e1
    subst e2
    subst e3
    have g7 := g7 (by decide)
    match Lc, stc, g7, g8 with
    | [v0, v1, v2, v3], [], ⟨hv0, hv1, hv2, hv3, _⟩, _ =>
      cases hv0
      cases hv1
      cases hv2
      cases hv3
      exact l0 τ ρ  g1 g2 g3 g4 g5 g6
set_option maxRecDepth 100000 in
theorem zo_t29 {σ : pm_S} {Q : Option Value → pm_S → Prop} (x0 x1 x2 : Int)  (hB : an_GB pm_B σ) (eF : (0 ≤ x0 ∧ x0 ≤ 9) ∧ ((-2147483648) ≤ x1 ∧ x1 ≤ 2147483647) ∧ (0 ≤ x2 ∧ x2 ≤ 30) ∧ True)
    (l0 : ∀ (τ : pm_S) (y : Nat → Int), an_GB pm_B τ → FQ [] σ τ → ((0 ≤ x0 ∧ x0 ≤ 9) ∧ ((-2147483648) ≤ x1 ∧ x1 ≤ 2147483647) ∧ (0 ≤ x2 ∧ x2 ≤ 30) ∧ True) → (True) → (True) → (True) → Q (some (.int (Int32.ofInt (x1)))) τ)
    : Ok 7 5 29 [.ref 13, .int (Int32.ofInt (x0)), .int (Int32.ofInt (x1)), .int (Int32.ofInt (x2))] [] σ Q := by
  refine an_seg (B := pm_B) (F := []) (T := []) (S := []) (fun _ h => absurd h List.not_mem_nil) (k := 7) (d := 4) (cs := []) 4 29 3 [(0, 0, 9), (1, (-2147483648), 2147483647), (2, 0, 30)] [] [(2, 13, 0), (0, 0, 0), (0, 1, 0), (0, 2, 0)] [] [(9999, [], [(0, 1, 0)], [(0, 0, 9), (1, (-2147483648), 2147483647), (2, 0, 30)], [], [], [])] (by decide +kernel) (ρ0 := (fun s => [x0, x1, x2].getD s 0)) hB eF trivial ⟨rfl, ⟨rfl, ⟨rfl, ⟨rfl, trivial⟩⟩⟩⟩ trivial ?_
  refine List.forall_mem_cons.mpr ⟨?_, fun _ h => absurd h List.not_mem_nil⟩
  · intro ρ τ Lc stc hx g1 g2 g3 g4 g5 g6 g7 g8
    have e0 : ρ 0 = x0 := hx 0 (by decide)
    have e1 : ρ 1 = x1 := hx 1 (by decide)
    have e2 : ρ 2 = x2 := hx 2 (by decide)
    subst e0
    subst e1
    subst e2
    match stc, g8 with
    | [_], ⟨h, _⟩ => cases h; exact l0 τ ρ g1 g2 g3 g4 g5 g6
set_option maxRecDepth 100000 in
theorem zq_50 {σ : pm_S} {Q : Option Value → pm_S → Prop} (x0 : Int) (v3 : Value) (v4 : Value) (hv3 : v3.category = 1) (hv4 : v4.category = 1) (hB : an_GB pm_B σ) (eF : (0 ≤ x0 ∧ x0 ≤ 9) ∧ True)
    (l0 : ∀ (τ : pm_S) (y : Nat → Int), an_GB pm_B τ → FQ [] σ τ → ((0 ≤ x0 ∧ x0 ≤ 9) ∧ True) → (True) → (True) → (True) → Ok 213 5 4 [.ref 93, .int (Int32.ofInt (x0)), .int (Int32.ofInt 1), .int (Int32.ofInt 0), .int (Int32.ofInt 0)] [] τ Q)
    : Ok 213 5 0 [.ref 93, .int (Int32.ofInt (x0)), .int (Int32.ofInt 1), v3, v4] [] σ Q := by
  refine an_seg (B := pm_B) (F := []) (T := []) (S := []) (fun _ h => absurd h List.not_mem_nil) (k := 213) (d := 4) (cs := [4]) 6 0 1 [(0, 0, 9)] [] [(2, 93, 0), (0, 0, 0), (1, 0, 1), (5, 0, 0), (5, 0, 0)] [] [(4, [(2, 93, 0), (0, 0, 0), (1, 0, 1), (1, 0, 0), (1, 0, 0)], [], [(0, 0, 9)], [], [], [])] (by decide +kernel) (ρ0 := (fun s => [x0].getD s 0)) hB eF trivial ⟨rfl, ⟨rfl, ⟨rfl, ⟨hv3, ⟨hv4, trivial⟩⟩⟩⟩⟩ trivial ?_
  refine List.forall_mem_cons.mpr ⟨?_, fun _ h => absurd h List.not_mem_nil⟩
  · intro ρ τ Lc stc hx g1 g2 g3 g4 g5 g6 g7 g8
    have e0 : ρ 0 = x0 := hx 0 (by decide)
    subst e0
    have g7 := g7 (by decide)
    match Lc, stc, g7, g8 with
    | [v0, v1, v2, v3, v4], [], ⟨hv0, hv1, hv2, hv3, hv4, _⟩, _ =>
      cases hv0
      cases hv1
      cases hv2
      cases hv3
      cases hv4
      exact l0 τ ρ  g1 g2 g3 g4 g5 g6
set_option maxRecDepth 100000 in
theorem zq_54 {σ : pm_S} {Q : Option Value → pm_S → Prop} (x0 x1 x2 x3 : Int)  (hB : an_GB pm_B σ) (eF : (0 ≤ x0 ∧ x0 ≤ 9) ∧ ((-2147483648) ≤ x1 ∧ x1 ≤ 2147483647) ∧ (0 ≤ x2 ∧ x2 ≤ 30) ∧ (0 ≤ x3 ∧ x3 ≤ 30) ∧ True) (eC : (σ.1 93 11).toInt = x3 ∧ True)
    (l0 : ∀ (τ : pm_S) (y : Nat → Int), an_GB pm_B τ → FQ [] σ τ → ((0 ≤ x0 ∧ x0 ≤ 9) ∧ ((-2147483648) ≤ x1 ∧ x1 ≤ 2147483647) ∧ (0 ≤ x2 ∧ x2 ≤ 30) ∧ (0 ≤ x3 ∧ x3 ≤ 30) ∧ True) → (True) → (True) → ((τ.1 93 11).toInt = x3 ∧ True) → Ok 213 5 7 [.ref 93, .int (Int32.ofInt (x0)), .int (Int32.ofInt 1), .int (Int32.ofInt (x1)), .int (Int32.ofInt (x2))] [.int (Int32.ofInt (x3)), .int (Int32.ofInt (x2))] τ Q)
    : Ok 213 5 4 [.ref 93, .int (Int32.ofInt (x0)), .int (Int32.ofInt 1), .int (Int32.ofInt (x1)), .int (Int32.ofInt (x2))] [] σ Q := by
  refine an_seg (B := pm_B) (F := []) (T := []) (S := []) (fun _ h => absurd h List.not_mem_nil) (k := 213) (d := 4) (cs := [7]) 5 4 4 [(0, 0, 9), (1, (-2147483648), 2147483647), (2, 0, 30), (3, 0, 30)] [(93, (1, 0, 11), (0, 3, 0))] [(2, 93, 0), (0, 0, 0), (1, 0, 1), (0, 1, 0), (0, 2, 0)] [] [(7, [(2, 93, 0), (0, 0, 0), (1, 0, 1), (0, 1, 0), (0, 2, 0)], [(0, 3, 0), (0, 2, 0)], [(0, 0, 9), (1, (-2147483648), 2147483647), (2, 0, 30), (3, 0, 30)], [], [], [(93, (1, 0, 11), (0, 3, 0))])] (by decide +kernel) (ρ0 := (fun s => [x0, x1, x2, x3].getD s 0)) hB eF eC ⟨rfl, ⟨rfl, ⟨rfl, ⟨rfl, ⟨rfl, trivial⟩⟩⟩⟩⟩ trivial ?_
  refine List.forall_mem_cons.mpr ⟨?_, fun _ h => absurd h List.not_mem_nil⟩
  · intro ρ τ Lc stc hx g1 g2 g3 g4 g5 g6 g7 g8
    have e0 : ρ 0 = x0 := hx 0 (by decide)
    have e1 : ρ 1 = x1 := hx 1 (by decide)
    have e2 : ρ 2 = x2 := hx 2 (by decide)
    have e3 : ρ 3 = x3 := hx 3 (by decide)
    subst e0
    subst e1
    subst e2
    subst e3
    have g7 := g7 (by decide)
    match Lc, stc, g7, g8 with
    | [v0, v1, v2, v3, v4], [w0, w1], ⟨hv0, hv1, hv2, hv3, hv4, _⟩, ⟨hw0, hw1, _⟩ =>
      cases hv0
      cases hv1
      cases hv2
      cases hv3
      cases hv4
      cases hw0
      cases hw1
      exact l0 τ ρ  g1 g2 g3 g4 g5 g6
set_option maxRecDepth 100000 in
theorem zq_58 {σ : pm_S} {Q : Option Value → pm_S → Prop} (x0 x1 x2 x3 x4 : Int)  (hB : an_GB pm_B σ) (eF : (0 ≤ x0 ∧ x0 ≤ 9) ∧ ((-2147483648) ≤ x1 ∧ x1 ≤ 2147483647) ∧ (0 ≤ x2 ∧ x2 ≤ 29) ∧ ((-2147483648) ≤ x3 ∧ x3 ≤ 2147483647) ∧ (0 ≤ x4 ∧ x4 ≤ 9) ∧ True) (eC : (σ.1 107 (x2).toNat).toInt = x3 ∧ (σ.1 101 (x2).toNat).toInt = x4 ∧ True)
    (l0 : ∀ (τ : pm_S) (y : Nat → Int), an_GB pm_B τ → FQ [] σ τ → ((0 ≤ x0 ∧ x0 ≤ 9) ∧ ((-2147483648) ≤ x1 ∧ x1 ≤ 2147483647) ∧ (0 ≤ x2 ∧ x2 ≤ 29) ∧ ((-2147483648) ≤ x3 ∧ x3 ≤ 2147483647) ∧ (0 ≤ x4 ∧ x4 ≤ 9) ∧ True) → (x3 ≠ 0 ∧ True) → (True) → ((τ.1 101 (x2).toNat).toInt = x4 ∧ (τ.1 107 (x2).toNat).toInt = x3 ∧ True) → Ok 213 5 32 [.ref 93, .int (Int32.ofInt (x0)), .int (Int32.ofInt 1), .int (Int32.ofInt (x1)), .int (Int32.ofInt (x2))] [] τ Q)
    (l1 : ∀ (τ : pm_S) (y : Nat → Int), an_GB pm_B τ → FQ [] σ τ → ((0 ≤ x0 ∧ x0 ≤ 9) ∧ ((-2147483648) ≤ x1 ∧ x1 ≤ 2147483647) ∧ (0 ≤ x2 ∧ x2 ≤ 29) ∧ (0 ≤ x3 ∧ x3 ≤ 0) ∧ (0 ≤ x4 ∧ x4 ≤ 9) ∧ True) → (True) → (True) → ((τ.1 101 (x2).toNat).toInt = x4 ∧ (τ.1 107 (x2).toNat).toInt = x3 ∧ True) → Ok 213 5 24 [.ref 93, .int (Int32.ofInt (x0)), .int (Int32.ofInt 1), .int (Int32.ofInt (x1)), .int (Int32.ofInt (x2))] [.int (Int32.ofInt (x0)), .int (Int32.ofInt (x4))] τ Q)
    : Ok 213 5 8 [.ref 93, .int (Int32.ofInt (x0)), .int (Int32.ofInt 1), .int (Int32.ofInt (x1)), .int (Int32.ofInt (x2))] [] σ Q := by
  refine an_seg (B := pm_B) (F := []) (T := [107, 101]) (S := []) (fun _ h => absurd h List.not_mem_nil) (k := 213) (d := 4) (cs := [24, 32]) 22 8 5 [(0, 0, 9), (1, (-2147483648), 2147483647), (2, 0, 29), (3, (-2147483648), 2147483647), (4, 0, 9)] [(107, (0, 2, 0), (0, 3, 0)), (101, (0, 2, 0), (0, 4, 0))] [(2, 93, 0), (0, 0, 0), (1, 0, 1), (0, 1, 0), (0, 2, 0)] [] [(32, [(2, 93, 0), (0, 0, 0), (1, 0, 1), (0, 1, 0), (0, 2, 0)], [], [(0, 0, 9), (1, (-2147483648), 2147483647), (2, 0, 29), (3, (-2147483648), 2147483647), (4, 0, 9)], [(3, 3, 3, 0)], [], [(101, (0, 2, 0), (0, 4, 0)), (107, (0, 2, 0), (0, 3, 0))]),
    (24, [(2, 93, 0), (0, 0, 0), (1, 0, 1), (0, 1, 0), (0, 2, 0)], [(0, 0, 0), (0, 4, 0)], [(0, 0, 9), (1, (-2147483648), 2147483647), (2, 0, 29), (3, 0, 0), (4, 0, 9)], [], [], [(101, (0, 2, 0), (0, 4, 0)), (107, (0, 2, 0), (0, 3, 0))])] (by decide +kernel) (ρ0 := (fun s => [x0, x1, x2, x3, x4].getD s 0)) hB eF eC ⟨rfl, ⟨rfl, ⟨rfl, ⟨rfl, ⟨rfl, trivial⟩⟩⟩⟩⟩ trivial ?_
  refine List.forall_mem_cons.mpr ⟨?_, List.forall_mem_cons.mpr ⟨?_, fun _ h => absurd h List.not_mem_nil⟩⟩
  · intro ρ τ Lc stc hx g1 g2 g3 g4 g5 g6 g7 g8
    have e0 : ρ 0 = x0 := hx 0 (by decide)
    have e1 : ρ 1 = x1 := hx 1 (by decide)
    have e2 : ρ 2 = x2 := hx 2 (by decide)
    have e3 : ρ 3 = x3 := hx 3 (by decide)
    have e4 : ρ 4 = x4 := hx 4 (by decide)
    subst e0
    subst e1
    subst e2
    subst e3
    subst e4
    have g7 := g7 (by decide)
    match Lc, stc, g7, g8 with
    | [v0, v1, v2, v3, v4], [], ⟨hv0, hv1, hv2, hv3, hv4, _⟩, _ =>
      cases hv0
      cases hv1
      cases hv2
      cases hv3
      cases hv4
      exact l0 τ ρ  g1 g2 g3 g4 g5 g6
  · intro ρ τ Lc stc hx g1 g2 g3 g4 g5 g6 g7 g8
    have e0 : ρ 0 = x0 := hx 0 (by decide)
    have e1 : ρ 1 = x1 := hx 1 (by decide)
    have e2 : ρ 2 = x2 := hx 2 (by decide)
    have e3 : ρ 3 = x3 := hx 3 (by decide)
    have e4 : ρ 4 = x4 := hx 4 (by decide)
    subst e0
    subst e1
    subst e2
    subst e3
    subst e4
    have g7 := g7 (by decide)
    match Lc, stc, g7, g8 with
    | [v0, v1, v2, v3, v4], [w0, w1], ⟨hv0, hv1, hv2, hv3, hv4, _⟩, ⟨hw0, hw1, _⟩ =>
      cases hv0
      cases hv1
      cases hv2
      cases hv3
      cases hv4
      cases hw0
      cases hw1
      exact l1 τ ρ  g1 g2 g3 g4 g5 g6
set_option maxRecDepth 100000 in
theorem zq_525 {σ : pm_S} {Q : Option Value → pm_S → Prop} (x0 x1 x2 x3 : Int)  (hB : an_GB pm_B σ) (eF : (0 ≤ x0 ∧ x0 ≤ 9) ∧ ((-2147483648) ≤ x1 ∧ x1 ≤ 2147483647) ∧ (0 ≤ x2 ∧ x2 ≤ 29) ∧ ((-2147483648) ≤ x3 ∧ x3 ≤ 2147483647) ∧ True) (eC : (σ.1 103 (x2).toNat).toInt = x3 ∧ True)
    (l0 : ∀ (τ : pm_S) (y : Nat → Int), an_GB pm_B τ → FQ [] σ τ → ((0 ≤ x0 ∧ x0 ≤ 9) ∧ ((-2147483648) ≤ x1 ∧ x1 ≤ 2147483647) ∧ (0 ≤ x2 ∧ x2 ≤ 29) ∧ ((-2147483648) ≤ x3 ∧ x3 ≤ 2147483647) ∧ ((-2147483648) ≤ y 4 ∧ y 4 ≤ 2147483647) ∧ True) → (True) → ((an_f 0 (Int32.ofInt (x1)) (Int32.ofInt (x3))).toInt = y 4 ∧ True) → ((τ.1 103 (x2).toNat).toInt = x3 ∧ True) → Ok 213 5 4 [.ref 93, .int (Int32.ofInt (x0)), .int (Int32.ofInt 1), .int (Int32.ofInt (y 4)), .int (Int32.ofInt (x2 + 1))] [] τ Q)
    : Ok 213 5 25 [.ref 93, .int (Int32.ofInt (x0)), .int (Int32.ofInt 1), .int (Int32.ofInt (x1)), .int (Int32.ofInt (x2))] [] σ Q := by
  refine an_seg (B := pm_B) (F := []) (T := [103]) (S := []) (fun _ h => absurd h List.not_mem_nil) (k := 213) (d := 4) (cs := [4]) 11 25 4 [(0, 0, 9), (1, (-2147483648), 2147483647), (2, 0, 29), (3, (-2147483648), 2147483647)] [(103, (0, 2, 0), (0, 3, 0))] [(2, 93, 0), (0, 0, 0), (1, 0, 1), (0, 1, 0), (0, 2, 0)] [] [(4, [(2, 93, 0), (0, 0, 0), (1, 0, 1), (0, 4, 0), (0, 2, 1)], [], [(0, 0, 9), (1, (-2147483648), 2147483647), (2, 0, 29), (3, (-2147483648), 2147483647), (4, (-2147483648), 2147483647)], [], [(0, (0, 1, 0), (0, 3, 0), 4)], [(103, (0, 2, 0), (0, 3, 0))])] (by decide +kernel) (ρ0 := (fun s => [x0, x1, x2, x3].getD s 0)) hB eF eC ⟨rfl, ⟨rfl, ⟨rfl, ⟨rfl, ⟨rfl, trivial⟩⟩⟩⟩⟩ trivial ?_
  refine List.forall_mem_cons.mpr ⟨?_, fun _ h => absurd h List.not_mem_nil⟩
  · intro ρ τ Lc stc hx g1 g2 g3 g4 g5 g6 g7 g8
    have e0 : ρ 0 = x0 := hx 0 (by decide)
    have e1 : ρ 1 = x1 := hx 1 (by decide)
    have e2 : ρ 2 = x2 := hx 2 (by decide)
    have e3 : ρ 3 = x3 := hx 3 (by decide)
    subst e0
    subst e1
    subst e2
    subst e3
    have g7 := g7 (by decide)
    match Lc, stc, g7, g8 with
    | [v0, v1, v2, v3, v4], [], ⟨hv0, hv1, hv2, hv3, hv4, _⟩, _ =>
      cases hv0
      cases hv1
      cases hv2
      cases hv3
      cases hv4
      exact l0 τ ρ  g1 g2 g3 g4 g5 g6
set_option maxRecDepth 100000 in
theorem zq_532 {σ : pm_S} {Q : Option Value → pm_S → Prop} (x0 x1 x2 : Int)  (hB : an_GB pm_B σ) (eF : (0 ≤ x0 ∧ x0 ≤ 9) ∧ ((-2147483648) ≤ x1 ∧ x1 ≤ 2147483647) ∧ (0 ≤ x2 ∧ x2 ≤ 29) ∧ True)
    (l0 : ∀ (τ : pm_S) (y : Nat → Int), an_GB pm_B τ → FQ [] σ τ → ((0 ≤ x0 ∧ x0 ≤ 9) ∧ ((-2147483648) ≤ x1 ∧ x1 ≤ 2147483647) ∧ (0 ≤ x2 ∧ x2 ≤ 29) ∧ True) → (True) → (True) → (True) → Ok 213 5 4 [.ref 93, .int (Int32.ofInt (x0)), .int (Int32.ofInt 1), .int (Int32.ofInt (x1)), .int (Int32.ofInt (x2 + 1))] [] τ Q)
    : Ok 213 5 32 [.ref 93, .int (Int32.ofInt (x0)), .int (Int32.ofInt 1), .int (Int32.ofInt (x1)), .int (Int32.ofInt (x2))] [] σ Q := by
  refine an_seg (B := pm_B) (F := []) (T := []) (S := []) (fun _ h => absurd h List.not_mem_nil) (k := 213) (d := 4) (cs := [4]) 4 32 3 [(0, 0, 9), (1, (-2147483648), 2147483647), (2, 0, 29)] [] [(2, 93, 0), (0, 0, 0), (1, 0, 1), (0, 1, 0), (0, 2, 0)] [] [(4, [(2, 93, 0), (0, 0, 0), (1, 0, 1), (0, 1, 0), (0, 2, 1)], [], [(0, 0, 9), (1, (-2147483648), 2147483647), (2, 0, 29)], [], [], [])] (by decide +kernel) (ρ0 := (fun s => [x0, x1, x2].getD s 0)) hB eF trivial ⟨rfl, ⟨rfl, ⟨rfl, ⟨rfl, ⟨rfl, trivial⟩⟩⟩⟩⟩ trivial ?_
  refine List.forall_mem_cons.mpr ⟨?_, fun _ h => absurd h List.not_mem_nil⟩
  · intro ρ τ Lc stc hx g1 g2 g3 g4 g5 g6 g7 g8
    have e0 : ρ 0 = x0 := hx 0 (by decide)
    have e1 : ρ 1 = x1 := hx 1 (by decide)
    have e2 : ρ 2 = x2 := hx 2 (by decide)
    subst e0
    subst e1
    subst e2
    have g7 := g7 (by decide)
    match Lc, stc, g7, g8 with
    | [v0, v1, v2, v3, v4], [], ⟨hv0, hv1, hv2, hv3, hv4, _⟩, _ =>
      cases hv0
      cases hv1
      cases hv2
      cases hv3
      cases hv4
      exact l0 τ ρ  g1 g2 g3 g4 g5 g6
set_option maxRecDepth 100000 in
theorem zq_534 {σ : pm_S} {Q : Option Value → pm_S → Prop} (x0 x1 x2 : Int)  (hB : an_GB pm_B σ) (eF : (0 ≤ x0 ∧ x0 ≤ 9) ∧ ((-2147483648) ≤ x1 ∧ x1 ≤ 2147483647) ∧ (0 ≤ x2 ∧ x2 ≤ 30) ∧ True)
    (l0 : ∀ (τ : pm_S) (y : Nat → Int), an_GB pm_B τ → FQ [] σ τ → ((0 ≤ x0 ∧ x0 ≤ 9) ∧ ((-2147483648) ≤ x1 ∧ x1 ≤ 2147483647) ∧ (0 ≤ x2 ∧ x2 ≤ 30) ∧ True) → (True) → (True) → (True) → Q (some (.int (Int32.ofInt (x1)))) τ)
    : Ok 213 5 34 [.ref 93, .int (Int32.ofInt (x0)), .int (Int32.ofInt 1), .int (Int32.ofInt (x1)), .int (Int32.ofInt (x2))] [] σ Q := by
  refine an_seg (B := pm_B) (F := []) (T := []) (S := []) (fun _ h => absurd h List.not_mem_nil) (k := 213) (d := 4) (cs := []) 4 34 3 [(0, 0, 9), (1, (-2147483648), 2147483647), (2, 0, 30)] [] [(2, 93, 0), (0, 0, 0), (1, 0, 1), (0, 1, 0), (0, 2, 0)] [] [(9999, [], [(0, 1, 0)], [(0, 0, 9), (1, (-2147483648), 2147483647), (2, 0, 30)], [], [], [])] (by decide +kernel) (ρ0 := (fun s => [x0, x1, x2].getD s 0)) hB eF trivial ⟨rfl, ⟨rfl, ⟨rfl, ⟨rfl, ⟨rfl, trivial⟩⟩⟩⟩⟩ trivial ?_
  refine List.forall_mem_cons.mpr ⟨?_, fun _ h => absurd h List.not_mem_nil⟩
  · intro ρ τ Lc stc hx g1 g2 g3 g4 g5 g6 g7 g8
    have e0 : ρ 0 = x0 := hx 0 (by decide)
    have e1 : ρ 1 = x1 := hx 1 (by decide)
    have e2 : ρ 2 = x2 := hx 2 (by decide)
    subst e0
    subst e1
    subst e2
    match stc, g8 with
    | [_], ⟨h, _⟩ => cases h; exact l0 τ ρ g1 g2 g3 g4 g5 g6
set_option maxRecDepth 100000 in
theorem zq_60 {σ : pm_S} {Q : Option Value → pm_S → Prop} (x0 : Int) (v3 : Value) (v4 : Value) (hv3 : v3.category = 1) (hv4 : v4.category = 1) (hB : an_GB pm_B σ) (eF : (0 ≤ x0 ∧ x0 ≤ 9) ∧ True)
    (l0 : ∀ (τ : pm_S) (y : Nat → Int), an_GB pm_B τ → FQ [] σ τ → ((0 ≤ x0 ∧ x0 ≤ 9) ∧ True) → (True) → (True) → (True) → Ok 213 5 4 [.ref 93, .int (Int32.ofInt (x0)), .int (Int32.ofInt 0), .int (Int32.ofInt 0), .int (Int32.ofInt 0)] [] τ Q)
    : Ok 213 5 0 [.ref 93, .int (Int32.ofInt (x0)), .int (Int32.ofInt 0), v3, v4] [] σ Q := by
  refine an_seg (B := pm_B) (F := []) (T := []) (S := []) (fun _ h => absurd h List.not_mem_nil) (k := 213) (d := 4) (cs := [4]) 6 0 1 [(0, 0, 9)] [] [(2, 93, 0), (0, 0, 0), (1, 0, 0), (5, 0, 0), (5, 0, 0)] [] [(4, [(2, 93, 0), (0, 0, 0), (1, 0, 0), (1, 0, 0), (1, 0, 0)], [], [(0, 0, 9)], [], [], [])] (by decide +kernel) (ρ0 := (fun s => [x0].getD s 0)) hB eF trivial ⟨rfl, ⟨rfl, ⟨rfl, ⟨hv3, ⟨hv4, trivial⟩⟩⟩⟩⟩ trivial ?_
  refine List.forall_mem_cons.mpr ⟨?_, fun _ h => absurd h List.not_mem_nil⟩
  · intro ρ τ Lc stc hx g1 g2 g3 g4 g5 g6 g7 g8
    have e0 : ρ 0 = x0 := hx 0 (by decide)
    subst e0
    have g7 := g7 (by decide)
    match Lc, stc, g7, g8 with
    | [v0, v1, v2, v3, v4], [], ⟨hv0, hv1, hv2, hv3, hv4, _⟩, _ =>
      cases hv0
      cases hv1
      cases hv2
      cases hv3
      cases hv4
      exact l0 τ ρ  g1 g2 g3 g4 g5 g6
set_option maxRecDepth 100000 in
theorem zq_64 {σ : pm_S} {Q : Option Value → pm_S → Prop} (x0 x1 x2 x3 : Int)  (hB : an_GB pm_B σ) (eF : (0 ≤ x0 ∧ x0 ≤ 9) ∧ ((-2147483648) ≤ x1 ∧ x1 ≤ 2147483647) ∧ (0 ≤ x2 ∧ x2 ≤ 30) ∧ (0 ≤ x3 ∧ x3 ≤ 30) ∧ True) (eC : (σ.1 93 11).toInt = x3 ∧ True)
    (l0 : ∀ (τ : pm_S) (y : Nat → Int), an_GB pm_B τ → FQ [] σ τ → ((0 ≤ x0 ∧ x0 ≤ 9) ∧ ((-2147483648) ≤ x1 ∧ x1 ≤ 2147483647) ∧ (0 ≤ x2 ∧ x2 ≤ 30) ∧ (0 ≤ x3 ∧ x3 ≤ 30) ∧ True) → (True) → (True) → ((τ.1 93 11).toInt = x3 ∧ True) → Ok 213 5 7 [.ref 93, .int (Int32.ofInt (x0)), .int (Int32.ofInt 0), .int (Int32.ofInt (x1)), .int (Int32.ofInt (x2))] [.int (Int32.ofInt (x3)), .int (Int32.ofInt (x2))] τ Q)
    : Ok 213 5 4 [.ref 93, .int (Int32.ofInt (x0)), .int (Int32.ofInt 0), .int (Int32.ofInt (x1)), .int (Int32.ofInt (x2))] [] σ Q := by
  refine an_seg (B := pm_B) (F := []) (T := []) (S := []) (fun _ h => absurd h List.not_mem_nil) (k := 213) (d := 4) (cs := [7]) 5 4 4 [(0, 0, 9), (1, (-2147483648), 2147483647), (2, 0, 30), (3, 0, 30)] [(93, (1, 0, 11), (0, 3, 0))] [(2, 93, 0), (0, 0, 0), (1, 0, 0), (0, 1, 0), (0, 2, 0)] [] [(7, [(2, 93, 0), (0, 0, 0), (1, 0, 0), (0, 1, 0), (0, 2, 0)], [(0, 3, 0), (0, 2, 0)], [(0, 0, 9), (1, (-2147483648), 2147483647), (2, 0, 30), (3, 0, 30)], [], [], [(93, (1, 0, 11), (0, 3, 0))])] (by decide +kernel) (ρ0 := (fun s => [x0, x1, x2, x3].getD s 0)) hB eF eC ⟨rfl, ⟨rfl, ⟨rfl, ⟨rfl, ⟨rfl, trivial⟩⟩⟩⟩⟩ trivial ?_
  refine List.forall_mem_cons.mpr ⟨?_, fun _ h => absurd h List.not_mem_nil⟩
  · intro ρ τ Lc stc hx g1 g2 g3 g4 g5 g6 g7 g8
    have e0 : ρ 0 = x0 := hx 0 (by decide)
    have e1 : ρ 1 = x1 := hx 1 (by decide)
    have e2 : ρ 2 = x2 := hx 2 (by decide)
    have e3 : ρ 3 = x3 := hx 3 (by decide)
    subst e0
    subst e1
    subst e2
    subst e3
    have g7 := g7 (by decide)
    match Lc, stc, g7, g8 with
    | [v0, v1, v2, v3, v4], [w0, w1], ⟨hv0, hv1, hv2, hv3, hv4, _⟩, ⟨hw0, hw1, _⟩ =>
      cases hv0
      cases hv1
      cases hv2
      cases hv3
      cases hv4
      cases hw0
      cases hw1
      exact l0 τ ρ  g1 g2 g3 g4 g5 g6
set_option maxRecDepth 100000 in
theorem zq_68 {σ : pm_S} {Q : Option Value → pm_S → Prop} (x0 x1 x2 x3 x4 : Int)  (hB : an_GB pm_B σ) (eF : (0 ≤ x0 ∧ x0 ≤ 9) ∧ ((-2147483648) ≤ x1 ∧ x1 ≤ 2147483647) ∧ (0 ≤ x2 ∧ x2 ≤ 29) ∧ ((-2147483648) ≤ x3 ∧ x3 ≤ 2147483647) ∧ (0 ≤ x4 ∧ x4 ≤ 9) ∧ True) (eC : (σ.1 107 (x2).toNat).toInt = x3 ∧ (σ.1 102 (x2).toNat).toInt = x4 ∧ True)
    (l0 : ∀ (τ : pm_S) (y : Nat → Int), an_GB pm_B τ → FQ [] σ τ → ((0 ≤ x0 ∧ x0 ≤ 9) ∧ ((-2147483648) ≤ x1 ∧ x1 ≤ 2147483647) ∧ (0 ≤ x2 ∧ x2 ≤ 29) ∧ ((-2147483648) ≤ x3 ∧ x3 ≤ 2147483647) ∧ (0 ≤ x4 ∧ x4 ≤ 9) ∧ True) → (x3 ≠ 0 ∧ True) → (True) → ((τ.1 102 (x2).toNat).toInt = x4 ∧ (τ.1 107 (x2).toNat).toInt = x3 ∧ True) → Ok 213 5 32 [.ref 93, .int (Int32.ofInt (x0)), .int (Int32.ofInt 0), .int (Int32.ofInt (x1)), .int (Int32.ofInt (x2))] [] τ Q)
    (l1 : ∀ (τ : pm_S) (y : Nat → Int), an_GB pm_B τ → FQ [] σ τ → ((0 ≤ x0 ∧ x0 ≤ 9) ∧ ((-2147483648) ≤ x1 ∧ x1 ≤ 2147483647) ∧ (0 ≤ x2 ∧ x2 ≤ 29) ∧ (0 ≤ x3 ∧ x3 ≤ 0) ∧ (0 ≤ x4 ∧ x4 ≤ 9) ∧ True) → (True) → (True) → ((τ.1 102 (x2).toNat).toInt = x4 ∧ (τ.1 107 (x2).toNat).toInt = x3 ∧ True) → Ok 213 5 24 [.ref 93, .int (Int32.ofInt (x0)), .int (Int32.ofInt 0), .int (Int32.ofInt (x1)), .int (Int32.ofInt (x2))] [.int (Int32.ofInt (x0)), .int (Int32.ofInt (x4))] τ Q)
    : Ok 213 5 8 [.ref 93, .int (Int32.ofInt (x0)), .int (Int32.ofInt 0), .int (Int32.ofInt (x1)), .int (Int32.ofInt (x2))] [] σ Q := by
  refine an_seg (B := pm_B) (F := []) (T := [107, 102]) (S := []) (fun _ h => absurd h List.not_mem_nil) (k := 213) (d := 4) (cs := [24, 32]) 21 8 5 [(0, 0, 9), (1, (-2147483648), 2147483647), (2, 0, 29), (3, (-2147483648), 2147483647), (4, 0, 9)] [(107, (0, 2, 0), (0, 3, 0)), (102, (0, 2, 0), (0, 4, 0))] [(2, 93, 0), (0, 0, 0), (1, 0, 0), (0, 1, 0), (0, 2, 0)] [] [(32, [(2, 93, 0), (0, 0, 0), (1, 0, 0), (0, 1, 0), (0, 2, 0)], [], [(0, 0, 9), (1, (-2147483648), 2147483647), (2, 0, 29), (3, (-2147483648), 2147483647), (4, 0, 9)], [(3, 3, 3, 0)], [], [(102, (0, 2, 0), (0, 4, 0)), (107, (0, 2, 0), (0, 3, 0))]),
    (24, [(2, 93, 0), (0, 0, 0), (1, 0, 0), (0, 1, 0), (0, 2, 0)], [(0, 0, 0), (0, 4, 0)], [(0, 0, 9), (1, (-2147483648), 2147483647), (2, 0, 29), (3, 0, 0), (4, 0, 9)], [], [], [(102, (0, 2, 0), (0, 4, 0)), (107, (0, 2, 0), (0, 3, 0))])] (by decide +kernel) (ρ0 := (fun s => [x0, x1, x2, x3, x4].getD s 0)) hB eF eC ⟨rfl, ⟨rfl, ⟨rfl, ⟨rfl, ⟨rfl, trivial⟩⟩⟩⟩⟩ trivial ?_
  refine List.forall_mem_cons.mpr ⟨?_, List.forall_mem_cons.mpr ⟨?_, fun _ h => absurd h List.not_mem_nil⟩⟩
  · intro ρ τ Lc stc hx g1 g2 g3 g4 g5 g6 g7 g8
    have e0 : ρ 0 = x0 := hx 0 (by decide)
    have e1 : ρ 1 = x1 := hx 1 (by decide)
    have e2 : ρ 2 = x2 := hx 2 (by decide)
    have e3 : ρ 3 = x3 := hx 3 (by decide)
    have e4 : ρ 4 = x4 := hx 4 (by decide)
    subst e0
    subst e1
    subst e2
    subst e3
    subst e4
    have g7 := g7 (by decide)
    match Lc, stc, g7, g8 with
    | [v0, v1, v2, v3, v4], [], ⟨hv0, hv1, hv2, hv3, hv4, _⟩, _ =>
      cases hv0
      cases hv1
      cases hv2
      cases hv3
      cases hv4
      exact l0 τ ρ  g1 g2 g3 g4 g5 g6
  · intro ρ τ Lc stc hx g1 g2 g3 g4 g5 g6 g7 g8
    have e0 : ρ 0 = x0 := hx 0 (by decide)
    have e1 : ρ 1 = x1 := hx 1 (by decide)
    have e2 : ρ 2 = x2 := hx 2 (by decide)
    have e3 : ρ 3 = x3 := hx 3 (by decide)
    have e4 : ρ 4 = x4 := hx 4 (by decide)
    subst e0
    subst e1
    subst e2
    subst e3
    subst e4
    have g7 := g7 (by decide)
    match Lc, stc, g7, g8 with
    | [v0, v1, v2, v3, v4], [w0, w1], ⟨hv0, hv1, hv2, hv3, hv4, _⟩, ⟨hw0, hw1, _⟩ =>
      cases hv0
      cases hv1
      cases hv2
      cases hv3
      cases hv4
      cases hw0
      cases hw1
      exact l1 τ ρ  g1 g2 g3 g4 g5 g6
set_option maxRecDepth 100000 in
theorem zq_625 {σ : pm_S} {Q : Option Value → pm_S → Prop} (x0 x1 x2 x3 : Int)  (hB : an_GB pm_B σ) (eF : (0 ≤ x0 ∧ x0 ≤ 9) ∧ ((-2147483648) ≤ x1 ∧ x1 ≤ 2147483647) ∧ (0 ≤ x2 ∧ x2 ≤ 29) ∧ ((-2147483648) ≤ x3 ∧ x3 ≤ 2147483647) ∧ True) (eC : (σ.1 103 (x2).toNat).toInt = x3 ∧ True)
    (l0 : ∀ (τ : pm_S) (y : Nat → Int), an_GB pm_B τ → FQ [] σ τ → ((0 ≤ x0 ∧ x0 ≤ 9) ∧ ((-2147483648) ≤ x1 ∧ x1 ≤ 2147483647) ∧ (0 ≤ x2 ∧ x2 ≤ 29) ∧ ((-2147483648) ≤ x3 ∧ x3 ≤ 2147483647) ∧ ((-2147483648) ≤ y 4 ∧ y 4 ≤ 2147483647) ∧ True) → (True) → ((an_f 0 (Int32.ofInt (x1)) (Int32.ofInt (x3))).toInt = y 4 ∧ True) → ((τ.1 103 (x2).toNat).toInt = x3 ∧ True) → Ok 213 5 4 [.ref 93, .int (Int32.ofInt (x0)), .int (Int32.ofInt 0), .int (Int32.ofInt (y 4)), .int (Int32.ofInt (x2 + 1))] [] τ Q)
    : Ok 213 5 25 [.ref 93, .int (Int32.ofInt (x0)), .int (Int32.ofInt 0), .int (Int32.ofInt (x1)), .int (Int32.ofInt (x2))] [] σ Q := by
  refine an_seg (B := pm_B) (F := []) (T := [103]) (S := []) (fun _ h => absurd h List.not_mem_nil) (k := 213) (d := 4) (cs := [4]) 11 25 4 [(0, 0, 9), (1, (-2147483648), 2147483647), (2, 0, 29), (3, (-2147483648), 2147483647)] [(103, (0, 2, 0), (0, 3, 0))] [(2, 93, 0), (0, 0, 0), (1, 0, 0), (0, 1, 0), (0, 2, 0)] [] [(4, [(2, 93, 0), (0, 0, 0), (1, 0, 0), (0, 4, 0), (0, 2, 1)], [], [(0, 0, 9), (1, (-2147483648), 2147483647), (2, 0, 29), (3, (-2147483648), 2147483647), (4, (-2147483648), 2147483647)], [], [(0, (0, 1, 0), (0, 3, 0), 4)], [(103, (0, 2, 0), (0, 3, 0))])] (by decide +kernel) (ρ0 := (fun s => [x0, x1, x2, x3].getD s 0)) hB eF eC ⟨rfl, ⟨rfl, ⟨rfl, ⟨rfl, ⟨rfl, trivial⟩⟩⟩⟩⟩ trivial ?_
  refine List.forall_mem_cons.mpr ⟨?_, fun _ h => absurd h List.not_mem_nil⟩
  · intro ρ τ Lc stc hx g1 g2 g3 g4 g5 g6 g7 g8
    have e0 : ρ 0 = x0 := hx 0 (by decide)
    have e1 : ρ 1 = x1 := hx 1 (by decide)
    have e2 : ρ 2 = x2 := hx 2 (by decide)
    have e3 : ρ 3 = x3 := hx 3 (by decide)
    subst e0
    subst e1
    subst e2
    subst e3
    have g7 := g7 (by decide)
    match Lc, stc, g7, g8 with
    | [v0, v1, v2, v3, v4], [], ⟨hv0, hv1, hv2, hv3, hv4, _⟩, _ =>
      cases hv0
      cases hv1
      cases hv2
      cases hv3
      cases hv4
      exact l0 τ ρ  g1 g2 g3 g4 g5 g6
set_option maxRecDepth 100000 in
theorem zq_632 {σ : pm_S} {Q : Option Value → pm_S → Prop} (x0 x1 x2 : Int)  (hB : an_GB pm_B σ) (eF : (0 ≤ x0 ∧ x0 ≤ 9) ∧ ((-2147483648) ≤ x1 ∧ x1 ≤ 2147483647) ∧ (0 ≤ x2 ∧ x2 ≤ 29) ∧ True)
    (l0 : ∀ (τ : pm_S) (y : Nat → Int), an_GB pm_B τ → FQ [] σ τ → ((0 ≤ x0 ∧ x0 ≤ 9) ∧ ((-2147483648) ≤ x1 ∧ x1 ≤ 2147483647) ∧ (0 ≤ x2 ∧ x2 ≤ 29) ∧ True) → (True) → (True) → (True) → Ok 213 5 4 [.ref 93, .int (Int32.ofInt (x0)), .int (Int32.ofInt 0), .int (Int32.ofInt (x1)), .int (Int32.ofInt (x2 + 1))] [] τ Q)
    : Ok 213 5 32 [.ref 93, .int (Int32.ofInt (x0)), .int (Int32.ofInt 0), .int (Int32.ofInt (x1)), .int (Int32.ofInt (x2))] [] σ Q := by
  refine an_seg (B := pm_B) (F := []) (T := []) (S := []) (fun _ h => absurd h List.not_mem_nil) (k := 213) (d := 4) (cs := [4]) 4 32 3 [(0, 0, 9), (1, (-2147483648), 2147483647), (2, 0, 29)] [] [(2, 93, 0), (0, 0, 0), (1, 0, 0), (0, 1, 0), (0, 2, 0)] [] [(4, [(2, 93, 0), (0, 0, 0), (1, 0, 0), (0, 1, 0), (0, 2, 1)], [], [(0, 0, 9), (1, (-2147483648), 2147483647), (2, 0, 29)], [], [], [])] (by decide +kernel) (ρ0 := (fun s => [x0, x1, x2].getD s 0)) hB eF trivial ⟨rfl, ⟨rfl, ⟨rfl, ⟨rfl, ⟨rfl, trivial⟩⟩⟩⟩⟩ trivial ?_
  refine List.forall_mem_cons.mpr ⟨?_, fun _ h => absurd h List.not_mem_nil⟩
  · intro ρ τ Lc stc hx g1 g2 g3 g4 g5 g6 g7 g8
    have e0 : ρ 0 = x0 := hx 0 (by decide)
    have e1 : ρ 1 = x1 := hx 1 (by decide)
    have e2 : ρ 2 = x2 := hx 2 (by decide)
    subst e0
    subst e1
    subst e2
    have g7 := g7 (by decide)
    match Lc, stc, g7, g8 with
    | [v0, v1, v2, v3, v4], [], ⟨hv0, hv1, hv2, hv3, hv4, _⟩, _ =>
      cases hv0
      cases hv1
      cases hv2
      cases hv3
      cases hv4
      exact l0 τ ρ  g1 g2 g3 g4 g5 g6
set_option maxRecDepth 100000 in
theorem zq_634 {σ : pm_S} {Q : Option Value → pm_S → Prop} (x0 x1 x2 : Int)  (hB : an_GB pm_B σ) (eF : (0 ≤ x0 ∧ x0 ≤ 9) ∧ ((-2147483648) ≤ x1 ∧ x1 ≤ 2147483647) ∧ (0 ≤ x2 ∧ x2 ≤ 30) ∧ True)
    (l0 : ∀ (τ : pm_S) (y : Nat → Int), an_GB pm_B τ → FQ [] σ τ → ((0 ≤ x0 ∧ x0 ≤ 9) ∧ ((-2147483648) ≤ x1 ∧ x1 ≤ 2147483647) ∧ (0 ≤ x2 ∧ x2 ≤ 30) ∧ True) → (True) → (True) → (True) → Q (some (.int (Int32.ofInt (x1)))) τ)
    : Ok 213 5 34 [.ref 93, .int (Int32.ofInt (x0)), .int (Int32.ofInt 0), .int (Int32.ofInt (x1)), .int (Int32.ofInt (x2))] [] σ Q := by
  refine an_seg (B := pm_B) (F := []) (T := []) (S := []) (fun _ h => absurd h List.not_mem_nil) (k := 213) (d := 4) (cs := []) 4 34 3 [(0, 0, 9), (1, (-2147483648), 2147483647), (2, 0, 30)] [] [(2, 93, 0), (0, 0, 0), (1, 0, 0), (0, 1, 0), (0, 2, 0)] [] [(9999, [], [(0, 1, 0)], [(0, 0, 9), (1, (-2147483648), 2147483647), (2, 0, 30)], [], [], [])] (by decide +kernel) (ρ0 := (fun s => [x0, x1, x2].getD s 0)) hB eF trivial ⟨rfl, ⟨rfl, ⟨rfl, ⟨rfl, ⟨rfl, trivial⟩⟩⟩⟩⟩ trivial ?_
  refine List.forall_mem_cons.mpr ⟨?_, fun _ h => absurd h List.not_mem_nil⟩
  · intro ρ τ Lc stc hx g1 g2 g3 g4 g5 g6 g7 g8
    have e0 : ρ 0 = x0 := hx 0 (by decide)
    have e1 : ρ 1 = x1 := hx 1 (by decide)
    have e2 : ρ 2 = x2 := hx 2 (by decide)
    subst e0
    subst e1
    subst e2
    match stc, g8 with
    | [_], ⟨h, _⟩ => cases h; exact l0 τ ρ g1 g2 g3 g4 g5 g6
set_option maxRecDepth 100000 in
theorem zc_o0 {σ : pm_S} {Q : Option Value → pm_S → Prop} (x0 x1 : Int)  (hB : an_GB pm_B σ) (eF : ((-2147483648) ≤ x0 ∧ x0 ≤ 2147483647) ∧ ((-2147483648) ≤ x1 ∧ x1 ≤ 2147483647) ∧ True)
    (l0 : ∀ (τ : pm_S) (y : Nat → Int), an_GB pm_B τ → FQ [] σ τ → (((-2147483648) ≤ x0 ∧ x0 ≤ 2147483647) ∧ ((-2147483648) ≤ x1 ∧ x1 ≤ 2147483647) ∧ True) → (True) → (True) → (True) → Ok 141 22 4 [.ref 0, .int (Int32.ofInt (x0)), .int (Int32.ofInt (x1))] [.int (Int32.ofInt (x0)), .ref 7] τ Q)
    : Ok 141 22 0 [.ref 0, .int (Int32.ofInt (x0)), .int (Int32.ofInt (x1))] [] σ Q := by
  refine an_seg (B := pm_B) (F := []) (T := []) (S := []) (fun _ h => absurd h List.not_mem_nil) (k := 141) (d := 21) (cs := [4]) 6 0 2 [(0, (-2147483648), 2147483647), (1, (-2147483648), 2147483647)] [] [(2, 0, 0), (0, 0, 0), (0, 1, 0)] [] [(4, [(2, 0, 0), (0, 0, 0), (0, 1, 0)], [(0, 0, 0), (2, 7, 0)], [(0, (-2147483648), 2147483647), (1, (-2147483648), 2147483647)], [], [], [])] (by decide +kernel) (ρ0 := (fun s => [x0, x1].getD s 0)) hB eF trivial ⟨rfl, ⟨rfl, ⟨rfl, trivial⟩⟩⟩ trivial ?_
  refine List.forall_mem_cons.mpr ⟨?_, fun _ h => absurd h List.not_mem_nil⟩
  · intro ρ τ Lc stc hx g1 g2 g3 g4 g5 g6 g7 g8
    have e0 : ρ 0 = x0 := hx 0 (by decide)
    have e1 : ρ 1 = x1 := hx 1 (by decide)
    subst e0
    subst e1
    have g7 := g7 (by decide)
    match Lc, stc, g7, g8 with
    | [v0, v1, v2], [w0, w1], ⟨hv0, hv1, hv2, _⟩, ⟨hw0, hw1, _⟩ =>
      cases hv0
      cases hv1
      cases hv2
      cases hw0
      cases hw1
      exact l0 τ ρ  g1 g2 g3 g4 g5 g6
set_option maxRecDepth 100000 in
theorem zc_o5n {σ : pm_S} {Q : Option Value → pm_S → Prop} (x0 x1 : Int)  (hB : an_GB pm_B σ) (eF : ((-2147483648) ≤ x0 ∧ x0 ≤ 2147483647) ∧ ((-2147483648) ≤ x1 ∧ x1 ≤ 2147483647) ∧ True)
    (l0 : ∀ (τ : pm_S) (y : Nat → Int), an_GB pm_B τ → FQ [] σ τ → (((-2147483648) ≤ x0 ∧ x0 ≤ 2147483647) ∧ ((-2147483648) ≤ x1 ∧ x1 ≤ 2147483647) ∧ True) → (True) → (True) → (True) → Q (some (.int (Int32.ofInt (-2)))) τ)
    : Ok 141 22 5 [.ref 0, .int (Int32.ofInt (x0)), .int (Int32.ofInt (x1))] [.int (Int32.ofInt 0)] σ Q := by
  refine an_seg (B := pm_B) (F := []) (T := []) (S := []) (fun _ h => absurd h List.not_mem_nil) (k := 141) (d := 21) (cs := []) 5 5 2 [(0, (-2147483648), 2147483647), (1, (-2147483648), 2147483647)] [] [(2, 0, 0), (0, 0, 0), (0, 1, 0)] [(1, 0, 0)] [(9999, [], [(1, 0, (-2))], [(0, (-2147483648), 2147483647), (1, (-2147483648), 2147483647)], [], [], [])] (by decide +kernel) (ρ0 := (fun s => [x0, x1].getD s 0)) hB eF trivial ⟨rfl, ⟨rfl, ⟨rfl, trivial⟩⟩⟩ ⟨rfl, trivial⟩ ?_
  refine List.forall_mem_cons.mpr ⟨?_, fun _ h => absurd h List.not_mem_nil⟩
  · intro ρ τ Lc stc hx g1 g2 g3 g4 g5 g6 g7 g8
    have e0 : ρ 0 = x0 := hx 0 (by decide)
    have e1 : ρ 1 = x1 := hx 1 (by decide)
    subst e0
    subst e1
    match stc, g8 with
    | [_], ⟨h, _⟩ => cases h; exact l0 τ ρ g1 g2 g3 g4 g5 g6
set_option maxRecDepth 100000 in
theorem zc_o5 {σ : pm_S} {Q : Option Value → pm_S → Prop} (x0 x1 x2 x3 x4 x5 x6 : Int)  (hB : an_GB pm_B σ) (eF : (0 ≤ x0 ∧ x0 ≤ 9) ∧ ((-2147483648) ≤ x1 ∧ x1 ≤ 2147483647) ∧ (0 ≤ x2 ∧ x2 ≤ 9) ∧ ((-2147483648) ≤ x3 ∧ x3 ≤ 2147483647) ∧ ((-2147483648) ≤ x4 ∧ x4 ≤ 2147483647) ∧ (0 ≤ x5 ∧ x5 ≤ 9) ∧ ((-1) ≤ x6 ∧ x6 ≤ 9) ∧ True) (eC : (σ.1 8 (x0).toNat).toInt = x2 ∧ (σ.1 9 (x0).toNat).toInt = x3 ∧ (σ.1 10 (x0).toNat).toInt = x4 ∧ (σ.1 11 (x0).toNat).toInt = x5 ∧ (σ.1 12 (x0).toNat).toInt = x6 ∧ True)
    (l0 : ∀ (τ : pm_S) (y : Nat → Int), an_GB pm_B τ → FQ [] σ τ → ((0 ≤ x0 ∧ x0 ≤ 9) ∧ ((-2147483648) ≤ x1 ∧ x1 ≤ 2147483647) ∧ (0 ≤ x2 ∧ x2 ≤ 9) ∧ ((-2147483648) ≤ x3 ∧ x3 ≤ 2147483647) ∧ ((-2147483648) ≤ x4 ∧ x4 ≤ 2147483647) ∧ (0 ≤ x5 ∧ x5 ≤ 9) ∧ ((-1) ≤ x6 ∧ x6 ≤ 9) ∧ True) → (x1 ≠ 6 ∧ x1 ≠ 5 ∧ x1 ≠ 4 ∧ x1 ≠ 3 ∧ x1 ≠ 2 ∧ x1 ≠ 1 ∧ x1 ≠ 0 ∧ True) → (True) → ((τ.1 8 (x0).toNat).toInt = x2 ∧ (τ.1 9 (x0).toNat).toInt = x3 ∧ (τ.1 10 (x0).toNat).toInt = x4 ∧ (τ.1 11 (x0).toNat).toInt = x5 ∧ (τ.1 12 (x0).toNat).toInt = x6 ∧ True) → Q (some (.int (Int32.ofInt (-2)))) τ)
    (l1 : ∀ (τ : pm_S) (y : Nat → Int), an_GB pm_B τ → FQ [] σ τ → ((0 ≤ x0 ∧ x0 ≤ 9) ∧ (6 ≤ x1 ∧ x1 ≤ 6) ∧ (0 ≤ x2 ∧ x2 ≤ 9) ∧ ((-2147483648) ≤ x3 ∧ x3 ≤ 2147483647) ∧ ((-2147483648) ≤ x4 ∧ x4 ≤ 2147483647) ∧ (0 ≤ x5 ∧ x5 ≤ 9) ∧ ((-1) ≤ x6 ∧ x6 ≤ 9) ∧ True) → (x1 ≠ 5 ∧ x1 ≠ 4 ∧ x1 ≠ 3 ∧ x1 ≠ 2 ∧ x1 ≠ 1 ∧ x1 ≠ 0 ∧ True) → (True) → ((τ.1 8 (x0).toNat).toInt = x2 ∧ (τ.1 9 (x0).toNat).toInt = x3 ∧ (τ.1 10 (x0).toNat).toInt = x4 ∧ (τ.1 11 (x0).toNat).toInt = x5 ∧ (τ.1 12 (x0).toNat).toInt = x6 ∧ True) → Ok 141 22 55 [.ref 0, .int (Int32.ofInt (x0)), .int (Int32.ofInt (x1))] [.int (Int32.ofInt (x0)), .ref 13] τ Q)
    (l2 : ∀ (τ : pm_S) (y : Nat → Int), an_GB pm_B τ → FQ [] σ τ → ((0 ≤ x0 ∧ x0 ≤ 9) ∧ (5 ≤ x1 ∧ x1 ≤ 5) ∧ (0 ≤ x2 ∧ x2 ≤ 9) ∧ ((-2147483648) ≤ x3 ∧ x3 ≤ 2147483647) ∧ ((-2147483648) ≤ x4 ∧ x4 ≤ 2147483647) ∧ (0 ≤ x5 ∧ x5 ≤ 9) ∧ ((-1) ≤ x6 ∧ x6 ≤ 9) ∧ True) → (x1 ≠ 4 ∧ x1 ≠ 3 ∧ x1 ≠ 2 ∧ x1 ≠ 1 ∧ x1 ≠ 0 ∧ True) → (True) → ((τ.1 8 (x0).toNat).toInt = x2 ∧ (τ.1 9 (x0).toNat).toInt = x3 ∧ (τ.1 10 (x0).toNat).toInt = x4 ∧ (τ.1 11 (x0).toNat).toInt = x5 ∧ (τ.1 12 (x0).toNat).toInt = x6 ∧ True) → Ok 141 22 49 [.ref 0, .int (Int32.ofInt (x0)), .int (Int32.ofInt (x1))] [.int (Int32.ofInt (x0)), .ref 13] τ Q)
    (l3 : ∀ (τ : pm_S) (y : Nat → Int), an_GB pm_B τ → FQ [] σ τ → ((0 ≤ x0 ∧ x0 ≤ 9) ∧ (4 ≤ x1 ∧ x1 ≤ 4) ∧ (0 ≤ x2 ∧ x2 ≤ 9) ∧ ((-2147483648) ≤ x3 ∧ x3 ≤ 2147483647) ∧ ((-2147483648) ≤ x4 ∧ x4 ≤ 2147483647) ∧ (0 ≤ x5 ∧ x5 ≤ 9) ∧ ((-1) ≤ x6 ∧ x6 ≤ 9) ∧ True) → (x1 ≠ 3 ∧ x1 ≠ 2 ∧ x1 ≠ 1 ∧ x1 ≠ 0 ∧ True) → (True) → ((τ.1 8 (x0).toNat).toInt = x2 ∧ (τ.1 9 (x0).toNat).toInt = x3 ∧ (τ.1 10 (x0).toNat).toInt = x4 ∧ (τ.1 11 (x0).toNat).toInt = x5 ∧ (τ.1 12 (x0).toNat).toInt = x6 ∧ True) → Q (some (.int (Int32.ofInt (x6)))) τ)
    (l4 : ∀ (τ : pm_S) (y : Nat → Int), an_GB pm_B τ → FQ [] σ τ → ((0 ≤ x0 ∧ x0 ≤ 9) ∧ (3 ≤ x1 ∧ x1 ≤ 3) ∧ (0 ≤ x2 ∧ x2 ≤ 9) ∧ ((-2147483648) ≤ x3 ∧ x3 ≤ 2147483647) ∧ ((-2147483648) ≤ x4 ∧ x4 ≤ 2147483647) ∧ (0 ≤ x5 ∧ x5 ≤ 9) ∧ ((-1) ≤ x6 ∧ x6 ≤ 9) ∧ True) → (x1 ≠ 2 ∧ x1 ≠ 1 ∧ x1 ≠ 0 ∧ True) → (True) → ((τ.1 8 (x0).toNat).toInt = x2 ∧ (τ.1 9 (x0).toNat).toInt = x3 ∧ (τ.1 10 (x0).toNat).toInt = x4 ∧ (τ.1 11 (x0).toNat).toInt = x5 ∧ (τ.1 12 (x0).toNat).toInt = x6 ∧ True) → Q (some (.int (Int32.ofInt (x5)))) τ)
    (l5 : ∀ (τ : pm_S) (y : Nat → Int), an_GB pm_B τ → FQ [] σ τ → ((0 ≤ x0 ∧ x0 ≤ 9) ∧ (2 ≤ x1 ∧ x1 ≤ 2) ∧ (0 ≤ x2 ∧ x2 ≤ 9) ∧ ((-2147483648) ≤ x3 ∧ x3 ≤ 2147483647) ∧ ((-2147483648) ≤ x4 ∧ x4 ≤ 2147483647) ∧ (0 ≤ x5 ∧ x5 ≤ 9) ∧ ((-1) ≤ x6 ∧ x6 ≤ 9) ∧ True) → (x1 ≠ 1 ∧ x1 ≠ 0 ∧ True) → (True) → ((τ.1 8 (x0).toNat).toInt = x2 ∧ (τ.1 9 (x0).toNat).toInt = x3 ∧ (τ.1 10 (x0).toNat).toInt = x4 ∧ (τ.1 11 (x0).toNat).toInt = x5 ∧ (τ.1 12 (x0).toNat).toInt = x6 ∧ True) → Q (some (.int (Int32.ofInt (x4)))) τ)
    (l6 : ∀ (τ : pm_S) (y : Nat → Int), an_GB pm_B τ → FQ [] σ τ → ((0 ≤ x0 ∧ x0 ≤ 9) ∧ (1 ≤ x1 ∧ x1 ≤ 1) ∧ (0 ≤ x2 ∧ x2 ≤ 9) ∧ ((-2147483648) ≤ x3 ∧ x3 ≤ 2147483647) ∧ ((-2147483648) ≤ x4 ∧ x4 ≤ 2147483647) ∧ (0 ≤ x5 ∧ x5 ≤ 9) ∧ ((-1) ≤ x6 ∧ x6 ≤ 9) ∧ True) → (x1 ≠ 0 ∧ True) → (True) → ((τ.1 8 (x0).toNat).toInt = x2 ∧ (τ.1 9 (x0).toNat).toInt = x3 ∧ (τ.1 10 (x0).toNat).toInt = x4 ∧ (τ.1 11 (x0).toNat).toInt = x5 ∧ (τ.1 12 (x0).toNat).toInt = x6 ∧ True) → Q (some (.int (Int32.ofInt (x3)))) τ)
    (l7 : ∀ (τ : pm_S) (y : Nat → Int), an_GB pm_B τ → FQ [] σ τ → ((0 ≤ x0 ∧ x0 ≤ 9) ∧ (0 ≤ x1 ∧ x1 ≤ 0) ∧ (0 ≤ x2 ∧ x2 ≤ 9) ∧ ((-2147483648) ≤ x3 ∧ x3 ≤ 2147483647) ∧ ((-2147483648) ≤ x4 ∧ x4 ≤ 2147483647) ∧ (0 ≤ x5 ∧ x5 ≤ 9) ∧ ((-1) ≤ x6 ∧ x6 ≤ 9) ∧ True) → (True) → (True) → ((τ.1 8 (x0).toNat).toInt = x2 ∧ (τ.1 9 (x0).toNat).toInt = x3 ∧ (τ.1 10 (x0).toNat).toInt = x4 ∧ (τ.1 11 (x0).toNat).toInt = x5 ∧ (τ.1 12 (x0).toNat).toInt = x6 ∧ True) → Q (some (.int (Int32.ofInt (x2)))) τ)
    : Ok 141 22 5 [.ref 0, .int (Int32.ofInt (x0)), .int (Int32.ofInt (x1))] [.int (Int32.ofInt 1)] σ Q := by
  refine an_seg (B := pm_B) (F := []) (T := [8, 9, 10, 11, 12]) (S := []) (fun _ h => absurd h List.not_mem_nil) (k := 141) (d := 21) (cs := [49, 55]) 12 5 7 [(0, 0, 9), (1, (-2147483648), 2147483647), (2, 0, 9), (3, (-2147483648), 2147483647), (4, (-2147483648), 2147483647), (5, 0, 9), (6, (-1), 9)] [(8, (0, 0, 0), (0, 2, 0)), (9, (0, 0, 0), (0, 3, 0)), (10, (0, 0, 0), (0, 4, 0)), (11, (0, 0, 0), (0, 5, 0)), (12, (0, 0, 0), (0, 6, 0))] [(2, 0, 0), (0, 0, 0), (0, 1, 0)] [(1, 0, 1)] [(9999, [], [(1, 0, (-2))], [(0, 0, 9), (1, (-2147483648), 2147483647), (2, 0, 9), (3, (-2147483648), 2147483647), (4, (-2147483648), 2147483647), (5, 0, 9), (6, (-1), 9)], [(3, 1, 1, 6), (3, 1, 1, 5), (3, 1, 1, 4), (3, 1, 1, 3), (3, 1, 1, 2), (3, 1, 1, 1), (3, 1, 1, 0)], [], [(8, (0, 0, 0), (0, 2, 0)), (9, (0, 0, 0), (0, 3, 0)), (10, (0, 0, 0), (0, 4, 0)), (11, (0, 0, 0), (0, 5, 0)), (12, (0, 0, 0), (0, 6, 0))]),
    (55, [(2, 0, 0), (0, 0, 0), (0, 1, 0)], [(0, 0, 0), (2, 13, 0)], [(0, 0, 9), (1, 6, 6), (2, 0, 9), (3, (-2147483648), 2147483647), (4, (-2147483648), 2147483647), (5, 0, 9), (6, (-1), 9)], [(3, 1, 1, 5), (3, 1, 1, 4), (3, 1, 1, 3), (3, 1, 1, 2), (3, 1, 1, 1), (3, 1, 1, 0)], [], [(8, (0, 0, 0), (0, 2, 0)), (9, (0, 0, 0), (0, 3, 0)), (10, (0, 0, 0), (0, 4, 0)), (11, (0, 0, 0), (0, 5, 0)), (12, (0, 0, 0), (0, 6, 0))]),
    (49, [(2, 0, 0), (0, 0, 0), (0, 1, 0)], [(0, 0, 0), (2, 13, 0)], [(0, 0, 9), (1, 5, 5), (2, 0, 9), (3, (-2147483648), 2147483647), (4, (-2147483648), 2147483647), (5, 0, 9), (6, (-1), 9)], [(3, 1, 1, 4), (3, 1, 1, 3), (3, 1, 1, 2), (3, 1, 1, 1), (3, 1, 1, 0)], [], [(8, (0, 0, 0), (0, 2, 0)), (9, (0, 0, 0), (0, 3, 0)), (10, (0, 0, 0), (0, 4, 0)), (11, (0, 0, 0), (0, 5, 0)), (12, (0, 0, 0), (0, 6, 0))]),
    (9999, [], [(0, 6, 0)], [(0, 0, 9), (1, 4, 4), (2, 0, 9), (3, (-2147483648), 2147483647), (4, (-2147483648), 2147483647), (5, 0, 9), (6, (-1), 9)], [(3, 1, 1, 3), (3, 1, 1, 2), (3, 1, 1, 1), (3, 1, 1, 0)], [], [(8, (0, 0, 0), (0, 2, 0)), (9, (0, 0, 0), (0, 3, 0)), (10, (0, 0, 0), (0, 4, 0)), (11, (0, 0, 0), (0, 5, 0)), (12, (0, 0, 0), (0, 6, 0))]),
    (9999, [], [(0, 5, 0)], [(0, 0, 9), (1, 3, 3), (2, 0, 9), (3, (-2147483648), 2147483647), (4, (-2147483648), 2147483647), (5, 0, 9), (6, (-1), 9)], [(3, 1, 1, 2), (3, 1, 1, 1), (3, 1, 1, 0)], [], [(8, (0, 0, 0), (0, 2, 0)), (9, (0, 0, 0), (0, 3, 0)), (10, (0, 0, 0), (0, 4, 0)), (11, (0, 0, 0), (0, 5, 0)), (12, (0, 0, 0), (0, 6, 0))]),
    (9999, [], [(0, 4, 0)], [(0, 0, 9), (1, 2, 2), (2, 0, 9), (3, (-2147483648), 2147483647), (4, (-2147483648), 2147483647), (5, 0, 9), (6, (-1), 9)], [(3, 1, 1, 1), (3, 1, 1, 0)], [], [(8, (0, 0, 0), (0, 2, 0)), (9, (0, 0, 0), (0, 3, 0)), (10, (0, 0, 0), (0, 4, 0)), (11, (0, 0, 0), (0, 5, 0)), (12, (0, 0, 0), (0, 6, 0))]),
    (9999, [], [(0, 3, 0)], [(0, 0, 9), (1, 1, 1), (2, 0, 9), (3, (-2147483648), 2147483647), (4, (-2147483648), 2147483647), (5, 0, 9), (6, (-1), 9)], [(3, 1, 1, 0)], [], [(8, (0, 0, 0), (0, 2, 0)), (9, (0, 0, 0), (0, 3, 0)), (10, (0, 0, 0), (0, 4, 0)), (11, (0, 0, 0), (0, 5, 0)), (12, (0, 0, 0), (0, 6, 0))]),
    (9999, [], [(0, 2, 0)], [(0, 0, 9), (1, 0, 0), (2, 0, 9), (3, (-2147483648), 2147483647), (4, (-2147483648), 2147483647), (5, 0, 9), (6, (-1), 9)], [], [], [(8, (0, 0, 0), (0, 2, 0)), (9, (0, 0, 0), (0, 3, 0)), (10, (0, 0, 0), (0, 4, 0)), (11, (0, 0, 0), (0, 5, 0)), (12, (0, 0, 0), (0, 6, 0))])] (by decide +kernel) (ρ0 := (fun s => [x0, x1, x2, x3, x4, x5, x6].getD s 0)) hB eF eC ⟨rfl, ⟨rfl, ⟨rfl, trivial⟩⟩⟩ ⟨rfl, trivial⟩ ?_
  refine List.forall_mem_cons.mpr ⟨?_, List.forall_mem_cons.mpr ⟨?_, List.forall_mem_cons.mpr ⟨?_, List.forall_mem_cons.mpr ⟨?_, List.forall_mem_cons.mpr ⟨?_, List.forall_mem_cons.mpr ⟨?_, List.forall_mem_cons.mpr ⟨?_, List.forall_mem_cons.mpr ⟨?_, fun _ h => absurd h List.not_mem_nil⟩⟩⟩⟩⟩⟩⟩⟩
  · intro ρ τ Lc stc hx g1 g2 g3 g4 g5 g6 g7 g8
    have e0 : ρ 0 = x0 := hx 0 (by decide)
    have e1 : ρ 1 = x1 := hx 1 (by decide)
    have e2 : ρ 2 = x2 := hx 2 (by decide)
    have e3 : ρ 3 = x3 := hx 3 (by decide)
    have e4 : ρ 4 = x4 := hx 4 (by decide)
    have e5 : ρ 5 = x5 := hx 5 (by decide)
    have e6 : ρ 6 = x6 := hx 6 (by decide)
    subst e0
    subst e1
    subst e2
    subst e3
    subst e4
    subst e5
    subst e6
    match stc, g8 with
    | [_], ⟨h, _⟩ => cases h; exact l0 τ ρ g1 g2 g3 g4 g5 g6
  · intro ρ τ Lc stc hx g1 g2 g3 g4 g5 g6 g7 g8
    have e0 : ρ 0 = x0 := hx 0 (by decide)
    have e1 : ρ 1 = x1 := hx 1 (by decide)
    have e2 : ρ 2 = x2 := hx 2 (by decide)
    have e3 : ρ 3 = x3 := hx 3 (by decide)
    have e4 : ρ 4 = x4 := hx 4 (by decide)
    have e5 : ρ 5 = x5 := hx 5 (by decide)
    have e6 : ρ 6 = x6 := hx 6 (by decide)
    subst e0
    subst e1
    subst e2
    subst e3
    subst e4
    subst e5
    subst e6
    have g7 := g7 (by decide)
    match Lc, stc, g7, g8 with
    | [v0, v1, v2], [w0, w1], ⟨hv0, hv1, hv2, _⟩, ⟨hw0, hw1, _⟩ =>
      cases hv0
      cases hv1
      cases hv2
      cases hw0
      cases hw1
      exact l1 τ ρ  g1 g2 g3 g4 g5 g6
  · intro ρ τ Lc stc hx g1 g2 g3 g4 g5 g6 g7 g8
    have e0 : ρ 0 = x0 := hx 0 (by decide)
    have e1 : ρ 1 = x1 := hx 1 (by decide)
    have e2 : ρ 2 = x2 := hx 2 (by decide)
    have e3 : ρ 3 = x3 := hx 3 (by decide)
    have e4 : ρ 4 = x4 := hx 4 (by decide)
    have e5 : ρ 5 = x5 := hx 5 (by decide)
    have e6 : ρ 6 = x6 := hx 6 (by decide)
    subst e0
    subst e1
    subst e2
    subst e3
    subst e4
    subst e5
    subst e6
    have g7 := g7 (by decide)
    match Lc, stc, g7, g8 with
    | [v0, v1, v2], [w0, w1], ⟨hv0, hv1, hv2, _⟩, ⟨hw0, hw1, _⟩ =>
      cases hv0
      cases hv1
      cases hv2
      cases hw0
      cases hw1
      exact l2 τ ρ  g1 g2 g3 g4 g5 g6
  · intro ρ τ Lc stc hx g1 g2 g3 g4 g5 g6 g7 g8
    have e0 : ρ 0 = x0 := hx 0 (by decide)
    have e1 : ρ 1 = x1 := hx 1 (by decide)
    have e2 : ρ 2 = x2 := hx 2 (by decide)
    have e3 : ρ 3 = x3 := hx 3 (by decide)
    have e4 : ρ 4 = x4 := hx 4 (by decide)
    have e5 : ρ 5 = x5 := hx 5 (by decide)
    have e6 : ρ 6 = x6 := hx 6 (by decide)
    subst e0
    subst e1
    subst e2
    subst e3
    subst e4
    subst e5
    subst e6
    match stc, g8 with
    | [_], ⟨h, _⟩ => cases h; exact l3 τ ρ g1 g2 g3 g4 g5 g6
  · intro ρ τ Lc stc hx g1 g2 g3 g4 g5 g6 g7 g8
    have e0 : ρ 0 = x0 := hx 0 (by decide)
    have e1 : ρ 1 = x1 := hx 1 (by decide)
    have e2 : ρ 2 = x2 := hx 2 (by decide)
    have e3 : ρ 3 = x3 := hx 3 (by decide)
    have e4 : ρ 4 = x4 := hx 4 (by decide)
    have e5 : ρ 5 = x5 := hx 5 (by decide)
    have e6 : ρ 6 = x6 := hx 6 (by decide)
    subst e0
    subst e1
    subst e2
    subst e3
    subst e4
    subst e5
    subst e6
    match stc, g8 with
    | [_], ⟨h, _⟩ => cases h; exact l4 τ ρ g1 g2 g3 g4 g5 g6
  · intro ρ τ Lc stc hx g1 g2 g3 g4 g5 g6 g7 g8
    have e0 : ρ 0 = x0 := hx 0 (by decide)
    have e1 : ρ 1 = x1 := hx 1 (by decide)
    have e2 : ρ 2 = x2 := hx 2 (by decide)
    have e3 : ρ 3 = x3 := hx 3 (by decide)
    have e4 : ρ 4 = x4 := hx 4 (by decide)
    have e5 : ρ 5 = x5 := hx 5 (by decide)
    have e6 : ρ 6 = x6 := hx 6 (by decide)
    subst e0
    subst e1
    subst e2
    subst e3
    subst e4
    subst e5
    subst e6
    match stc, g8 with
    | [_], ⟨h, _⟩ => cases h; exact l5 τ ρ g1 g2 g3 g4 g5 g6
  · intro ρ τ Lc stc hx g1 g2 g3 g4 g5 g6 g7 g8
    have e0 : ρ 0 = x0 := hx 0 (by decide)
    have e1 : ρ 1 = x1 := hx 1 (by decide)
    have e2 : ρ 2 = x2 := hx 2 (by decide)
    have e3 : ρ 3 = x3 := hx 3 (by decide)
    have e4 : ρ 4 = x4 := hx 4 (by decide)
    have e5 : ρ 5 = x5 := hx 5 (by decide)
    have e6 : ρ 6 = x6 := hx 6 (by decide)
    subst e0
    subst e1
    subst e2
    subst e3
    subst e4
    subst e5
    subst e6
    match stc, g8 with
    | [_], ⟨h, _⟩ => cases h; exact l6 τ ρ g1 g2 g3 g4 g5 g6
  · intro ρ τ Lc stc hx g1 g2 g3 g4 g5 g6 g7 g8
    have e0 : ρ 0 = x0 := hx 0 (by decide)
    have e1 : ρ 1 = x1 := hx 1 (by decide)
    have e2 : ρ 2 = x2 := hx 2 (by decide)
    have e3 : ρ 3 = x3 := hx 3 (by decide)
    have e4 : ρ 4 = x4 := hx 4 (by decide)
    have e5 : ρ 5 = x5 := hx 5 (by decide)
    have e6 : ρ 6 = x6 := hx 6 (by decide)
    subst e0
    subst e1
    subst e2
    subst e3
    subst e4
    subst e5
    subst e6
    match stc, g8 with
    | [_], ⟨h, _⟩ => cases h; exact l7 τ ρ g1 g2 g3 g4 g5 g6
set_option maxRecDepth 100000 in
theorem zc_o50 {σ : pm_S} {Q : Option Value → pm_S → Prop} (x0 x1 x2 : Int)  (hB : an_GB pm_B σ) (eF : (0 ≤ x0 ∧ x0 ≤ 9) ∧ ((-2147483648) ≤ x1 ∧ x1 ≤ 2147483647) ∧ ((-2147483648) ≤ x2 ∧ x2 ≤ 2147483647) ∧ True)
    (l0 : ∀ (τ : pm_S) (y : Nat → Int), an_GB pm_B τ → FQ [] σ τ → ((0 ≤ x0 ∧ x0 ≤ 9) ∧ ((-2147483648) ≤ x1 ∧ x1 ≤ 2147483647) ∧ ((-2147483648) ≤ x2 ∧ x2 ≤ 2147483647) ∧ True) → (True) → (True) → (True) → Q (some (.int (Int32.ofInt (x2)))) τ)
    : Ok 141 22 50 [.ref 0, .int (Int32.ofInt (x0)), .int (Int32.ofInt (x1))] [.int (Int32.ofInt (x2))] σ Q := by
  refine an_seg (B := pm_B) (F := []) (T := []) (S := []) (fun _ h => absurd h List.not_mem_nil) (k := 141) (d := 21) (cs := []) 3 50 3 [(0, 0, 9), (1, (-2147483648), 2147483647), (2, (-2147483648), 2147483647)] [] [(2, 0, 0), (0, 0, 0), (0, 1, 0)] [(0, 2, 0)] [(9999, [], [(0, 2, 0)], [(0, 0, 9), (1, (-2147483648), 2147483647), (2, (-2147483648), 2147483647)], [], [], [])] (by decide +kernel) (ρ0 := (fun s => [x0, x1, x2].getD s 0)) hB eF trivial ⟨rfl, ⟨rfl, ⟨rfl, trivial⟩⟩⟩ ⟨rfl, trivial⟩ ?_
  refine List.forall_mem_cons.mpr ⟨?_, fun _ h => absurd h List.not_mem_nil⟩
  · intro ρ τ Lc stc hx g1 g2 g3 g4 g5 g6 g7 g8
    have e0 : ρ 0 = x0 := hx 0 (by decide)
    have e1 : ρ 1 = x1 := hx 1 (by decide)
    have e2 : ρ 2 = x2 := hx 2 (by decide)
    subst e0
    subst e1
    subst e2
    match stc, g8 with
    | [_], ⟨h, _⟩ => cases h; exact l0 τ ρ g1 g2 g3 g4 g5 g6
set_option maxRecDepth 100000 in
theorem zc_o56 {σ : pm_S} {Q : Option Value → pm_S → Prop} (x0 x1 x2 : Int)  (hB : an_GB pm_B σ) (eF : (0 ≤ x0 ∧ x0 ≤ 9) ∧ ((-2147483648) ≤ x1 ∧ x1 ≤ 2147483647) ∧ ((-2147483648) ≤ x2 ∧ x2 ≤ 2147483647) ∧ True)
    (l0 : ∀ (τ : pm_S) (y : Nat → Int), an_GB pm_B τ → FQ [] σ τ → ((0 ≤ x0 ∧ x0 ≤ 9) ∧ ((-2147483648) ≤ x1 ∧ x1 ≤ 2147483647) ∧ ((-2147483648) ≤ x2 ∧ x2 ≤ 2147483647) ∧ True) → (True) → (True) → (True) → Q (some (.int (Int32.ofInt (x2)))) τ)
    : Ok 141 22 56 [.ref 0, .int (Int32.ofInt (x0)), .int (Int32.ofInt (x1))] [.int (Int32.ofInt (x2))] σ Q := by
  refine an_seg (B := pm_B) (F := []) (T := []) (S := []) (fun _ h => absurd h List.not_mem_nil) (k := 141) (d := 21) (cs := []) 3 56 3 [(0, 0, 9), (1, (-2147483648), 2147483647), (2, (-2147483648), 2147483647)] [] [(2, 0, 0), (0, 0, 0), (0, 1, 0)] [(0, 2, 0)] [(9999, [], [(0, 2, 0)], [(0, 0, 9), (1, (-2147483648), 2147483647), (2, (-2147483648), 2147483647)], [], [], [])] (by decide +kernel) (ρ0 := (fun s => [x0, x1, x2].getD s 0)) hB eF trivial ⟨rfl, ⟨rfl, ⟨rfl, trivial⟩⟩⟩ ⟨rfl, trivial⟩ ?_
  refine List.forall_mem_cons.mpr ⟨?_, fun _ h => absurd h List.not_mem_nil⟩
  · intro ρ τ Lc stc hx g1 g2 g3 g4 g5 g6 g7 g8
    have e0 : ρ 0 = x0 := hx 0 (by decide)
    have e1 : ρ 1 = x1 := hx 1 (by decide)
    have e2 : ρ 2 = x2 := hx 2 (by decide)
    subst e0
    subst e1
    subst e2
    match stc, g8 with
    | [_], ⟨h, _⟩ => cases h; exact l0 τ ρ g1 g2 g3 g4 g5 g6
set_option maxRecDepth 100000 in
theorem zm_o0 {σ : pm_S} {Q : Option Value → pm_S → Prop} (x0 x1 : Int)  (hB : an_GB pm_B σ) (eF : ((-2147483648) ≤ x0 ∧ x0 ≤ 2147483647) ∧ ((-2147483648) ≤ x1 ∧ x1 ≤ 2147483647) ∧ True)
    (l0 : ∀ (τ : pm_S) (y : Nat → Int), an_GB pm_B τ → FQ [(93, 0)] σ τ → (((-2147483648) ≤ x0 ∧ x0 ≤ 2147483647) ∧ ((-2147483648) ≤ x1 ∧ x1 ≤ 2147483647) ∧ True) → (True) → (True) → ((τ.1 93 0).toInt = 0 ∧ True) → Ok 214 22 5 [.ref 93, .int (Int32.ofInt (x0)), .int (Int32.ofInt (x1))] [.int (Int32.ofInt (x0)), .ref 93] τ Q)
    : Ok 214 22 0 [.ref 93, .int (Int32.ofInt (x0)), .int (Int32.ofInt (x1))] [] σ Q := by
  refine an_seg (B := pm_B) (F := [(93, 0)]) (T := []) (S := []) (fun _ h => absurd h List.not_mem_nil) (k := 214) (d := 21) (cs := [5]) 7 0 2 [(0, (-2147483648), 2147483647), (1, (-2147483648), 2147483647)] [] [(2, 93, 0), (0, 0, 0), (0, 1, 0)] [] [(5, [(2, 93, 0), (0, 0, 0), (0, 1, 0)], [(0, 0, 0), (2, 93, 0)], [(0, (-2147483648), 2147483647), (1, (-2147483648), 2147483647)], [], [], [(93, (1, 0, 0), (1, 0, 0))])] (by decide +kernel) (ρ0 := (fun s => [x0, x1].getD s 0)) hB eF trivial ⟨rfl, ⟨rfl, ⟨rfl, trivial⟩⟩⟩ trivial ?_
  refine List.forall_mem_cons.mpr ⟨?_, fun _ h => absurd h List.not_mem_nil⟩
  · intro ρ τ Lc stc hx g1 g2 g3 g4 g5 g6 g7 g8
    have e0 : ρ 0 = x0 := hx 0 (by decide)
    have e1 : ρ 1 = x1 := hx 1 (by decide)
    subst e0
    subst e1
    have g7 := g7 (by decide)
    match Lc, stc, g7, g8 with
    | [v0, v1, v2], [w0, w1], ⟨hv0, hv1, hv2, _⟩, ⟨hw0, hw1, _⟩ =>
      cases hv0
      cases hv1
      cases hv2
      cases hw0
      cases hw1
      exact l0 τ ρ  g1 g2 g3 g4 g5 g6
set_option maxRecDepth 100000 in
theorem zm_o6n {σ : pm_S} {Q : Option Value → pm_S → Prop} (x0 x1 : Int)  (hB : an_GB pm_B σ) (eF : ((-2147483648) ≤ x0 ∧ x0 ≤ 2147483647) ∧ ((-2147483648) ≤ x1 ∧ x1 ≤ 2147483647) ∧ True)
    (l0 : ∀ (τ : pm_S) (y : Nat → Int), an_GB pm_B τ → FQ [] σ τ → (((-2147483648) ≤ x0 ∧ x0 ≤ 2147483647) ∧ ((-2147483648) ≤ x1 ∧ x1 ≤ 2147483647) ∧ True) → (True) → (True) → (True) → Q (some (.int (Int32.ofInt (-2)))) τ)
    : Ok 214 22 6 [.ref 93, .int (Int32.ofInt (x0)), .int (Int32.ofInt (x1))] [.int (Int32.ofInt 0)] σ Q := by
  refine an_seg (B := pm_B) (F := []) (T := []) (S := []) (fun _ h => absurd h List.not_mem_nil) (k := 214) (d := 21) (cs := []) 5 6 2 [(0, (-2147483648), 2147483647), (1, (-2147483648), 2147483647)] [] [(2, 93, 0), (0, 0, 0), (0, 1, 0)] [(1, 0, 0)] [(9999, [], [(1, 0, (-2))], [(0, (-2147483648), 2147483647), (1, (-2147483648), 2147483647)], [], [], [])] (by decide +kernel) (ρ0 := (fun s => [x0, x1].getD s 0)) hB eF trivial ⟨rfl, ⟨rfl, ⟨rfl, trivial⟩⟩⟩ ⟨rfl, trivial⟩ ?_
  refine List.forall_mem_cons.mpr ⟨?_, fun _ h => absurd h List.not_mem_nil⟩
  · intro ρ τ Lc stc hx g1 g2 g3 g4 g5 g6 g7 g8
    have e0 : ρ 0 = x0 := hx 0 (by decide)
    have e1 : ρ 1 = x1 := hx 1 (by decide)
    subst e0
    subst e1
    match stc, g8 with
    | [_], ⟨h, _⟩ => cases h; exact l0 τ ρ g1 g2 g3 g4 g5 g6
set_option maxRecDepth 100000 in
theorem zm_o6 {σ : pm_S} {Q : Option Value → pm_S → Prop} (x0 x1 x2 x3 x4 x5 x6 : Int)  (hB : an_GB pm_B σ) (eF : (0 ≤ x0 ∧ x0 ≤ 9) ∧ ((-2147483648) ≤ x1 ∧ x1 ≤ 2147483647) ∧ (0 ≤ x2 ∧ x2 ≤ 9) ∧ ((-2147483648) ≤ x3 ∧ x3 ≤ 2147483647) ∧ ((-2147483648) ≤ x4 ∧ x4 ≤ 2147483647) ∧ (0 ≤ x5 ∧ x5 ≤ 9) ∧ (0 ≤ x6 ∧ x6 ≤ 10) ∧ True) (eC : (σ.1 96 (x0).toNat).toInt = x2 ∧ (σ.1 97 (x0).toNat).toInt = x3 ∧ (σ.1 98 (x0).toNat).toInt = x4 ∧ (σ.1 99 (x0).toNat).toInt = x5 ∧ (σ.1 100 (x0).toNat).toInt = x6 ∧ True)
    (l0 : ∀ (τ : pm_S) (y : Nat → Int), an_GB pm_B τ → FQ [] σ τ → ((0 ≤ x0 ∧ x0 ≤ 9) ∧ (5 ≤ x1 ∧ x1 ≤ 5) ∧ (0 ≤ x2 ∧ x2 ≤ 9) ∧ ((-2147483648) ≤ x3 ∧ x3 ≤ 2147483647) ∧ ((-2147483648) ≤ x4 ∧ x4 ≤ 2147483647) ∧ (0 ≤ x5 ∧ x5 ≤ 9) ∧ (0 ≤ x6 ∧ x6 ≤ 10) ∧ True) → (x1 ≠ 4 ∧ x1 ≠ 3 ∧ x1 ≠ 2 ∧ x1 ≠ 1 ∧ x1 ≠ 0 ∧ True) → (True) → ((τ.1 96 (x0).toNat).toInt = x2 ∧ (τ.1 97 (x0).toNat).toInt = x3 ∧ (τ.1 98 (x0).toNat).toInt = x4 ∧ (τ.1 99 (x0).toNat).toInt = x5 ∧ (τ.1 100 (x0).toNat).toInt = x6 ∧ True) → Ok 214 22 64 [.ref 93, .int (Int32.ofInt (x0)), .int (Int32.ofInt (x1))] [.int (Int32.ofInt 1), .int (Int32.ofInt (x0)), .ref 93] τ Q)
    (l1 : ∀ (τ : pm_S) (y : Nat → Int), an_GB pm_B τ → FQ [] σ τ → ((0 ≤ x0 ∧ x0 ≤ 9) ∧ ((-2147483648) ≤ x1 ∧ x1 ≤ 2147483647) ∧ (0 ≤ x2 ∧ x2 ≤ 9) ∧ ((-2147483648) ≤ x3 ∧ x3 ≤ 2147483647) ∧ ((-2147483648) ≤ x4 ∧ x4 ≤ 2147483647) ∧ (0 ≤ x5 ∧ x5 ≤ 9) ∧ (0 ≤ x6 ∧ x6 ≤ 10) ∧ True) → (x1 ≠ 6 ∧ x1 ≠ 5 ∧ x1 ≠ 4 ∧ x1 ≠ 3 ∧ x1 ≠ 2 ∧ x1 ≠ 1 ∧ x1 ≠ 0 ∧ True) → (True) → ((τ.1 96 (x0).toNat).toInt = x2 ∧ (τ.1 97 (x0).toNat).toInt = x3 ∧ (τ.1 98 (x0).toNat).toInt = x4 ∧ (τ.1 99 (x0).toNat).toInt = x5 ∧ (τ.1 100 (x0).toNat).toInt = x6 ∧ True) → Q (some (.int (Int32.ofInt (-2)))) τ)
    (l2 : ∀ (τ : pm_S) (y : Nat → Int), an_GB pm_B τ → FQ [] σ τ → ((0 ≤ x0 ∧ x0 ≤ 9) ∧ (6 ≤ x1 ∧ x1 ≤ 6) ∧ (0 ≤ x2 ∧ x2 ≤ 9) ∧ ((-2147483648) ≤ x3 ∧ x3 ≤ 2147483647) ∧ ((-2147483648) ≤ x4 ∧ x4 ≤ 2147483647) ∧ (0 ≤ x5 ∧ x5 ≤ 9) ∧ (0 ≤ x6 ∧ x6 ≤ 10) ∧ True) → (x1 ≠ 5 ∧ x1 ≠ 4 ∧ x1 ≠ 3 ∧ x1 ≠ 2 ∧ x1 ≠ 1 ∧ x1 ≠ 0 ∧ True) → (True) → ((τ.1 96 (x0).toNat).toInt = x2 ∧ (τ.1 97 (x0).toNat).toInt = x3 ∧ (τ.1 98 (x0).toNat).toInt = x4 ∧ (τ.1 99 (x0).toNat).toInt = x5 ∧ (τ.1 100 (x0).toNat).toInt = x6 ∧ True) → Ok 214 22 64 [.ref 93, .int (Int32.ofInt (x0)), .int (Int32.ofInt (x1))] [.int (Int32.ofInt 0), .int (Int32.ofInt (x0)), .ref 93] τ Q)
    (l3 : ∀ (τ : pm_S) (y : Nat → Int), an_GB pm_B τ → FQ [] σ τ → ((0 ≤ x0 ∧ x0 ≤ 9) ∧ (4 ≤ x1 ∧ x1 ≤ 4) ∧ (0 ≤ x2 ∧ x2 ≤ 9) ∧ ((-2147483648) ≤ x3 ∧ x3 ≤ 2147483647) ∧ ((-2147483648) ≤ x4 ∧ x4 ≤ 2147483647) ∧ (0 ≤ x5 ∧ x5 ≤ 9) ∧ (0 ≤ x6 ∧ x6 ≤ 10) ∧ True) → (x1 ≠ 3 ∧ x1 ≠ 2 ∧ x1 ≠ 1 ∧ x1 ≠ 0 ∧ True) → (True) → ((τ.1 96 (x0).toNat).toInt = x2 ∧ (τ.1 97 (x0).toNat).toInt = x3 ∧ (τ.1 98 (x0).toNat).toInt = x4 ∧ (τ.1 99 (x0).toNat).toInt = x5 ∧ (τ.1 100 (x0).toNat).toInt = x6 ∧ True) → Q (some (.int (Int32.ofInt (x6 + (-1))))) τ)
    (l4 : ∀ (τ : pm_S) (y : Nat → Int), an_GB pm_B τ → FQ [] σ τ → ((0 ≤ x0 ∧ x0 ≤ 9) ∧ (3 ≤ x1 ∧ x1 ≤ 3) ∧ (0 ≤ x2 ∧ x2 ≤ 9) ∧ ((-2147483648) ≤ x3 ∧ x3 ≤ 2147483647) ∧ ((-2147483648) ≤ x4 ∧ x4 ≤ 2147483647) ∧ (0 ≤ x5 ∧ x5 ≤ 9) ∧ (0 ≤ x6 ∧ x6 ≤ 10) ∧ True) → (x1 ≠ 2 ∧ x1 ≠ 1 ∧ x1 ≠ 0 ∧ True) → (True) → ((τ.1 96 (x0).toNat).toInt = x2 ∧ (τ.1 97 (x0).toNat).toInt = x3 ∧ (τ.1 98 (x0).toNat).toInt = x4 ∧ (τ.1 99 (x0).toNat).toInt = x5 ∧ (τ.1 100 (x0).toNat).toInt = x6 ∧ True) → Q (some (.int (Int32.ofInt (x5)))) τ)
    (l5 : ∀ (τ : pm_S) (y : Nat → Int), an_GB pm_B τ → FQ [] σ τ → ((0 ≤ x0 ∧ x0 ≤ 9) ∧ (2 ≤ x1 ∧ x1 ≤ 2) ∧ (0 ≤ x2 ∧ x2 ≤ 9) ∧ ((-2147483648) ≤ x3 ∧ x3 ≤ 2147483647) ∧ ((-2147483648) ≤ x4 ∧ x4 ≤ 2147483647) ∧ (0 ≤ x5 ∧ x5 ≤ 9) ∧ (0 ≤ x6 ∧ x6 ≤ 10) ∧ True) → (x1 ≠ 1 ∧ x1 ≠ 0 ∧ True) → (True) → ((τ.1 96 (x0).toNat).toInt = x2 ∧ (τ.1 97 (x0).toNat).toInt = x3 ∧ (τ.1 98 (x0).toNat).toInt = x4 ∧ (τ.1 99 (x0).toNat).toInt = x5 ∧ (τ.1 100 (x0).toNat).toInt = x6 ∧ True) → Q (some (.int (Int32.ofInt (x4)))) τ)
    (l6 : ∀ (τ : pm_S) (y : Nat → Int), an_GB pm_B τ → FQ [] σ τ → ((0 ≤ x0 ∧ x0 ≤ 9) ∧ (1 ≤ x1 ∧ x1 ≤ 1) ∧ (0 ≤ x2 ∧ x2 ≤ 9) ∧ ((-2147483648) ≤ x3 ∧ x3 ≤ 2147483647) ∧ ((-2147483648) ≤ x4 ∧ x4 ≤ 2147483647) ∧ (0 ≤ x5 ∧ x5 ≤ 9) ∧ (0 ≤ x6 ∧ x6 ≤ 10) ∧ True) → (x1 ≠ 0 ∧ True) → (True) → ((τ.1 96 (x0).toNat).toInt = x2 ∧ (τ.1 97 (x0).toNat).toInt = x3 ∧ (τ.1 98 (x0).toNat).toInt = x4 ∧ (τ.1 99 (x0).toNat).toInt = x5 ∧ (τ.1 100 (x0).toNat).toInt = x6 ∧ True) → Q (some (.int (Int32.ofInt (x3)))) τ)
    (l7 : ∀ (τ : pm_S) (y : Nat → Int), an_GB pm_B τ → FQ [] σ τ → ((0 ≤ x0 ∧ x0 ≤ 9) ∧ (0 ≤ x1 ∧ x1 ≤ 0) ∧ (0 ≤ x2 ∧ x2 ≤ 9) ∧ ((-2147483648) ≤ x3 ∧ x3 ≤ 2147483647) ∧ ((-2147483648) ≤ x4 ∧ x4 ≤ 2147483647) ∧ (0 ≤ x5 ∧ x5 ≤ 9) ∧ (0 ≤ x6 ∧ x6 ≤ 10) ∧ True) → (True) → (True) → ((τ.1 96 (x0).toNat).toInt = x2 ∧ (τ.1 97 (x0).toNat).toInt = x3 ∧ (τ.1 98 (x0).toNat).toInt = x4 ∧ (τ.1 99 (x0).toNat).toInt = x5 ∧ (τ.1 100 (x0).toNat).toInt = x6 ∧ True) → Q (some (.int (Int32.ofInt (x2)))) τ)
    : Ok 214 22 6 [.ref 93, .int (Int32.ofInt (x0)), .int (Int32.ofInt (x1))] [.int (Int32.ofInt 1)] σ Q := by
  refine an_seg (B := pm_B) (F := []) (T := [96, 97, 98, 99, 100]) (S := []) (fun _ h => absurd h List.not_mem_nil) (k := 214) (d := 21) (cs := [64]) 29 6 7 [(0, 0, 9), (1, (-2147483648), 2147483647), (2, 0, 9), (3, (-2147483648), 2147483647), (4, (-2147483648), 2147483647), (5, 0, 9), (6, 0, 10)] [(96, (0, 0, 0), (0, 2, 0)), (97, (0, 0, 0), (0, 3, 0)), (98, (0, 0, 0), (0, 4, 0)), (99, (0, 0, 0), (0, 5, 0)), (100, (0, 0, 0), (0, 6, 0))] [(2, 93, 0), (0, 0, 0), (0, 1, 0)] [(1, 0, 1)] [(64, [(2, 93, 0), (0, 0, 0), (0, 1, 0)], [(1, 0, 1), (0, 0, 0), (2, 93, 0)], [(0, 0, 9), (1, 5, 5), (2, 0, 9), (3, (-2147483648), 2147483647), (4, (-2147483648), 2147483647), (5, 0, 9), (6, 0, 10)], [(3, 1, 1, 4), (3, 1, 1, 3), (3, 1, 1, 2), (3, 1, 1, 1), (3, 1, 1, 0)], [], [(96, (0, 0, 0), (0, 2, 0)), (97, (0, 0, 0), (0, 3, 0)), (98, (0, 0, 0), (0, 4, 0)), (99, (0, 0, 0), (0, 5, 0)), (100, (0, 0, 0), (0, 6, 0))]),
    (9999, [], [(1, 0, (-2))], [(0, 0, 9), (1, (-2147483648), 2147483647), (2, 0, 9), (3, (-2147483648), 2147483647), (4, (-2147483648), 2147483647), (5, 0, 9), (6, 0, 10)], [(3, 1, 1, 6), (3, 1, 1, 5), (3, 1, 1, 4), (3, 1, 1, 3), (3, 1, 1, 2), (3, 1, 1, 1), (3, 1, 1, 0)], [], [(96, (0, 0, 0), (0, 2, 0)), (97, (0, 0, 0), (0, 3, 0)), (98, (0, 0, 0), (0, 4, 0)), (99, (0, 0, 0), (0, 5, 0)), (100, (0, 0, 0), (0, 6, 0))]),
    (64, [(2, 93, 0), (0, 0, 0), (0, 1, 0)], [(1, 0, 0), (0, 0, 0), (2, 93, 0)], [(0, 0, 9), (1, 6, 6), (2, 0, 9), (3, (-2147483648), 2147483647), (4, (-2147483648), 2147483647), (5, 0, 9), (6, 0, 10)], [(3, 1, 1, 5), (3, 1, 1, 4), (3, 1, 1, 3), (3, 1, 1, 2), (3, 1, 1, 1), (3, 1, 1, 0)], [], [(96, (0, 0, 0), (0, 2, 0)), (97, (0, 0, 0), (0, 3, 0)), (98, (0, 0, 0), (0, 4, 0)), (99, (0, 0, 0), (0, 5, 0)), (100, (0, 0, 0), (0, 6, 0))]),
    (9999, [], [(0, 6, (-1))], [(0, 0, 9), (1, 4, 4), (2, 0, 9), (3, (-2147483648), 2147483647), (4, (-2147483648), 2147483647), (5, 0, 9), (6, 0, 10)], [(3, 1, 1, 3), (3, 1, 1, 2), (3, 1, 1, 1), (3, 1, 1, 0)], [], [(96, (0, 0, 0), (0, 2, 0)), (97, (0, 0, 0), (0, 3, 0)), (98, (0, 0, 0), (0, 4, 0)), (99, (0, 0, 0), (0, 5, 0)), (100, (0, 0, 0), (0, 6, 0))]),
    (9999, [], [(0, 5, 0)], [(0, 0, 9), (1, 3, 3), (2, 0, 9), (3, (-2147483648), 2147483647), (4, (-2147483648), 2147483647), (5, 0, 9), (6, 0, 10)], [(3, 1, 1, 2), (3, 1, 1, 1), (3, 1, 1, 0)], [], [(96, (0, 0, 0), (0, 2, 0)), (97, (0, 0, 0), (0, 3, 0)), (98, (0, 0, 0), (0, 4, 0)), (99, (0, 0, 0), (0, 5, 0)), (100, (0, 0, 0), (0, 6, 0))]),
    (9999, [], [(0, 4, 0)], [(0, 0, 9), (1, 2, 2), (2, 0, 9), (3, (-2147483648), 2147483647), (4, (-2147483648), 2147483647), (5, 0, 9), (6, 0, 10)], [(3, 1, 1, 1), (3, 1, 1, 0)], [], [(96, (0, 0, 0), (0, 2, 0)), (97, (0, 0, 0), (0, 3, 0)), (98, (0, 0, 0), (0, 4, 0)), (99, (0, 0, 0), (0, 5, 0)), (100, (0, 0, 0), (0, 6, 0))]),
    (9999, [], [(0, 3, 0)], [(0, 0, 9), (1, 1, 1), (2, 0, 9), (3, (-2147483648), 2147483647), (4, (-2147483648), 2147483647), (5, 0, 9), (6, 0, 10)], [(3, 1, 1, 0)], [], [(96, (0, 0, 0), (0, 2, 0)), (97, (0, 0, 0), (0, 3, 0)), (98, (0, 0, 0), (0, 4, 0)), (99, (0, 0, 0), (0, 5, 0)), (100, (0, 0, 0), (0, 6, 0))]),
    (9999, [], [(0, 2, 0)], [(0, 0, 9), (1, 0, 0), (2, 0, 9), (3, (-2147483648), 2147483647), (4, (-2147483648), 2147483647), (5, 0, 9), (6, 0, 10)], [], [], [(96, (0, 0, 0), (0, 2, 0)), (97, (0, 0, 0), (0, 3, 0)), (98, (0, 0, 0), (0, 4, 0)), (99, (0, 0, 0), (0, 5, 0)), (100, (0, 0, 0), (0, 6, 0))])] (by decide +kernel) (ρ0 := (fun s => [x0, x1, x2, x3, x4, x5, x6].getD s 0)) hB eF eC ⟨rfl, ⟨rfl, ⟨rfl, trivial⟩⟩⟩ ⟨rfl, trivial⟩ ?_
  refine List.forall_mem_cons.mpr ⟨?_, List.forall_mem_cons.mpr ⟨?_, List.forall_mem_cons.mpr ⟨?_, List.forall_mem_cons.mpr ⟨?_, List.forall_mem_cons.mpr ⟨?_, List.forall_mem_cons.mpr ⟨?_, List.forall_mem_cons.mpr ⟨?_, List.forall_mem_cons.mpr ⟨?_, fun _ h => absurd h List.not_mem_nil⟩⟩⟩⟩⟩⟩⟩⟩
  · intro ρ τ Lc stc hx g1 g2 g3 g4 g5 g6 g7 g8
    have e0 : ρ 0 = x0 := hx 0 (by decide)
    have e1 : ρ 1 = x1 := hx 1 (by decide)
    have e2 : ρ 2 = x2 := hx 2 (by decide)
    have e3 : ρ 3 = x3 := hx 3 (by decide)
    have e4 : ρ 4 = x4 := hx 4 (by decide)
    have e5 : ρ 5 = x5 := hx 5 (by decide)
    have e6 : ρ 6 = x6 := hx 6 (by decide)
    subst e0
    subst e1
    subst e2
    subst e3
    subst e4
    subst e5
    subst e6
    have g7 := g7 (by decide)
    match Lc, stc, g7, g8 with
    | [v0, v1, v2], [w0, w1, w2], ⟨hv0, hv1, hv2, _⟩, ⟨hw0, hw1, hw2, _⟩ =>
      cases hv0
      cases hv1
      cases hv2
      cases hw0
      cases hw1
      cases hw2
      exact l0 τ ρ  g1 g2 g3 g4 g5 g6
  · intro ρ τ Lc stc hx g1 g2 g3 g4 g5 g6 g7 g8
    have e0 : ρ 0 = x0 := hx 0 (by decide)
    have e1 : ρ 1 = x1 := hx 1 (by decide)
    have e2 : ρ 2 = x2 := hx 2 (by decide)
    have e3 : ρ 3 = x3 := hx 3 (by decide)
    have e4 : ρ 4 = x4 := hx 4 (by decide)
    have e5 : ρ 5 = x5 := hx 5 (by decide)
    have e6 : ρ 6 = x6 := hx 6 (by decide)
    subst e0
    subst e1
    subst e2
    subst e3
    subst e4
    subst e5
    subst e6
    match stc, g8 with
    | [_], ⟨h, _⟩ => cases h; exact l1 τ ρ g1 g2 g3 g4 g5 g6
  · intro ρ τ Lc stc hx g1 g2 g3 g4 g5 g6 g7 g8
    have e0 : ρ 0 = x0 := hx 0 (by decide)
    have e1 : ρ 1 = x1 := hx 1 (by decide)
    have e2 : ρ 2 = x2 := hx 2 (by decide)
    have e3 : ρ 3 = x3 := hx 3 (by decide)
    have e4 : ρ 4 = x4 := hx 4 (by decide)
    have e5 : ρ 5 = x5 := hx 5 (by decide)
    have e6 : ρ 6 = x6 := hx 6 (by decide)
    subst e0
    subst e1
    subst e2
    subst e3
    subst e4
    subst e5
    subst e6
    have g7 := g7 (by decide)
    match Lc, stc, g7, g8 with
    | [v0, v1, v2], [w0, w1, w2], ⟨hv0, hv1, hv2, _⟩, ⟨hw0, hw1, hw2, _⟩ =>
      cases hv0
      cases hv1
      cases hv2
      cases hw0
      cases hw1
      cases hw2
      exact l2 τ ρ  g1 g2 g3 g4 g5 g6
  · intro ρ τ Lc stc hx g1 g2 g3 g4 g5 g6 g7 g8
    have e0 : ρ 0 = x0 := hx 0 (by decide)
    have e1 : ρ 1 = x1 := hx 1 (by decide)
    have e2 : ρ 2 = x2 := hx 2 (by decide)
    have e3 : ρ 3 = x3 := hx 3 (by decide)
    have e4 : ρ 4 = x4 := hx 4 (by decide)
    have e5 : ρ 5 = x5 := hx 5 (by decide)
    have e6 : ρ 6 = x6 := hx 6 (by decide)
    subst e0
    subst e1
    subst e2
    subst e3
    subst e4
    subst e5
    subst e6
    match stc, g8 with
    | [_], ⟨h, _⟩ => cases h; exact l3 τ ρ g1 g2 g3 g4 g5 g6
  · intro ρ τ Lc stc hx g1 g2 g3 g4 g5 g6 g7 g8
    have e0 : ρ 0 = x0 := hx 0 (by decide)
    have e1 : ρ 1 = x1 := hx 1 (by decide)
    have e2 : ρ 2 = x2 := hx 2 (by decide)
    have e3 : ρ 3 = x3 := hx 3 (by decide)
    have e4 : ρ 4 = x4 := hx 4 (by decide)
    have e5 : ρ 5 = x5 := hx 5 (by decide)
    have e6 : ρ 6 = x6 := hx 6 (by decide)
    subst e0
    subst e1
    subst e2
    subst e3
    subst e4
    subst e5
    subst e6
    match stc, g8 with
    | [_], ⟨h, _⟩ => cases h; exact l4 τ ρ g1 g2 g3 g4 g5 g6
  · intro ρ τ Lc stc hx g1 g2 g3 g4 g5 g6 g7 g8
    have e0 : ρ 0 = x0 := hx 0 (by decide)
    have e1 : ρ 1 = x1 := hx 1 (by decide)
    have e2 : ρ 2 = x2 := hx 2 (by decide)
    have e3 : ρ 3 = x3 := hx 3 (by decide)
    have e4 : ρ 4 = x4 := hx 4 (by decide)
    have e5 : ρ 5 = x5 := hx 5 (by decide)
    have e6 : ρ 6 = x6 := hx 6 (by decide)
    subst e0
    subst e1
    subst e2
    subst e3
    subst e4
    subst e5
    subst e6
    match stc, g8 with
    | [_], ⟨h, _⟩ => cases h; exact l5 τ ρ g1 g2 g3 g4 g5 g6
  · intro ρ τ Lc stc hx g1 g2 g3 g4 g5 g6 g7 g8
    have e0 : ρ 0 = x0 := hx 0 (by decide)
    have e1 : ρ 1 = x1 := hx 1 (by decide)
    have e2 : ρ 2 = x2 := hx 2 (by decide)
    have e3 : ρ 3 = x3 := hx 3 (by decide)
    have e4 : ρ 4 = x4 := hx 4 (by decide)
    have e5 : ρ 5 = x5 := hx 5 (by decide)
    have e6 : ρ 6 = x6 := hx 6 (by decide)
    subst e0
    subst e1
    subst e2
    subst e3
    subst e4
    subst e5
    subst e6
    match stc, g8 with
    | [_], ⟨h, _⟩ => cases h; exact l6 τ ρ g1 g2 g3 g4 g5 g6
  · intro ρ τ Lc stc hx g1 g2 g3 g4 g5 g6 g7 g8
    have e0 : ρ 0 = x0 := hx 0 (by decide)
    have e1 : ρ 1 = x1 := hx 1 (by decide)
    have e2 : ρ 2 = x2 := hx 2 (by decide)
    have e3 : ρ 3 = x3 := hx 3 (by decide)
    have e4 : ρ 4 = x4 := hx 4 (by decide)
    have e5 : ρ 5 = x5 := hx 5 (by decide)
    have e6 : ρ 6 = x6 := hx 6 (by decide)
    subst e0
    subst e1
    subst e2
    subst e3
    subst e4
    subst e5
    subst e6
    match stc, g8 with
    | [_], ⟨h, _⟩ => cases h; exact l7 τ ρ g1 g2 g3 g4 g5 g6
set_option maxRecDepth 100000 in
theorem zm_o65 {σ : pm_S} {Q : Option Value → pm_S → Prop} (x0 x1 x2 : Int)  (hB : an_GB pm_B σ) (eF : (0 ≤ x0 ∧ x0 ≤ 9) ∧ ((-2147483648) ≤ x1 ∧ x1 ≤ 2147483647) ∧ ((-2147483648) ≤ x2 ∧ x2 ≤ 2147483647) ∧ True)
    (l0 : ∀ (τ : pm_S) (y : Nat → Int), an_GB pm_B τ → FQ [] σ τ → ((0 ≤ x0 ∧ x0 ≤ 9) ∧ ((-2147483648) ≤ x1 ∧ x1 ≤ 2147483647) ∧ ((-2147483648) ≤ x2 ∧ x2 ≤ 2147483647) ∧ True) → (True) → (True) → (True) → Q (some (.int (Int32.ofInt (x2)))) τ)
    : Ok 214 22 65 [.ref 93, .int (Int32.ofInt (x0)), .int (Int32.ofInt (x1))] [.int (Int32.ofInt (x2))] σ Q := by
  refine an_seg (B := pm_B) (F := []) (T := []) (S := []) (fun _ h => absurd h List.not_mem_nil) (k := 214) (d := 21) (cs := []) 4 65 3 [(0, 0, 9), (1, (-2147483648), 2147483647), (2, (-2147483648), 2147483647)] [] [(2, 93, 0), (0, 0, 0), (0, 1, 0)] [(0, 2, 0)] [(9999, [], [(0, 2, 0)], [(0, 0, 9), (1, (-2147483648), 2147483647), (2, (-2147483648), 2147483647)], [], [], [])] (by decide +kernel) (ρ0 := (fun s => [x0, x1, x2].getD s 0)) hB eF trivial ⟨rfl, ⟨rfl, ⟨rfl, trivial⟩⟩⟩ ⟨rfl, trivial⟩ ?_
  refine List.forall_mem_cons.mpr ⟨?_, fun _ h => absurd h List.not_mem_nil⟩
  · intro ρ τ Lc stc hx g1 g2 g3 g4 g5 g6 g7 g8
    have e0 : ρ 0 = x0 := hx 0 (by decide)
    have e1 : ρ 1 = x1 := hx 1 (by decide)
    have e2 : ρ 2 = x2 := hx 2 (by decide)
    subst e0
    subst e1
    subst e2
    match stc, g8 with
    | [_], ⟨h, _⟩ => cases h; exact l0 τ ρ g1 g2 g3 g4 g5 g6
/-- what open debts of one come to -/
def smF (hw who co : Nat → Int32) (p : Int) : Nat → Int32
  | 0 => 0
  | n + 1 => if hw n = 0 ∧ (who n).toInt = p then smF hw who co p n + co n else smF hw who co p n
theorem smF_y {hw who co : Nat → Int32} {p : Int} {n : Nat} (h : hw n = 0 ∧ (who n).toInt = p) : smF hw who co p (n + 1) = smF hw who co p n + co n := if_pos h
theorem smF_n {hw who co : Nat → Int32} {p : Int} {n : Nat} (h : ¬ (hw n = 0 ∧ (who n).toInt = p)) : smF hw who co p (n + 1) = smF hw who co p n := if_neg h
theorem smF_e {hw who co hw' who' co' : Nat → Int32} {p : Int} : ∀ n, (∀ i, i < n → hw i = hw' i ∧ who i = who' i ∧ co i = co' i) → smF hw who co p n = smF hw' who' co' p n
  | 0, _ => rfl
  | n + 1, h => by
    obtain ⟨a, b, c⟩ := h n (Nat.lt_succ_self n)
    show (if hw n = 0 ∧ (who n).toInt = p then smF hw who co p n + co n else smF hw who co p n) = (if hw' n = 0 ∧ (who' n).toInt = p then smF hw' who' co' p n + co' n else smF hw' who' co' p n)
    rw [a, b, c, smF_e n (fun i hi => h i (Nat.lt_succ_of_lt hi))]
theorem adI {a b : Int32} {y : Int} (h : (an_f 0 (Int32.ofInt a.toInt) (Int32.ofInt b.toInt)).toInt = y) : y = (a + b).toInt := by
  rw [← h, oI, oI]
  rfl
set_option maxRecDepth 20000 in
theorem x_slb {σ : pm_S} {p : Int} (hp : 0 ≤ p ∧ p ≤ 9) {D : Nat} (hD : D ≤ 30) (eD : sI σ 13 0 = (D : Int)) : ∀ (k n : Nat) (τ : pm_S), n + k = D → an_GB pm_B τ → FQ [] σ τ → Ok 6 5 4 [.ref 13, .int (Int32.ofInt p), .int (Int32.ofInt (smF (σ.1 20) (σ.1 14) (σ.1 16) p n).toInt), .int (Int32.ofInt (n : Int))] [] τ (fun r τ => r = some (.int (smF (σ.1 20) (σ.1 14) (σ.1 16) p D)) ∧ an_GB pm_B τ ∧ FQ [] σ τ) := by
  intro k
  induction k with
  | zero =>
    intro n τ hn hB F
    refine zo_b4 p (smF (σ.1 20) (σ.1 14) (σ.1 16) p n).toInt n D hB ⟨hp, ai_rng _, by omega, by omega, trivial⟩ ⟨(congrArg Int32.toInt (F 13 0 rfl)).trans eD, trivial⟩ ?_
    intro τ1 y1 hB1 F1 _ _ _ _
    refine Ok.ic rfl rfl (by omega) (by omega) (by omega) (by omega) (fun h => ?_) (fun h => ?_)
    · refine zo_b29 p (smF (σ.1 20) (σ.1 14) (σ.1 16) p n).toInt n hB1 ⟨hp, ai_rng _, by omega, trivial⟩ ?_
      intro τ2 y2 hB2 F2 _ _ _ _
      rw [show n = D by omega, oI]
      exact ⟨rfl, hB2, FQ.tr F (FQ.tr F1 F2)⟩
    · have h : (n : Int) < (D : Int) := h
      exfalso
      omega
  | succ k ih =>
    intro n τ hn hB F
    have en : ((n : Int)).toNat = n := by omega
    refine zo_b4 p (smF (σ.1 20) (σ.1 14) (σ.1 16) p n).toInt n D hB ⟨hp, ai_rng _, by omega, by omega, trivial⟩ ⟨(congrArg Int32.toInt (F 13 0 rfl)).trans eD, trivial⟩ ?_
    intro τ1 y1 hB1 F1 _ _ _ _
    refine Ok.ic rfl rfl (by omega) (by omega) (by omega) (by omega) (fun h => ?_) (fun h => ?_)
    · have h : (D : Int) ≤ (n : Int) := h
      exfalso
      omega
    have G1 : FQ [] σ τ1 := FQ.tr F F1
    refine zo_b8 p (smF (σ.1 20) (σ.1 14) (σ.1 16) p n).toInt n hB1 ⟨hp, ai_rng _, by omega, trivial⟩ ?_
    intro τ2 y2 hB2 F2 _ _ _ _
    have G2 : FQ [] σ τ2 := FQ.tr G1 F2
    refine Ok.cv rfl rfl rfl rfl rfl rfl rfl ?_
    refine (x_opD n D hD (by omega) ((congrArg Int32.toInt (G2 13 0 rfl)).trans eD) hB2).use (by decide) (fun r τ3 q => ?_)
    obtain ⟨rfl, hB3, F3⟩ := q
    have G3 : FQ [] σ τ3 := FQ.tr G2 F3
    have e20 : τ2.1 20 n = σ.1 20 n := G2 20 n rfl
    rw [e20]
    have bw : 0 ≤ sI τ3 14 n ∧ sI τ3 14 n ≤ 9 := hB3 14 n (show n < 30 by omega)
    have ew : sI τ3 14 n = sI σ 14 n := congrArg Int32.toInt (G3 14 n rfl)
    by_cases c : σ.1 20 n = 0
    · have z : b01 (decide (σ.1 20 n = 0)) = .int (Int32.ofInt 1) := by
        rw [decide_eq_true c]
        rfl
      rw [z]
      refine zo_b12 p (smF (σ.1 20) (σ.1 14) (σ.1 16) p n).toInt n 1 (sI τ3 14 n) hB3 ⟨hp, ai_rng _, by omega, by decide, bw, trivial⟩ ⟨by rw [en], trivial⟩ ?_ ?_
      · intro τ4 y4 hB4 F4 f4 _ _ _
        exfalso
        have := f4.2.2.2.1
        omega
      · intro τ4 y4 hB4 F4 _ _ _ _
        have G4 : FQ [] σ τ4 := FQ.tr G3 F4
        refine Ok.ic rfl rfl (by omega) (by omega) (by omega) (by omega) (fun g => ?_) (fun g => ?_)
        · have g : sI τ3 14 n ≠ p := g
          refine zo_b24 p (smF (σ.1 20) (σ.1 14) (σ.1 16) p n).toInt n hB4 ⟨hp, ai_rng _, by omega, trivial⟩ ?_
          intro τ5 y5 hB5 F5 _ _ _ _
          rw [← smF_n (hw := σ.1 20) (who := σ.1 14) (co := σ.1 16) (p := p) (n := n) (fun w => g (ew.trans w.2)), show (n : Int) + 1 = ((n + 1 : Nat) : Int) by omega]
          exact ih (n + 1) τ5 (by omega) hB5 (FQ.tr G4 F5)
        · have g : sI τ3 14 n = p := g
          refine zo_b19 p (smF (σ.1 20) (σ.1 14) (σ.1 16) p n).toInt n (sI τ4 16 n) hB4 ⟨hp, ai_rng _, by omega, ai_rng _, trivial⟩ ⟨by rw [en], trivial⟩ ?_
          intro τ5 y5 hB5 F5 _ _ d5 _
          have z5 := adI d5.1
          rw [show τ4.1 16 n = σ.1 16 n from G4 16 n rfl] at z5
          rw [z5, ← smF_y (hw := σ.1 20) (who := σ.1 14) (co := σ.1 16) (p := p) (n := n) ⟨c, ew.symm.trans g⟩, show (n : Int) + 1 = ((n + 1 : Nat) : Int) by omega]
          exact ih (n + 1) τ5 (by omega) hB5 (FQ.tr G4 F5)
    · have z : b01 (decide (σ.1 20 n = 0)) = .int (Int32.ofInt 0) := by
        rw [decide_eq_false c]
        rfl
      rw [z]
      refine zo_b12 p (smF (σ.1 20) (σ.1 14) (σ.1 16) p n).toInt n 0 (sI τ3 14 n) hB3 ⟨hp, ai_rng _, by omega, by decide, bw, trivial⟩ ⟨by rw [en], trivial⟩ ?_ ?_
      · intro τ4 y4 hB4 F4 _ _ _ _
        rw [← smF_n (hw := σ.1 20) (who := σ.1 14) (co := σ.1 16) (p := p) (n := n) (fun w => c w.1), show (n : Int) + 1 = ((n + 1 : Nat) : Int) by omega]
        exact ih (n + 1) τ4 (by omega) hB4 (FQ.tr G3 F4)
      · intro τ4 y4 hB4 F4 f4 _ _ _
        exfalso
        have := f4.2.2.2.1
        omega
theorem x_sb {σ : pm_S} {p : Int} (hp : 0 ≤ p ∧ p ≤ 9) {D : Nat} (hD : D ≤ 30) (eD : sI σ 13 0 = (D : Int)) (hB : an_GB pm_B σ) : Sp 6 5 [.ref 13, .int (Int32.ofInt p)] σ (fun r τ => r = some (.int (smF (σ.1 20) (σ.1 14) (σ.1 16) p D)) ∧ an_GB pm_B τ ∧ FQ [] σ τ) := by
  refine Sp.at rfl rfl ?_
  refine zo_b0 p _ _ rfl rfl hB ⟨hp, trivial⟩ ?_
  intro τ1 y1 hB1 F1 _ _ _ _
  exact x_slb hp hD eD D 0 τ1 (Nat.zero_add _) hB1 F1
set_option maxRecDepth 20000 in
theorem x_slt {σ : pm_S} {p : Int} (hp : 0 ≤ p ∧ p ≤ 9) {D : Nat} (hD : D ≤ 30) (eD : sI σ 13 0 = (D : Int)) : ∀ (k n : Nat) (τ : pm_S), n + k = D → an_GB pm_B τ → FQ [] σ τ → Ok 7 5 4 [.ref 13, .int (Int32.ofInt p), .int (Int32.ofInt (smF (σ.1 20) (σ.1 15) (σ.1 16) p n).toInt), .int (Int32.ofInt (n : Int))] [] τ (fun r τ => r = some (.int (smF (σ.1 20) (σ.1 15) (σ.1 16) p D)) ∧ an_GB pm_B τ ∧ FQ [] σ τ) := by
  intro k
  induction k with
  | zero =>
    intro n τ hn hB F
    refine zo_t4 p (smF (σ.1 20) (σ.1 15) (σ.1 16) p n).toInt n D hB ⟨hp, ai_rng _, by omega, by omega, trivial⟩ ⟨(congrArg Int32.toInt (F 13 0 rfl)).trans eD, trivial⟩ ?_
    intro τ1 y1 hB1 F1 _ _ _ _
    refine Ok.ic rfl rfl (by omega) (by omega) (by omega) (by omega) (fun h => ?_) (fun h => ?_)
    · refine zo_t29 p (smF (σ.1 20) (σ.1 15) (σ.1 16) p n).toInt n hB1 ⟨hp, ai_rng _, by omega, trivial⟩ ?_
      intro τ2 y2 hB2 F2 _ _ _ _
      rw [show n = D by omega, oI]
      exact ⟨rfl, hB2, FQ.tr F (FQ.tr F1 F2)⟩
    · have h : (n : Int) < (D : Int) := h
      exfalso
      omega
  | succ k ih =>
    intro n τ hn hB F
    have en : ((n : Int)).toNat = n := by omega
    refine zo_t4 p (smF (σ.1 20) (σ.1 15) (σ.1 16) p n).toInt n D hB ⟨hp, ai_rng _, by omega, by omega, trivial⟩ ⟨(congrArg Int32.toInt (F 13 0 rfl)).trans eD, trivial⟩ ?_
    intro τ1 y1 hB1 F1 _ _ _ _
    refine Ok.ic rfl rfl (by omega) (by omega) (by omega) (by omega) (fun h => ?_) (fun h => ?_)
    · have h : (D : Int) ≤ (n : Int) := h
      exfalso
      omega
    have G1 : FQ [] σ τ1 := FQ.tr F F1
    refine zo_t8 p (smF (σ.1 20) (σ.1 15) (σ.1 16) p n).toInt n hB1 ⟨hp, ai_rng _, by omega, trivial⟩ ?_
    intro τ2 y2 hB2 F2 _ _ _ _
    have G2 : FQ [] σ τ2 := FQ.tr G1 F2
    refine Ok.cv rfl rfl rfl rfl rfl rfl rfl ?_
    refine (x_opD n D hD (by omega) ((congrArg Int32.toInt (G2 13 0 rfl)).trans eD) hB2).use (by decide) (fun r τ3 q => ?_)
    obtain ⟨rfl, hB3, F3⟩ := q
    have G3 : FQ [] σ τ3 := FQ.tr G2 F3
    have e20 : τ2.1 20 n = σ.1 20 n := G2 20 n rfl
    rw [e20]
    have bw : 0 ≤ sI τ3 15 n ∧ sI τ3 15 n ≤ 9 := hB3 15 n (show n < 30 by omega)
    have ew : sI τ3 15 n = sI σ 15 n := congrArg Int32.toInt (G3 15 n rfl)
    by_cases c : σ.1 20 n = 0
    · have z : b01 (decide (σ.1 20 n = 0)) = .int (Int32.ofInt 1) := by
        rw [decide_eq_true c]
        rfl
      rw [z]
      refine zo_t12 p (smF (σ.1 20) (σ.1 15) (σ.1 16) p n).toInt n 1 (sI τ3 15 n) hB3 ⟨hp, ai_rng _, by omega, by decide, bw, trivial⟩ ⟨by rw [en], trivial⟩ ?_ ?_
      · intro τ4 y4 hB4 F4 f4 _ _ _
        exfalso
        have := f4.2.2.2.1
        omega
      · intro τ4 y4 hB4 F4 _ _ _ _
        have G4 : FQ [] σ τ4 := FQ.tr G3 F4
        refine Ok.ic rfl rfl (by omega) (by omega) (by omega) (by omega) (fun g => ?_) (fun g => ?_)
        · have g : sI τ3 15 n ≠ p := g
          refine zo_t24 p (smF (σ.1 20) (σ.1 15) (σ.1 16) p n).toInt n hB4 ⟨hp, ai_rng _, by omega, trivial⟩ ?_
          intro τ5 y5 hB5 F5 _ _ _ _
          rw [← smF_n (hw := σ.1 20) (who := σ.1 15) (co := σ.1 16) (p := p) (n := n) (fun w => g (ew.trans w.2)), show (n : Int) + 1 = ((n + 1 : Nat) : Int) by omega]
          exact ih (n + 1) τ5 (by omega) hB5 (FQ.tr G4 F5)
        · have g : sI τ3 15 n = p := g
          refine zo_t19 p (smF (σ.1 20) (σ.1 15) (σ.1 16) p n).toInt n (sI τ4 16 n) hB4 ⟨hp, ai_rng _, by omega, ai_rng _, trivial⟩ ⟨by rw [en], trivial⟩ ?_
          intro τ5 y5 hB5 F5 _ _ d5 _
          have z5 := adI d5.1
          rw [show τ4.1 16 n = σ.1 16 n from G4 16 n rfl] at z5
          rw [z5, ← smF_y (hw := σ.1 20) (who := σ.1 15) (co := σ.1 16) (p := p) (n := n) ⟨c, ew.symm.trans g⟩, show (n : Int) + 1 = ((n + 1 : Nat) : Int) by omega]
          exact ih (n + 1) τ5 (by omega) hB5 (FQ.tr G4 F5)
    · have z : b01 (decide (σ.1 20 n = 0)) = .int (Int32.ofInt 0) := by
        rw [decide_eq_false c]
        rfl
      rw [z]
      refine zo_t12 p (smF (σ.1 20) (σ.1 15) (σ.1 16) p n).toInt n 0 (sI τ3 15 n) hB3 ⟨hp, ai_rng _, by omega, by decide, bw, trivial⟩ ⟨by rw [en], trivial⟩ ?_ ?_
      · intro τ4 y4 hB4 F4 _ _ _ _
        rw [← smF_n (hw := σ.1 20) (who := σ.1 15) (co := σ.1 16) (p := p) (n := n) (fun w => c w.1), show (n : Int) + 1 = ((n + 1 : Nat) : Int) by omega]
        exact ih (n + 1) τ4 (by omega) hB4 (FQ.tr G3 F4)
      · intro τ4 y4 hB4 F4 f4 _ _ _
        exfalso
        have := f4.2.2.2.1
        omega
theorem x_st {σ : pm_S} {p : Int} (hp : 0 ≤ p ∧ p ≤ 9) {D : Nat} (hD : D ≤ 30) (eD : sI σ 13 0 = (D : Int)) (hB : an_GB pm_B σ) : Sp 7 5 [.ref 13, .int (Int32.ofInt p)] σ (fun r τ => r = some (.int (smF (σ.1 20) (σ.1 15) (σ.1 16) p D)) ∧ an_GB pm_B τ ∧ FQ [] σ τ) := by
  refine Sp.at rfl rfl ?_
  refine zo_t0 p _ _ rfl rfl hB ⟨hp, trivial⟩ ?_
  intro τ1 y1 hB1 F1 _ _ _ _
  exact x_slt hp hD eD D 0 τ1 (Nat.zero_add _) hB1 F1
set_option maxRecDepth 20000 in
theorem x_sm5 {σ : pm_S} {p : Int} (hp : 0 ≤ p ∧ p ≤ 9) {D : Nat} (hD : D ≤ 30) (eD : sI σ 93 11 = (D : Int)) : ∀ (k n : Nat) (τ : pm_S), n + k = D → an_GB pm_B τ → FQ [] σ τ → Ok 213 5 4 [.ref 93, .int (Int32.ofInt p), .int (Int32.ofInt 1), .int (Int32.ofInt (smF (σ.1 107) (σ.1 101) (σ.1 103) p n).toInt), .int (Int32.ofInt (n : Int))] [] τ (fun r τ => r = some (.int (smF (σ.1 107) (σ.1 101) (σ.1 103) p D)) ∧ an_GB pm_B τ ∧ FQ [] σ τ) := by
  intro k
  induction k with
  | zero =>
    intro n τ hn hB F
    refine zq_54 p (smF (σ.1 107) (σ.1 101) (σ.1 103) p n).toInt n D hB ⟨hp, ai_rng _, by omega, by omega, trivial⟩ ⟨(congrArg Int32.toInt (F 93 11 rfl)).trans eD, trivial⟩ ?_
    intro τ1 y1 hB1 F1 _ _ _ _
    refine Ok.ic rfl rfl (by omega) (by omega) (by omega) (by omega) (fun h => ?_) (fun h => ?_)
    · refine zq_534 p (smF (σ.1 107) (σ.1 101) (σ.1 103) p n).toInt n hB1 ⟨hp, ai_rng _, by omega, trivial⟩ ?_
      intro τ2 y2 hB2 F2 _ _ _ _
      rw [show n = D by omega, oI]
      exact ⟨rfl, hB2, FQ.tr F (FQ.tr F1 F2)⟩
    · have h : (n : Int) < (D : Int) := h
      exfalso
      omega
  | succ k ih =>
    intro n τ hn hB F
    have en : ((n : Int)).toNat = n := by omega
    refine zq_54 p (smF (σ.1 107) (σ.1 101) (σ.1 103) p n).toInt n D hB ⟨hp, ai_rng _, by omega, by omega, trivial⟩ ⟨(congrArg Int32.toInt (F 93 11 rfl)).trans eD, trivial⟩ ?_
    intro τ1 y1 hB1 F1 _ _ _ _
    refine Ok.ic rfl rfl (by omega) (by omega) (by omega) (by omega) (fun h => ?_) (fun h => ?_)
    · have h : (D : Int) ≤ (n : Int) := h
      exfalso
      omega
    have G1 : FQ [] σ τ1 := FQ.tr F F1
    have bw : 0 ≤ sI τ1 101 n ∧ sI τ1 101 n ≤ 9 := hB1 101 n (show n < 30 by omega)
    have ew : sI τ1 101 n = sI σ 101 n := congrArg Int32.toInt (G1 101 n rfl)
    have e7 : sI τ1 107 n = sI σ 107 n := congrArg Int32.toInt (G1 107 n rfl)
    refine zq_58 p (smF (σ.1 107) (σ.1 101) (σ.1 103) p n).toInt n (sI τ1 107 n) (sI τ1 101 n) hB1 ⟨hp, ai_rng _, by omega, ai_rng _, bw, trivial⟩ ⟨by rw [en], by rw [en], trivial⟩ ?_ ?_
    · intro τ4 y4 hB4 F4 _ r4 _ _
      have r := r4.1
      have G4 : FQ [] σ τ4 := FQ.tr G1 F4
      refine zq_532 p (smF (σ.1 107) (σ.1 101) (σ.1 103) p n).toInt n hB4 ⟨hp, ai_rng _, by omega, trivial⟩ ?_
      intro τ5 y5 hB5 F5 _ _ _ _
      rw [← smF_n (hw := σ.1 107) (who := σ.1 101) (co := σ.1 103) (p := p) (n := n) (fun w => r (by rw [e7]; show (σ.1 107 n).toInt = 0; rw [w.1]; rfl)), show (n : Int) + 1 = ((n + 1 : Nat) : Int) by omega]
      exact ih (n + 1) τ5 (by omega) hB5 (FQ.tr G4 F5)
    · intro τ4 y4 hB4 F4 f4 _ _ _
      have f := f4.2.2.2.1
      have G4 : FQ [] σ τ4 := FQ.tr G1 F4
      have c : σ.1 107 n = 0 := Int32.toInt_inj.mp (by
        show sI σ 107 n = 0
        omega)
      refine Ok.ic rfl rfl (by omega) (by omega) (by omega) (by omega) (fun g => ?_) (fun g => ?_)
      · have g : sI τ1 101 n ≠ p := g
        refine zq_532 p (smF (σ.1 107) (σ.1 101) (σ.1 103) p n).toInt n hB4 ⟨hp, ai_rng _, by omega, trivial⟩ ?_
        intro τ5 y5 hB5 F5 _ _ _ _
        rw [← smF_n (hw := σ.1 107) (who := σ.1 101) (co := σ.1 103) (p := p) (n := n) (fun w => g (ew.trans w.2)), show (n : Int) + 1 = ((n + 1 : Nat) : Int) by omega]
        exact ih (n + 1) τ5 (by omega) hB5 (FQ.tr G4 F5)
      · have g : sI τ1 101 n = p := g
        refine zq_525 p (smF (σ.1 107) (σ.1 101) (σ.1 103) p n).toInt n (sI τ4 103 n) hB4 ⟨hp, ai_rng _, by omega, ai_rng _, trivial⟩ ⟨by rw [en], trivial⟩ ?_
        intro τ5 y5 hB5 F5 _ _ d5 _
        have z5 := adI d5.1
        rw [show τ4.1 103 n = σ.1 103 n from G4 103 n rfl] at z5
        rw [z5, ← smF_y (hw := σ.1 107) (who := σ.1 101) (co := σ.1 103) (p := p) (n := n) ⟨c, ew.symm.trans g⟩, show (n : Int) + 1 = ((n + 1 : Nat) : Int) by omega]
        exact ih (n + 1) τ5 (by omega) hB5 (FQ.tr G4 F5)
theorem x_so5 {σ : pm_S} {p : Int} (hp : 0 ≤ p ∧ p ≤ 9) {D : Nat} (hD : D ≤ 30) (eD : sI σ 93 11 = (D : Int)) (hB : an_GB pm_B σ) : Sp 213 5 [.ref 93, .int (Int32.ofInt p), .int (Int32.ofInt 1)] σ (fun r τ => r = some (.int (smF (σ.1 107) (σ.1 101) (σ.1 103) p D)) ∧ an_GB pm_B τ ∧ FQ [] σ τ) := by
  refine Sp.at rfl rfl ?_
  refine zq_50 p _ _ rfl rfl hB ⟨hp, trivial⟩ ?_
  intro τ1 y1 hB1 F1 _ _ _ _
  exact x_sm5 hp hD eD D 0 τ1 (Nat.zero_add _) hB1 F1
set_option maxRecDepth 20000 in
theorem x_sm6 {σ : pm_S} {p : Int} (hp : 0 ≤ p ∧ p ≤ 9) {D : Nat} (hD : D ≤ 30) (eD : sI σ 93 11 = (D : Int)) : ∀ (k n : Nat) (τ : pm_S), n + k = D → an_GB pm_B τ → FQ [] σ τ → Ok 213 5 4 [.ref 93, .int (Int32.ofInt p), .int (Int32.ofInt 0), .int (Int32.ofInt (smF (σ.1 107) (σ.1 102) (σ.1 103) p n).toInt), .int (Int32.ofInt (n : Int))] [] τ (fun r τ => r = some (.int (smF (σ.1 107) (σ.1 102) (σ.1 103) p D)) ∧ an_GB pm_B τ ∧ FQ [] σ τ) := by
  intro k
  induction k with
  | zero =>
    intro n τ hn hB F
    refine zq_64 p (smF (σ.1 107) (σ.1 102) (σ.1 103) p n).toInt n D hB ⟨hp, ai_rng _, by omega, by omega, trivial⟩ ⟨(congrArg Int32.toInt (F 93 11 rfl)).trans eD, trivial⟩ ?_
    intro τ1 y1 hB1 F1 _ _ _ _
    refine Ok.ic rfl rfl (by omega) (by omega) (by omega) (by omega) (fun h => ?_) (fun h => ?_)
    · refine zq_634 p (smF (σ.1 107) (σ.1 102) (σ.1 103) p n).toInt n hB1 ⟨hp, ai_rng _, by omega, trivial⟩ ?_
      intro τ2 y2 hB2 F2 _ _ _ _
      rw [show n = D by omega, oI]
      exact ⟨rfl, hB2, FQ.tr F (FQ.tr F1 F2)⟩
    · have h : (n : Int) < (D : Int) := h
      exfalso
      omega
  | succ k ih =>
    intro n τ hn hB F
    have en : ((n : Int)).toNat = n := by omega
    refine zq_64 p (smF (σ.1 107) (σ.1 102) (σ.1 103) p n).toInt n D hB ⟨hp, ai_rng _, by omega, by omega, trivial⟩ ⟨(congrArg Int32.toInt (F 93 11 rfl)).trans eD, trivial⟩ ?_
    intro τ1 y1 hB1 F1 _ _ _ _
    refine Ok.ic rfl rfl (by omega) (by omega) (by omega) (by omega) (fun h => ?_) (fun h => ?_)
    · have h : (D : Int) ≤ (n : Int) := h
      exfalso
      omega
    have G1 : FQ [] σ τ1 := FQ.tr F F1
    have bw : 0 ≤ sI τ1 102 n ∧ sI τ1 102 n ≤ 9 := hB1 102 n (show n < 30 by omega)
    have ew : sI τ1 102 n = sI σ 102 n := congrArg Int32.toInt (G1 102 n rfl)
    have e7 : sI τ1 107 n = sI σ 107 n := congrArg Int32.toInt (G1 107 n rfl)
    refine zq_68 p (smF (σ.1 107) (σ.1 102) (σ.1 103) p n).toInt n (sI τ1 107 n) (sI τ1 102 n) hB1 ⟨hp, ai_rng _, by omega, ai_rng _, bw, trivial⟩ ⟨by rw [en], by rw [en], trivial⟩ ?_ ?_
    · intro τ4 y4 hB4 F4 _ r4 _ _
      have r := r4.1
      have G4 : FQ [] σ τ4 := FQ.tr G1 F4
      refine zq_632 p (smF (σ.1 107) (σ.1 102) (σ.1 103) p n).toInt n hB4 ⟨hp, ai_rng _, by omega, trivial⟩ ?_
      intro τ5 y5 hB5 F5 _ _ _ _
      rw [← smF_n (hw := σ.1 107) (who := σ.1 102) (co := σ.1 103) (p := p) (n := n) (fun w => r (by rw [e7]; show (σ.1 107 n).toInt = 0; rw [w.1]; rfl)), show (n : Int) + 1 = ((n + 1 : Nat) : Int) by omega]
      exact ih (n + 1) τ5 (by omega) hB5 (FQ.tr G4 F5)
    · intro τ4 y4 hB4 F4 f4 _ _ _
      have f := f4.2.2.2.1
      have G4 : FQ [] σ τ4 := FQ.tr G1 F4
      have c : σ.1 107 n = 0 := Int32.toInt_inj.mp (by
        show sI σ 107 n = 0
        omega)
      refine Ok.ic rfl rfl (by omega) (by omega) (by omega) (by omega) (fun g => ?_) (fun g => ?_)
      · have g : sI τ1 102 n ≠ p := g
        refine zq_632 p (smF (σ.1 107) (σ.1 102) (σ.1 103) p n).toInt n hB4 ⟨hp, ai_rng _, by omega, trivial⟩ ?_
        intro τ5 y5 hB5 F5 _ _ _ _
        rw [← smF_n (hw := σ.1 107) (who := σ.1 102) (co := σ.1 103) (p := p) (n := n) (fun w => g (ew.trans w.2)), show (n : Int) + 1 = ((n + 1 : Nat) : Int) by omega]
        exact ih (n + 1) τ5 (by omega) hB5 (FQ.tr G4 F5)
      · have g : sI τ1 102 n = p := g
        refine zq_625 p (smF (σ.1 107) (σ.1 102) (σ.1 103) p n).toInt n (sI τ4 103 n) hB4 ⟨hp, ai_rng _, by omega, ai_rng _, trivial⟩ ⟨by rw [en], trivial⟩ ?_
        intro τ5 y5 hB5 F5 _ _ d5 _
        have z5 := adI d5.1
        rw [show τ4.1 103 n = σ.1 103 n from G4 103 n rfl] at z5
        rw [z5, ← smF_y (hw := σ.1 107) (who := σ.1 102) (co := σ.1 103) (p := p) (n := n) ⟨c, ew.symm.trans g⟩, show (n : Int) + 1 = ((n + 1 : Nat) : Int) by omega]
        exact ih (n + 1) τ5 (by omega) hB5 (FQ.tr G4 F5)
theorem x_so6 {σ : pm_S} {p : Int} (hp : 0 ≤ p ∧ p ≤ 9) {D : Nat} (hD : D ≤ 30) (eD : sI σ 93 11 = (D : Int)) (hB : an_GB pm_B σ) : Sp 213 5 [.ref 93, .int (Int32.ofInt p), .int (Int32.ofInt 0)] σ (fun r τ => r = some (.int (smF (σ.1 107) (σ.1 102) (σ.1 103) p D)) ∧ an_GB pm_B τ ∧ FQ [] σ τ) := by
  refine Sp.at rfl rfl ?_
  refine zq_60 p _ _ rfl rfl hB ⟨hp, trivial⟩ ?_
  intro τ1 y1 hB1 F1 _ _ _ _
  exact x_sm6 hp hD eD D 0 τ1 (Nat.zero_add _) hB1 F1
/-- what is told -/
def ofV (v0 v1 v2 v3 v4 v5 v6 w : Int) : Int := if w = 0 then v0 else if w = 1 then v1 else if w = 2 then v2 else if w = 3 then v3 else if w = 4 then v4 else if w = 5 then v5 else if w = 6 then v6 else -2
set_option maxRecDepth 20000 in
theorem x_ofc {σ : pm_S} (p w : Int) (hp : (-2147483648) ≤ p ∧ p ≤ 2147483647) (hw : (-2147483648) ≤ w ∧ w ≤ 2147483647) {D N : Nat} (hD : D ≤ 30) (hN : N ≤ 10) (eD : sI σ 13 0 = (D : Int)) (eN : sI σ 7 0 = (N : Int)) (hB : an_GB pm_B σ) : Sp 141 22 [.ref 0, .int (Int32.ofInt p), .int (Int32.ofInt w)] σ (fun r τ => an_GB pm_B τ ∧ FQ [] σ τ ∧ ((¬ (0 ≤ p ∧ p < (N : Int)) ∧ r = some (.int (Int32.ofInt (-2)))) ∨ ((0 ≤ p ∧ p < (N : Int)) ∧ r = some (.int (Int32.ofInt (ofV (sI σ 8 p.toNat) (sI σ 9 p.toNat) (sI σ 10 p.toNat) (sI σ 11 p.toNat) (sI σ 12 p.toNat) (smF (σ.1 20) (σ.1 14) (σ.1 16) p D).toInt (smF (σ.1 20) (σ.1 15) (σ.1 16) p D).toInt w)))))) := by
  refine Sp.at rfl rfl ?_
  refine zc_o0 p w hB ⟨hp, hw, trivial⟩ ?_
  intro τ1 y1 hB1 F1 _ _ _ _
  refine Ok.cv rfl rfl rfl rfl rfl rfl rfl ?_
  refine (x_h61 p (N : Int) hB1 hp ((congrArg Int32.toInt (F1 7 0 rfl)).trans eN)).use (by decide) (fun r τ2 q => ?_)
  obtain ⟨hB2, F2, ⟨q, rfl, -⟩ | ⟨q, rfl, -⟩⟩ := q
  · refine zc_o5n p w hB2 ⟨hp, hw, trivial⟩ ?_
    intro τ3 y3 hB3 F3 _ _ _ _
    exact ⟨hB3, FQ.tr (FQ.up rfl F1) (FQ.up (G := []) rfl (FQ.tr F2 F3)), Or.inl ⟨q, rfl⟩⟩
  have b0 : 0 ≤ sI τ2 8 p.toNat ∧ sI τ2 8 p.toNat ≤ 9 := hB2 8 p.toNat (show p.toNat < 10 by omega)
  have e0 : sI τ2 8 p.toNat = sI σ 8 p.toNat := congrArg Int32.toInt ((F2 8 _ rfl).trans (F1 8 _ rfl))
  have e1 : sI τ2 9 p.toNat = sI σ 9 p.toNat := congrArg Int32.toInt ((F2 9 _ rfl).trans (F1 9 _ rfl))
  have e2 : sI τ2 10 p.toNat = sI σ 10 p.toNat := congrArg Int32.toInt ((F2 10 _ rfl).trans (F1 10 _ rfl))
  have b3 : 0 ≤ sI τ2 11 p.toNat ∧ sI τ2 11 p.toNat ≤ 9 := hB2 11 p.toNat (show p.toNat < 10 by omega)
  have e3 : sI τ2 11 p.toNat = sI σ 11 p.toNat := congrArg Int32.toInt ((F2 11 _ rfl).trans (F1 11 _ rfl))
  have b4 : (-1) ≤ sI τ2 12 p.toNat ∧ sI τ2 12 p.toNat ≤ 9 := hB2 12 p.toNat (show p.toNat < 10 by omega)
  have e4 : sI τ2 12 p.toNat = sI σ 12 p.toNat := congrArg Int32.toInt ((F2 12 _ rfl).trans (F1 12 _ rfl))
  have G2 : FQ [] σ τ2 := FQ.tr (FQ.up rfl F1) (FQ.up (G := []) rfl F2)
  refine zc_o5 p w (sI τ2 8 p.toNat) (sI τ2 9 p.toNat) (sI τ2 10 p.toNat) (sI τ2 11 p.toNat) (sI τ2 12 p.toNat) hB2 ⟨⟨by omega, by omega⟩, hw, b0, ai_rng _, ai_rng _, b3, b4, trivial⟩ ⟨rfl, rfl, rfl, rfl, rfl, trivial⟩ ?_ ?_ ?_ ?_ ?_ ?_ ?_ ?_
  · intro τ3 y3 hB3 F3 f rl _ _
    have f1 := f.2.1
    have r0 := rl.1
    have r1 := rl.2.1
    have r2 := rl.2.2.1
    have r3 := rl.2.2.2.1
    have r4 := rl.2.2.2.2.1
    have r5 := rl.2.2.2.2.2.1
    have r6 := rl.2.2.2.2.2.2.1
    have G3 : FQ [] σ τ3 := FQ.tr G2 (FQ.up (G := []) rfl F3)
    have ev : ofV (sI σ 8 p.toNat) (sI σ 9 p.toNat) (sI σ 10 p.toNat) (sI σ 11 p.toNat) (sI σ 12 p.toNat) (smF (σ.1 20) (σ.1 14) (σ.1 16) p D).toInt (smF (σ.1 20) (σ.1 15) (σ.1 16) p D).toInt w = -2 := by
      unfold ofV; rw [if_neg (by omega), if_neg (by omega), if_neg (by omega), if_neg (by omega), if_neg (by omega), if_neg (by omega), if_neg (by omega)]
    refine ⟨hB3, G3, Or.inr ⟨q, ?_⟩⟩
    rw [ev]
  · intro τ3 y3 hB3 F3 f rl _ _
    have f1 := f.2.1
    have G3 : FQ [] σ τ3 := FQ.tr G2 (FQ.up (G := []) rfl F3)
    refine Ok.cv rfl rfl rfl rfl rfl rfl rfl ?_
    refine (x_st (p := p) ⟨by omega, by omega⟩ hD ((congrArg Int32.toInt (G3 13 0 rfl)).trans eD) hB3).use (by decide) (fun r τ4 h => ?_)
    obtain ⟨rfl, hB4, F4⟩ := h
    rw [row_fq G3 (P := 20) rfl, row_fq G3 (P := 15) rfl, row_fq G3 (P := 16) rfl]
    have ev : ofV (sI σ 8 p.toNat) (sI σ 9 p.toNat) (sI σ 10 p.toNat) (sI σ 11 p.toNat) (sI σ 12 p.toNat) (smF (σ.1 20) (σ.1 14) (σ.1 16) p D).toInt (smF (σ.1 20) (σ.1 15) (σ.1 16) p D).toInt w = (smF (σ.1 20) (σ.1 15) (σ.1 16) p D).toInt := by
      unfold ofV; rw [if_neg (by omega), if_neg (by omega), if_neg (by omega), if_neg (by omega), if_neg (by omega), if_neg (by omega), if_pos (by omega)]
    rw [show Value.int (smF (σ.1 20) (σ.1 15) (σ.1 16) p D) = Value.int (Int32.ofInt (smF (σ.1 20) (σ.1 15) (σ.1 16) p D).toInt) by rw [oI]]
    refine zc_o56 p w (smF (σ.1 20) (σ.1 15) (σ.1 16) p D).toInt hB4 ⟨⟨by omega, by omega⟩, hw, ai_rng _, trivial⟩ ?_
    intro τ5 y5 hB5 F5 _ _ _ _
    refine ⟨hB5, FQ.tr G3 (FQ.up (G := []) rfl (FQ.tr F4 F5)), Or.inr ⟨q, ?_⟩⟩
    rw [ev]
  · intro τ3 y3 hB3 F3 f rl _ _
    have f1 := f.2.1
    have G3 : FQ [] σ τ3 := FQ.tr G2 (FQ.up (G := []) rfl F3)
    refine Ok.cv rfl rfl rfl rfl rfl rfl rfl ?_
    refine (x_sb (p := p) ⟨by omega, by omega⟩ hD ((congrArg Int32.toInt (G3 13 0 rfl)).trans eD) hB3).use (by decide) (fun r τ4 h => ?_)
    obtain ⟨rfl, hB4, F4⟩ := h
    rw [row_fq G3 (P := 20) rfl, row_fq G3 (P := 14) rfl, row_fq G3 (P := 16) rfl]
    have ev : ofV (sI σ 8 p.toNat) (sI σ 9 p.toNat) (sI σ 10 p.toNat) (sI σ 11 p.toNat) (sI σ 12 p.toNat) (smF (σ.1 20) (σ.1 14) (σ.1 16) p D).toInt (smF (σ.1 20) (σ.1 15) (σ.1 16) p D).toInt w = (smF (σ.1 20) (σ.1 14) (σ.1 16) p D).toInt := by
      unfold ofV; rw [if_neg (by omega), if_neg (by omega), if_neg (by omega), if_neg (by omega), if_neg (by omega), if_pos (by omega)]
    rw [show Value.int (smF (σ.1 20) (σ.1 14) (σ.1 16) p D) = Value.int (Int32.ofInt (smF (σ.1 20) (σ.1 14) (σ.1 16) p D).toInt) by rw [oI]]
    refine zc_o50 p w (smF (σ.1 20) (σ.1 14) (σ.1 16) p D).toInt hB4 ⟨⟨by omega, by omega⟩, hw, ai_rng _, trivial⟩ ?_
    intro τ5 y5 hB5 F5 _ _ _ _
    refine ⟨hB5, FQ.tr G3 (FQ.up (G := []) rfl (FQ.tr F4 F5)), Or.inr ⟨q, ?_⟩⟩
    rw [ev]
  · intro τ3 y3 hB3 F3 f rl _ _
    have f1 := f.2.1
    have G3 : FQ [] σ τ3 := FQ.tr G2 (FQ.up (G := []) rfl F3)
    have ev : ofV (sI σ 8 p.toNat) (sI σ 9 p.toNat) (sI σ 10 p.toNat) (sI σ 11 p.toNat) (sI σ 12 p.toNat) (smF (σ.1 20) (σ.1 14) (σ.1 16) p D).toInt (smF (σ.1 20) (σ.1 15) (σ.1 16) p D).toInt w = (sI σ 12 p.toNat) := by
      unfold ofV; rw [if_neg (by omega), if_neg (by omega), if_neg (by omega), if_neg (by omega), if_pos (by omega)]
    refine ⟨hB3, G3, Or.inr ⟨q, ?_⟩⟩
    rw [ev, ← e4]
  · intro τ3 y3 hB3 F3 f rl _ _
    have f1 := f.2.1
    have G3 : FQ [] σ τ3 := FQ.tr G2 (FQ.up (G := []) rfl F3)
    have ev : ofV (sI σ 8 p.toNat) (sI σ 9 p.toNat) (sI σ 10 p.toNat) (sI σ 11 p.toNat) (sI σ 12 p.toNat) (smF (σ.1 20) (σ.1 14) (σ.1 16) p D).toInt (smF (σ.1 20) (σ.1 15) (σ.1 16) p D).toInt w = sI σ 11 p.toNat := by
      unfold ofV; rw [if_neg (by omega), if_neg (by omega), if_neg (by omega), if_pos (by omega)]
    refine ⟨hB3, G3, Or.inr ⟨q, ?_⟩⟩
    rw [ev, ← e3]
  · intro τ3 y3 hB3 F3 f rl _ _
    have f1 := f.2.1
    have G3 : FQ [] σ τ3 := FQ.tr G2 (FQ.up (G := []) rfl F3)
    have ev : ofV (sI σ 8 p.toNat) (sI σ 9 p.toNat) (sI σ 10 p.toNat) (sI σ 11 p.toNat) (sI σ 12 p.toNat) (smF (σ.1 20) (σ.1 14) (σ.1 16) p D).toInt (smF (σ.1 20) (σ.1 15) (σ.1 16) p D).toInt w = sI σ 10 p.toNat := by
      unfold ofV; rw [if_neg (by omega), if_neg (by omega), if_pos (by omega)]
    refine ⟨hB3, G3, Or.inr ⟨q, ?_⟩⟩
    rw [ev, ← e2]
  · intro τ3 y3 hB3 F3 f rl _ _
    have f1 := f.2.1
    have G3 : FQ [] σ τ3 := FQ.tr G2 (FQ.up (G := []) rfl F3)
    have ev : ofV (sI σ 8 p.toNat) (sI σ 9 p.toNat) (sI σ 10 p.toNat) (sI σ 11 p.toNat) (sI σ 12 p.toNat) (smF (σ.1 20) (σ.1 14) (σ.1 16) p D).toInt (smF (σ.1 20) (σ.1 15) (σ.1 16) p D).toInt w = sI σ 9 p.toNat := by
      unfold ofV; rw [if_neg (by omega), if_pos (by omega)]
    refine ⟨hB3, G3, Or.inr ⟨q, ?_⟩⟩
    rw [ev, ← e1]
  · intro τ3 y3 hB3 F3 f rl _ _
    have f1 := f.2.1
    have G3 : FQ [] σ τ3 := FQ.tr G2 (FQ.up (G := []) rfl F3)
    have ev : ofV (sI σ 8 p.toNat) (sI σ 9 p.toNat) (sI σ 10 p.toNat) (sI σ 11 p.toNat) (sI σ 12 p.toNat) (smF (σ.1 20) (σ.1 14) (σ.1 16) p D).toInt (smF (σ.1 20) (σ.1 15) (σ.1 16) p D).toInt w = sI σ 8 p.toNat := by
      unfold ofV; rw [if_pos (by omega)]
    refine ⟨hB3, G3, Or.inr ⟨q, ?_⟩⟩
    rw [ev, ← e0]
set_option maxRecDepth 20000 in
theorem x_ofm {σ : pm_S} (p w : Int) (hp : (-2147483648) ≤ p ∧ p ≤ 2147483647) (hw : (-2147483648) ≤ w ∧ w ≤ 2147483647) {D N : Nat} (hD : D ≤ 30) (hN : N ≤ 10) (eD : sI σ 93 11 = (D : Int)) (eN : sI σ 93 5 = (N : Int)) (hB : an_GB pm_B σ) : Sp 214 22 [.ref 93, .int (Int32.ofInt p), .int (Int32.ofInt w)] σ (fun r τ => an_GB pm_B τ ∧ FQ [(93, 0)] σ τ ∧ ((¬ (0 ≤ p ∧ p < (N : Int)) ∧ r = some (.int (Int32.ofInt (-2)))) ∨ ((0 ≤ p ∧ p < (N : Int)) ∧ r = some (.int (Int32.ofInt (ofV (sI σ 96 p.toNat) (sI σ 97 p.toNat) (sI σ 98 p.toNat) (sI σ 99 p.toNat) (sI σ 100 p.toNat + (-1)) (smF (σ.1 107) (σ.1 101) (σ.1 103) p D).toInt (smF (σ.1 107) (σ.1 102) (σ.1 103) p D).toInt w)))))) := by
  refine Sp.at rfl rfl ?_
  refine zm_o0 p w hB ⟨hp, hw, trivial⟩ ?_
  intro τ1 y1 hB1 F1 _ _ _ _
  refine Ok.cv rfl rfl rfl rfl rfl rfl rfl ?_
  refine (x_h164 p (N : Int) hB1 hp ((congrArg Int32.toInt (F1 93 5 rfl)).trans eN)).use (by decide) (fun r τ2 q => ?_)
  obtain ⟨hB2, F2, ⟨q, rfl, -⟩ | ⟨q, rfl, -⟩⟩ := q
  · refine zm_o6n p w hB2 ⟨hp, hw, trivial⟩ ?_
    intro τ3 y3 hB3 F3 _ _ _ _
    exact ⟨hB3, FQ.tr (FQ.up rfl F1) (FQ.up (G := []) rfl (FQ.tr F2 F3)), Or.inl ⟨q, rfl⟩⟩
  have b0 : 0 ≤ sI τ2 96 p.toNat ∧ sI τ2 96 p.toNat ≤ 9 := hB2 96 p.toNat (show p.toNat < 10 by omega)
  have e0 : sI τ2 96 p.toNat = sI σ 96 p.toNat := congrArg Int32.toInt ((F2 96 _ rfl).trans (F1 96 _ rfl))
  have e1 : sI τ2 97 p.toNat = sI σ 97 p.toNat := congrArg Int32.toInt ((F2 97 _ rfl).trans (F1 97 _ rfl))
  have e2 : sI τ2 98 p.toNat = sI σ 98 p.toNat := congrArg Int32.toInt ((F2 98 _ rfl).trans (F1 98 _ rfl))
  have b3 : 0 ≤ sI τ2 99 p.toNat ∧ sI τ2 99 p.toNat ≤ 9 := hB2 99 p.toNat (show p.toNat < 10 by omega)
  have e3 : sI τ2 99 p.toNat = sI σ 99 p.toNat := congrArg Int32.toInt ((F2 99 _ rfl).trans (F1 99 _ rfl))
  have b4 : 0 ≤ sI τ2 100 p.toNat ∧ sI τ2 100 p.toNat ≤ 10 := hB2 100 p.toNat (show p.toNat < 10 by omega)
  have e4 : sI τ2 100 p.toNat = sI σ 100 p.toNat := congrArg Int32.toInt ((F2 100 _ rfl).trans (F1 100 _ rfl))
  have G2 : FQ [(93, 0)] σ τ2 := FQ.tr (FQ.up rfl F1) (FQ.up (G := []) rfl F2)
  refine zm_o6 p w (sI τ2 96 p.toNat) (sI τ2 97 p.toNat) (sI τ2 98 p.toNat) (sI τ2 99 p.toNat) (sI τ2 100 p.toNat) hB2 ⟨⟨by omega, by omega⟩, hw, b0, ai_rng _, ai_rng _, b3, b4, trivial⟩ ⟨rfl, rfl, rfl, rfl, rfl, trivial⟩ ?_ ?_ ?_ ?_ ?_ ?_ ?_ ?_
  · intro τ3 y3 hB3 F3 f rl _ _
    have f1 := f.2.1
    have G3 : FQ [(93, 0)] σ τ3 := FQ.tr G2 (FQ.up (G := []) rfl F3)
    refine Ok.cv rfl rfl rfl rfl rfl rfl rfl ?_
    refine (x_so5 (p := p) ⟨by omega, by omega⟩ hD ((congrArg Int32.toInt (G3 93 11 rfl)).trans eD) hB3).use (by decide) (fun r τ4 h => ?_)
    obtain ⟨rfl, hB4, F4⟩ := h
    rw [row_fq G3 (P := 107) rfl, row_fq G3 (P := 101) rfl, row_fq G3 (P := 103) rfl]
    have ev : ofV (sI σ 96 p.toNat) (sI σ 97 p.toNat) (sI σ 98 p.toNat) (sI σ 99 p.toNat) (sI σ 100 p.toNat + (-1)) (smF (σ.1 107) (σ.1 101) (σ.1 103) p D).toInt (smF (σ.1 107) (σ.1 102) (σ.1 103) p D).toInt w = (smF (σ.1 107) (σ.1 101) (σ.1 103) p D).toInt := by
      unfold ofV; rw [if_neg (by omega), if_neg (by omega), if_neg (by omega), if_neg (by omega), if_neg (by omega), if_pos (by omega)]
    rw [show Value.int (smF (σ.1 107) (σ.1 101) (σ.1 103) p D) = Value.int (Int32.ofInt (smF (σ.1 107) (σ.1 101) (σ.1 103) p D).toInt) by rw [oI]]
    refine zm_o65 p w (smF (σ.1 107) (σ.1 101) (σ.1 103) p D).toInt hB4 ⟨⟨by omega, by omega⟩, hw, ai_rng _, trivial⟩ ?_
    intro τ5 y5 hB5 F5 _ _ _ _
    refine ⟨hB5, FQ.tr G3 (FQ.up (G := []) rfl (FQ.tr F4 F5)), Or.inr ⟨q, ?_⟩⟩
    rw [ev]
  · intro τ3 y3 hB3 F3 f rl _ _
    have f1 := f.2.1
    have r0 := rl.1
    have r1 := rl.2.1
    have r2 := rl.2.2.1
    have r3 := rl.2.2.2.1
    have r4 := rl.2.2.2.2.1
    have r5 := rl.2.2.2.2.2.1
    have r6 := rl.2.2.2.2.2.2.1
    have G3 : FQ [(93, 0)] σ τ3 := FQ.tr G2 (FQ.up (G := []) rfl F3)
    have ev : ofV (sI σ 96 p.toNat) (sI σ 97 p.toNat) (sI σ 98 p.toNat) (sI σ 99 p.toNat) (sI σ 100 p.toNat + (-1)) (smF (σ.1 107) (σ.1 101) (σ.1 103) p D).toInt (smF (σ.1 107) (σ.1 102) (σ.1 103) p D).toInt w = -2 := by
      unfold ofV; rw [if_neg (by omega), if_neg (by omega), if_neg (by omega), if_neg (by omega), if_neg (by omega), if_neg (by omega), if_neg (by omega)]
    refine ⟨hB3, G3, Or.inr ⟨q, ?_⟩⟩
    rw [ev]
  · intro τ3 y3 hB3 F3 f rl _ _
    have f1 := f.2.1
    have G3 : FQ [(93, 0)] σ τ3 := FQ.tr G2 (FQ.up (G := []) rfl F3)
    refine Ok.cv rfl rfl rfl rfl rfl rfl rfl ?_
    refine (x_so6 (p := p) ⟨by omega, by omega⟩ hD ((congrArg Int32.toInt (G3 93 11 rfl)).trans eD) hB3).use (by decide) (fun r τ4 h => ?_)
    obtain ⟨rfl, hB4, F4⟩ := h
    rw [row_fq G3 (P := 107) rfl, row_fq G3 (P := 102) rfl, row_fq G3 (P := 103) rfl]
    have ev : ofV (sI σ 96 p.toNat) (sI σ 97 p.toNat) (sI σ 98 p.toNat) (sI σ 99 p.toNat) (sI σ 100 p.toNat + (-1)) (smF (σ.1 107) (σ.1 101) (σ.1 103) p D).toInt (smF (σ.1 107) (σ.1 102) (σ.1 103) p D).toInt w = (smF (σ.1 107) (σ.1 102) (σ.1 103) p D).toInt := by
      unfold ofV; rw [if_neg (by omega), if_neg (by omega), if_neg (by omega), if_neg (by omega), if_neg (by omega), if_neg (by omega), if_pos (by omega)]
    rw [show Value.int (smF (σ.1 107) (σ.1 102) (σ.1 103) p D) = Value.int (Int32.ofInt (smF (σ.1 107) (σ.1 102) (σ.1 103) p D).toInt) by rw [oI]]
    refine zm_o65 p w (smF (σ.1 107) (σ.1 102) (σ.1 103) p D).toInt hB4 ⟨⟨by omega, by omega⟩, hw, ai_rng _, trivial⟩ ?_
    intro τ5 y5 hB5 F5 _ _ _ _
    refine ⟨hB5, FQ.tr G3 (FQ.up (G := []) rfl (FQ.tr F4 F5)), Or.inr ⟨q, ?_⟩⟩
    rw [ev]
  · intro τ3 y3 hB3 F3 f rl _ _
    have f1 := f.2.1
    have G3 : FQ [(93, 0)] σ τ3 := FQ.tr G2 (FQ.up (G := []) rfl F3)
    have ev : ofV (sI σ 96 p.toNat) (sI σ 97 p.toNat) (sI σ 98 p.toNat) (sI σ 99 p.toNat) (sI σ 100 p.toNat + (-1)) (smF (σ.1 107) (σ.1 101) (σ.1 103) p D).toInt (smF (σ.1 107) (σ.1 102) (σ.1 103) p D).toInt w = (sI σ 100 p.toNat + (-1)) := by
      unfold ofV; rw [if_neg (by omega), if_neg (by omega), if_neg (by omega), if_neg (by omega), if_pos (by omega)]
    refine ⟨hB3, G3, Or.inr ⟨q, ?_⟩⟩
    rw [ev, ← e4]
  · intro τ3 y3 hB3 F3 f rl _ _
    have f1 := f.2.1
    have G3 : FQ [(93, 0)] σ τ3 := FQ.tr G2 (FQ.up (G := []) rfl F3)
    have ev : ofV (sI σ 96 p.toNat) (sI σ 97 p.toNat) (sI σ 98 p.toNat) (sI σ 99 p.toNat) (sI σ 100 p.toNat + (-1)) (smF (σ.1 107) (σ.1 101) (σ.1 103) p D).toInt (smF (σ.1 107) (σ.1 102) (σ.1 103) p D).toInt w = sI σ 99 p.toNat := by
      unfold ofV; rw [if_neg (by omega), if_neg (by omega), if_neg (by omega), if_pos (by omega)]
    refine ⟨hB3, G3, Or.inr ⟨q, ?_⟩⟩
    rw [ev, ← e3]
  · intro τ3 y3 hB3 F3 f rl _ _
    have f1 := f.2.1
    have G3 : FQ [(93, 0)] σ τ3 := FQ.tr G2 (FQ.up (G := []) rfl F3)
    have ev : ofV (sI σ 96 p.toNat) (sI σ 97 p.toNat) (sI σ 98 p.toNat) (sI σ 99 p.toNat) (sI σ 100 p.toNat + (-1)) (smF (σ.1 107) (σ.1 101) (σ.1 103) p D).toInt (smF (σ.1 107) (σ.1 102) (σ.1 103) p D).toInt w = sI σ 98 p.toNat := by
      unfold ofV; rw [if_neg (by omega), if_neg (by omega), if_pos (by omega)]
    refine ⟨hB3, G3, Or.inr ⟨q, ?_⟩⟩
    rw [ev, ← e2]
  · intro τ3 y3 hB3 F3 f rl _ _
    have f1 := f.2.1
    have G3 : FQ [(93, 0)] σ τ3 := FQ.tr G2 (FQ.up (G := []) rfl F3)
    have ev : ofV (sI σ 96 p.toNat) (sI σ 97 p.toNat) (sI σ 98 p.toNat) (sI σ 99 p.toNat) (sI σ 100 p.toNat + (-1)) (smF (σ.1 107) (σ.1 101) (σ.1 103) p D).toInt (smF (σ.1 107) (σ.1 102) (σ.1 103) p D).toInt w = sI σ 97 p.toNat := by
      unfold ofV; rw [if_neg (by omega), if_pos (by omega)]
    refine ⟨hB3, G3, Or.inr ⟨q, ?_⟩⟩
    rw [ev, ← e1]
  · intro τ3 y3 hB3 F3 f rl _ _
    have f1 := f.2.1
    have G3 : FQ [(93, 0)] σ τ3 := FQ.tr G2 (FQ.up (G := []) rfl F3)
    have ev : ofV (sI σ 96 p.toNat) (sI σ 97 p.toNat) (sI σ 98 p.toNat) (sI σ 99 p.toNat) (sI σ 100 p.toNat + (-1)) (smF (σ.1 107) (σ.1 101) (σ.1 103) p D).toInt (smF (σ.1 107) (σ.1 102) (σ.1 103) p D).toInt w = sI σ 96 p.toNat := by
      unfold ofV; rw [if_pos (by omega)]
    refine ⟨hB3, G3, Or.inr ⟨q, ?_⟩⟩
    rw [ev, ← e0]
set_option maxRecDepth 20000 in
theorem tt_of (a1 a2 : Int32) : Two 1 true IT IT 141 214 [.int a1, .int a2] := by
  rw [← oI a1, ← oI a2]
  have o1 := ai_rng a1
  have o2 := ai_rng a2
  generalize a1.toInt = p at o1
  generalize a2.toInt = w at o2
  refine two_TE (GC := []) (GM := [(93, 0)]) (by decide +kernel) (by decide +kernel) rfl rfl (fun σ v τ => ∃ (D N S : Nat) (ls : List (List Int)), TW D N S ls σ ∧ ((¬ (0 ≤ p ∧ p < (N : Int)) ∧ v = -2) ∨ ((0 ≤ p ∧ p < (N : Int)) ∧ v = ofV (sI σ 8 p.toNat) (sI σ 9 p.toNat) (sI σ 10 p.toNat) (sI σ 11 p.toNat) (sI σ 12 p.toNat) (smF (σ.1 20) (σ.1 14) (σ.1 16) p D).toInt (smF (σ.1 20) (σ.1 15) (σ.1 16) p D).toInt w))) (fun σ hI => ?_) (fun σ τ v hI x F1 hB1 _ => ?_)
  · obtain ⟨D, N, S, ls, w'⟩ := RT.o hI.2.2.1.2.1
    have hb := w'.2.1.1
    refine (x_ofc p w o1 o2 hb.1 hb.2.1 w'.1.1 w'.1.2.1 hI.1).use (by decide) (fun r τ q => ?_)
    obtain ⟨hB, F, ⟨q, rfl⟩ | ⟨q, rfl⟩⟩ := q
    · exact ⟨-2, rfl, hB, F, D, N, S, ls, w', Or.inl ⟨q, rfl⟩⟩
    · exact ⟨_, rfl, hB, F, D, N, S, ls, w', Or.inr ⟨q, rfl⟩⟩
  · obtain ⟨D, N, S, ls, w', x⟩ := x
    have e1 : τ.1 = σ.1 := fq0 F1
    have wt : TW D N S ls τ := w'.fq rfl rfl rfl rfl rfl rfl rfl rfl rfl rfl F1
    have hb := wt.2.1.1
    refine (x_ofm p w o1 o2 hb.1 hb.2.1 wt.1.2.2.2.1 wt.1.2.2.2.2.1 hB1).use (by decide) (fun r τ2 q => ?_)
    obtain ⟨hB2, F2, q⟩ := q
    have w2 : TW D N S ls τ2 := wt.fq rfl rfl rfl rfl rfl rfl rfl rfl rfl rfl F2
    refine ⟨?_, hB2, F2, D, N, S, ls, w2⟩
    rcases q with ⟨q, rfl⟩ | ⟨q, rfl⟩
    · rcases x with ⟨x, rfl⟩ | ⟨x, rfl⟩
      · rfl
      · exact absurd x q
    · rcases x with ⟨x, rfl⟩ | ⟨x, rfl⟩
      · exact absurd q x
      · obtain ⟨_, ⟨_, _, _, hp, hd, _⟩, _⟩ := w'
        obtain ⟨a, b, c, e, f⟩ := hp p.toNat (by omega)
        have f : sI σ 12 p.toNat + 1 = sI σ 100 p.toNat := f
        have s5 : smF (σ.1 107) (σ.1 101) (σ.1 103) p D = smF (σ.1 20) (σ.1 14) (σ.1 16) p D := smF_e D (fun i hi => ⟨(hd i hi).2.2.2.2.2.2.symm, (hd i hi).1.symm, (hd i hi).2.2.1.symm⟩)
        have s6 : smF (σ.1 107) (σ.1 102) (σ.1 103) p D = smF (σ.1 20) (σ.1 15) (σ.1 16) p D := smF_e D (fun i hi => ⟨(hd i hi).2.2.2.2.2.2.symm, (hd i hi).2.1.symm, (hd i hi).2.2.1.symm⟩)
        rw [e1, s5, s6, show sI τ 96 p.toNat = sI σ 8 p.toNat by rw [show sI τ 96 p.toNat = (τ.1 96 p.toNat).toInt from rfl, e1, ← a], show sI τ 97 p.toNat = sI σ 9 p.toNat by rw [show sI τ 97 p.toNat = (τ.1 97 p.toNat).toInt from rfl, e1, ← b], show sI τ 98 p.toNat = sI σ 10 p.toNat by rw [show sI τ 98 p.toNat = (τ.1 98 p.toNat).toInt from rfl, e1, ← c], show sI τ 99 p.toNat = sI σ 11 p.toNat by rw [show sI τ 99 p.toNat = (τ.1 99 p.toNat).toInt from rfl, e1, ← e], show sI τ 100 p.toNat + (-1) = sI σ 12 p.toNat by rw [show sI τ 100 p.toNat = (τ.1 100 p.toNat).toInt from rfl, e1]; show sI σ 100 p.toNat + (-1) = _; omega]
