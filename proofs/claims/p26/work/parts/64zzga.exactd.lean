/-! debt exactly -/
set_option maxRecDepth 100000 in
theorem zx_dadd_s0 {σ : pm_S} {Q : Option Value → pm_S → Prop} (x0 x1 x2 x3 x4 x5 x6 x7 : Int)  (hB : an_GB pm_B σ) (eF : (0 ≤ x0 ∧ x0 ≤ 9) ∧ (0 ≤ x1 ∧ x1 ≤ 9) ∧ ((-2147483648) ≤ x2 ∧ x2 ≤ 2147483647) ∧ (0 ≤ x3 ∧ x3 ≤ 9) ∧ (0 ≤ x4 ∧ x4 ≤ 10) ∧ (0 ≤ x5 ∧ x5 ≤ 10) ∧ (0 ≤ x6 ∧ x6 ≤ 30) ∧ ((-2147483648) ≤ x7 ∧ x7 ≤ 2147483647) ∧ True) (eC : (σ.1 13 0).toInt = x6 ∧ True)
    (l0 : ∀ (τ : pm_S) (y : Nat → Int), an_GB pm_B τ → FQ [(13, 0)] σ τ → ((0 ≤ x0 ∧ x0 ≤ 9) ∧ (0 ≤ x1 ∧ x1 ≤ 9) ∧ ((-2147483648) ≤ x2 ∧ x2 ≤ 2147483647) ∧ (0 ≤ x3 ∧ x3 ≤ 9) ∧ (0 ≤ x4 ∧ x4 ≤ 10) ∧ (0 ≤ x5 ∧ x5 ≤ 10) ∧ (0 ≤ x6 ∧ x6 ≤ 30) ∧ ((-2147483648) ≤ x7 ∧ x7 ≤ 2147483647) ∧ True) → (True) → (True) → ((τ.1 13 0).toInt = x6 ∧ True) → Ok 2 21 2 [.ref 13, .int (Int32.ofInt (x0)), .int (Int32.ofInt (x1)), .int (Int32.ofInt (x2)), .int (Int32.ofInt (x3)), .int (Int32.ofInt (x7))] [.int (Int32.ofInt (x1)), .int (Int32.ofInt (x0))] τ Q)
    : Ok 2 21 0 [.ref 13, .int (Int32.ofInt (x0)), .int (Int32.ofInt (x1)), .int (Int32.ofInt (x2)), .int (Int32.ofInt (x3)), .int (Int32.ofInt (x7))] [] σ Q := by
  refine an_seg (B := pm_B) (F := [(13, 0)]) (T := []) (S := []) (fun _ h => absurd h List.not_mem_nil) (k := 2) (d := 20) (cs := [2, 20, 26, 32, 38, 44, 50, 56]) 4 0 8 [(0, 0, 9), (1, 0, 9), (2, (-2147483648), 2147483647), (3, 0, 9), (4, 0, 10), (5, 0, 10), (6, 0, 30), (7, (-2147483648), 2147483647)] [(13, (1, 0, 0), (0, 6, 0))] [(2, 13, 0), (0, 0, 0), (0, 1, 0), (0, 2, 0), (0, 3, 0), (0, 7, 0)] [] [(2, [(2, 13, 0), (0, 0, 0), (0, 1, 0), (0, 2, 0), (0, 3, 0), (0, 7, 0)], [(0, 1, 0), (0, 0, 0)], [(0, 0, 9), (1, 0, 9), (2, (-2147483648), 2147483647), (3, 0, 9), (4, 0, 10), (5, 0, 10), (6, 0, 30), (7, (-2147483648), 2147483647)], [], [], [(13, (1, 0, 0), (0, 6, 0))])] (by decide +kernel) (ρ0 := (fun s => [x0, x1, x2, x3, x4, x5, x6, x7].getD s 0)) hB eF eC ⟨rfl, ⟨rfl, ⟨rfl, ⟨rfl, ⟨rfl, ⟨rfl, trivial⟩⟩⟩⟩⟩⟩ trivial ?_
  refine List.forall_mem_cons.mpr ⟨?_, fun _ h => absurd h List.not_mem_nil⟩
  · intro ρ τ Lc stc hx g1 g2 g3 g4 g5 g6 g7 g8
    have e0 : ρ 0 = x0 := hx 0 (by decide)
    have e1 : ρ 1 = x1 := hx 1 (by decide)
    have e2 : ρ 2 = x2 := hx 2 (by decide)
    have e3 : ρ 3 = x3 := hx 3 (by decide)
    have e4 : ρ 4 = x4 := hx 4 (by decide)
    have e5 : ρ 5 = x5 := hx 5 (by decide)
    have e6 : ρ 6 = x6 := hx 6 (by decide)
    have e7 : ρ 7 = x7 := hx 7 (by decide)
    subst e0
    subst e1
    subst e2
    subst e3
    subst e4
    subst e5
    subst e6
    subst e7
    have g7 := g7 (by decide)
    match Lc, stc, g7, g8 with
    | [v0, v1, v2, v3, v4, v5], [w0, w1], ⟨hv0, hv1, hv2, hv3, hv4, hv5, _⟩, ⟨hw0, hw1, _⟩ =>
      cases hv0
      cases hv1
      cases hv2
      cases hv3
      cases hv4
      cases hv5
      cases hw0
      cases hw1
      exact l0 τ ρ  g1 g2 g3 g4 g5 g6
set_option maxRecDepth 100000 in
theorem zx_dadd_s1 {σ : pm_S} {Q : Option Value → pm_S → Prop} (x0 x1 x2 x3 x4 x5 x6 x7 : Int)  (hB : an_GB pm_B σ) (eF : (0 ≤ x0 ∧ x0 ≤ 9) ∧ (0 ≤ x1 ∧ x1 ≤ 9) ∧ ((-2147483648) ≤ x2 ∧ x2 ≤ 2147483647) ∧ (0 ≤ x3 ∧ x3 ≤ 9) ∧ (0 ≤ x4 ∧ x4 ≤ 10) ∧ (0 ≤ x5 ∧ x5 ≤ 10) ∧ (0 ≤ x6 ∧ x6 ≤ 30) ∧ ((-2147483648) ≤ x7 ∧ x7 ≤ 2147483647) ∧ True) (eC : (σ.1 13 0).toInt = x6 ∧ True)
    (l0 : ∀ (τ : pm_S) (y : Nat → Int), an_GB pm_B τ → FQ [(13, 0)] σ τ → ((0 ≤ x0 ∧ x0 ≤ 9) ∧ (0 ≤ x1 ∧ x1 ≤ 9) ∧ ((-2147483648) ≤ x2 ∧ x2 ≤ 2147483647) ∧ (0 ≤ x3 ∧ x3 ≤ 9) ∧ (0 ≤ x4 ∧ x4 ≤ 10) ∧ (0 ≤ x5 ∧ x5 ≤ 10) ∧ (0 ≤ x6 ∧ x6 ≤ 30) ∧ ((-2147483648) ≤ x7 ∧ x7 ≤ 2147483647) ∧ True) → (True) → (True) → ((τ.1 13 0).toInt = x6 ∧ True) → Q (some (.int (Int32.ofInt (-1)))) τ)
    : Ok 2 21 13 [.ref 13, .int (Int32.ofInt (x0)), .int (Int32.ofInt (x1)), .int (Int32.ofInt (x2)), .int (Int32.ofInt (x3)), .int (Int32.ofInt (x7))] [] σ Q := by
  refine an_seg (B := pm_B) (F := [(13, 0)]) (T := []) (S := []) (fun _ h => absurd h List.not_mem_nil) (k := 2) (d := 20) (cs := [2, 20, 26, 32, 38, 44, 50, 56]) 4 13 8 [(0, 0, 9), (1, 0, 9), (2, (-2147483648), 2147483647), (3, 0, 9), (4, 0, 10), (5, 0, 10), (6, 0, 30), (7, (-2147483648), 2147483647)] [(13, (1, 0, 0), (0, 6, 0))] [(2, 13, 0), (0, 0, 0), (0, 1, 0), (0, 2, 0), (0, 3, 0), (0, 7, 0)] [] [(9999, [], [(1, 0, (-1))], [(0, 0, 9), (1, 0, 9), (2, (-2147483648), 2147483647), (3, 0, 9), (4, 0, 10), (5, 0, 10), (6, 0, 30), (7, (-2147483648), 2147483647)], [], [], [(13, (1, 0, 0), (0, 6, 0))])] (by decide +kernel) (ρ0 := (fun s => [x0, x1, x2, x3, x4, x5, x6, x7].getD s 0)) hB eF eC ⟨rfl, ⟨rfl, ⟨rfl, ⟨rfl, ⟨rfl, ⟨rfl, trivial⟩⟩⟩⟩⟩⟩ trivial ?_
  refine List.forall_mem_cons.mpr ⟨?_, fun _ h => absurd h List.not_mem_nil⟩
  · intro ρ τ Lc stc hx g1 g2 g3 g4 g5 g6 g7 g8
    have e0 : ρ 0 = x0 := hx 0 (by decide)
    have e1 : ρ 1 = x1 := hx 1 (by decide)
    have e2 : ρ 2 = x2 := hx 2 (by decide)
    have e3 : ρ 3 = x3 := hx 3 (by decide)
    have e4 : ρ 4 = x4 := hx 4 (by decide)
    have e5 : ρ 5 = x5 := hx 5 (by decide)
    have e6 : ρ 6 = x6 := hx 6 (by decide)
    have e7 : ρ 7 = x7 := hx 7 (by decide)
    subst e0
    subst e1
    subst e2
    subst e3
    subst e4
    subst e5
    subst e6
    subst e7
    match stc, g8 with
    | [_], ⟨h, _⟩ => cases h; exact l0 τ ρ g1 g2 g3 g4 g5 g6
set_option maxRecDepth 100000 in
theorem zx_dadd_s2 {σ : pm_S} {Q : Option Value → pm_S → Prop} (x0 x1 x2 x3 x4 x5 x6 x7 : Int)  (hB : an_GB pm_B σ) (eF : (0 ≤ x0 ∧ x0 ≤ 9) ∧ (0 ≤ x1 ∧ x1 ≤ 9) ∧ ((-2147483648) ≤ x2 ∧ x2 ≤ 2147483647) ∧ (0 ≤ x3 ∧ x3 ≤ 9) ∧ (0 ≤ x4 ∧ x4 ≤ 10) ∧ (0 ≤ x5 ∧ x5 ≤ 10) ∧ (0 ≤ x6 ∧ x6 ≤ 30) ∧ ((-2147483648) ≤ x7 ∧ x7 ≤ 2147483647) ∧ True) (eC : (σ.1 13 0).toInt = x6 ∧ True)
    (l0 : ∀ (τ : pm_S) (y : Nat → Int), an_GB pm_B τ → FQ [(13, 0)] σ τ → ((0 ≤ x0 ∧ x0 ≤ 9) ∧ (0 ≤ x1 ∧ x1 ≤ 9) ∧ ((-2147483648) ≤ x2 ∧ x2 ≤ 0) ∧ (0 ≤ x3 ∧ x3 ≤ 9) ∧ (0 ≤ x4 ∧ x4 ≤ 10) ∧ (0 ≤ x5 ∧ x5 ≤ 10) ∧ (0 ≤ x6 ∧ x6 ≤ 30) ∧ ((-2147483648) ≤ x7 ∧ x7 ≤ 2147483647) ∧ True) → (True) → (True) → ((τ.1 13 0).toInt = x6 ∧ True) → Q (some (.int (Int32.ofInt (-1)))) τ)
    (l1 : ∀ (τ : pm_S) (y : Nat → Int), an_GB pm_B τ → FQ [(13, 0)] σ τ → ((0 ≤ x0 ∧ x0 ≤ 9) ∧ (0 ≤ x1 ∧ x1 ≤ 9) ∧ (10000 ≤ x2 ∧ x2 ≤ 2147483647) ∧ (0 ≤ x3 ∧ x3 ≤ 9) ∧ (0 ≤ x4 ∧ x4 ≤ 10) ∧ (0 ≤ x5 ∧ x5 ≤ 10) ∧ (0 ≤ x6 ∧ x6 ≤ 30) ∧ ((-2147483648) ≤ x7 ∧ x7 ≤ 2147483647) ∧ True) → (True) → (True) → ((τ.1 13 0).toInt = x6 ∧ True) → Q (some (.int (Int32.ofInt (-1)))) τ)
    (l2 : ∀ (τ : pm_S) (y : Nat → Int), an_GB pm_B τ → FQ [(13, 0)] σ τ → ((0 ≤ x0 ∧ x0 ≤ 9) ∧ (0 ≤ x1 ∧ x1 ≤ 9) ∧ (1 ≤ x2 ∧ x2 ≤ 9999) ∧ (0 ≤ x3 ∧ x3 ≤ 9) ∧ (0 ≤ x4 ∧ x4 ≤ 10) ∧ (0 ≤ x5 ∧ x5 ≤ 10) ∧ (0 ≤ x6 ∧ x6 ≤ 29) ∧ ((-2147483648) ≤ x7 ∧ x7 ≤ 2147483647) ∧ True) → (True) → (True) → ((τ.1 13 0).toInt = x6 ∧ True) → Ok 2 21 20 [.ref 13, .int (Int32.ofInt (x0)), .int (Int32.ofInt (x1)), .int (Int32.ofInt (x2)), .int (Int32.ofInt (x3)), .int (Int32.ofInt (x7))] [.int (Int32.ofInt (x0)), .int (Int32.ofInt (x6)), .ref 14] τ Q)
    (l3 : ∀ (τ : pm_S) (y : Nat → Int), an_GB pm_B τ → FQ [(13, 0)] σ τ → ((0 ≤ x0 ∧ x0 ≤ 9) ∧ (0 ≤ x1 ∧ x1 ≤ 9) ∧ (1 ≤ x2 ∧ x2 ≤ 9999) ∧ (0 ≤ x3 ∧ x3 ≤ 9) ∧ (0 ≤ x4 ∧ x4 ≤ 10) ∧ (0 ≤ x5 ∧ x5 ≤ 10) ∧ (30 ≤ x6 ∧ x6 ≤ 30) ∧ ((-2147483648) ≤ x7 ∧ x7 ≤ 2147483647) ∧ True) → (True) → (True) → ((τ.1 13 0).toInt = x6 ∧ True) → Q (some (.int (Int32.ofInt (-1)))) τ)
    : Ok 2 21 3 [.ref 13, .int (Int32.ofInt (x0)), .int (Int32.ofInt (x1)), .int (Int32.ofInt (x2)), .int (Int32.ofInt (x3)), .int (Int32.ofInt (x7))] [] σ Q := by
  refine an_seg (B := pm_B) (F := [(13, 0)]) (T := []) (S := []) (fun _ h => absurd h List.not_mem_nil) (k := 2) (d := 20) (cs := [2, 20, 26, 32, 38, 44, 50, 56]) 17 3 8 [(0, 0, 9), (1, 0, 9), (2, (-2147483648), 2147483647), (3, 0, 9), (4, 0, 10), (5, 0, 10), (6, 0, 30), (7, (-2147483648), 2147483647)] [(13, (1, 0, 0), (0, 6, 0))] [(2, 13, 0), (0, 0, 0), (0, 1, 0), (0, 2, 0), (0, 3, 0), (0, 7, 0)] [] [(9999, [], [(1, 0, (-1))], [(0, 0, 9), (1, 0, 9), (2, (-2147483648), 0), (3, 0, 9), (4, 0, 10), (5, 0, 10), (6, 0, 30), (7, (-2147483648), 2147483647)], [], [], [(13, (1, 0, 0), (0, 6, 0))]),
    (9999, [], [(1, 0, (-1))], [(0, 0, 9), (1, 0, 9), (2, 10000, 2147483647), (3, 0, 9), (4, 0, 10), (5, 0, 10), (6, 0, 30), (7, (-2147483648), 2147483647)], [], [], [(13, (1, 0, 0), (0, 6, 0))]),
    (20, [(2, 13, 0), (0, 0, 0), (0, 1, 0), (0, 2, 0), (0, 3, 0), (0, 7, 0)], [(0, 0, 0), (0, 6, 0), (2, 14, 0)], [(0, 0, 9), (1, 0, 9), (2, 1, 9999), (3, 0, 9), (4, 0, 10), (5, 0, 10), (6, 0, 29), (7, (-2147483648), 2147483647)], [], [], [(13, (1, 0, 0), (0, 6, 0))]),
    (9999, [], [(1, 0, (-1))], [(0, 0, 9), (1, 0, 9), (2, 1, 9999), (3, 0, 9), (4, 0, 10), (5, 0, 10), (6, 30, 30), (7, (-2147483648), 2147483647)], [], [], [(13, (1, 0, 0), (0, 6, 0))])] (by decide +kernel) (ρ0 := (fun s => [x0, x1, x2, x3, x4, x5, x6, x7].getD s 0)) hB eF eC ⟨rfl, ⟨rfl, ⟨rfl, ⟨rfl, ⟨rfl, ⟨rfl, trivial⟩⟩⟩⟩⟩⟩ trivial ?_
  refine List.forall_mem_cons.mpr ⟨?_, List.forall_mem_cons.mpr ⟨?_, List.forall_mem_cons.mpr ⟨?_, List.forall_mem_cons.mpr ⟨?_, fun _ h => absurd h List.not_mem_nil⟩⟩⟩⟩
  · intro ρ τ Lc stc hx g1 g2 g3 g4 g5 g6 g7 g8
    have e0 : ρ 0 = x0 := hx 0 (by decide)
    have e1 : ρ 1 = x1 := hx 1 (by decide)
    have e2 : ρ 2 = x2 := hx 2 (by decide)
    have e3 : ρ 3 = x3 := hx 3 (by decide)
    have e4 : ρ 4 = x4 := hx 4 (by decide)
    have e5 : ρ 5 = x5 := hx 5 (by decide)
    have e6 : ρ 6 = x6 := hx 6 (by decide)
    have e7 : ρ 7 = x7 := hx 7 (by decide)
    subst e0
    subst e1
    subst e2
    subst e3
    subst e4
    subst e5
    subst e6
    subst e7
    match stc, g8 with
    | [_], ⟨h, _⟩ => cases h; exact l0 τ ρ g1 g2 g3 g4 g5 g6
  · intro ρ τ Lc stc hx g1 g2 g3 g4 g5 g6 g7 g8
    have e0 : ρ 0 = x0 := hx 0 (by decide)
    have e1 : ρ 1 = x1 := hx 1 (by decide)
    have e2 : ρ 2 = x2 := hx 2 (by decide)
    have e3 : ρ 3 = x3 := hx 3 (by decide)
    have e4 : ρ 4 = x4 := hx 4 (by decide)
    have e5 : ρ 5 = x5 := hx 5 (by decide)
    have e6 : ρ 6 = x6 := hx 6 (by decide)
    have e7 : ρ 7 = x7 := hx 7 (by decide)
    subst e0
    subst e1
    subst e2
    subst e3
    subst e4
    subst e5
    subst e6
    subst e7
    match stc, g8 with
    | [_], ⟨h, _⟩ => cases h; exact l1 τ ρ g1 g2 g3 g4 g5 g6
  · intro ρ τ Lc stc hx g1 g2 g3 g4 g5 g6 g7 g8
    have e0 : ρ 0 = x0 := hx 0 (by decide)
    have e1 : ρ 1 = x1 := hx 1 (by decide)
    have e2 : ρ 2 = x2 := hx 2 (by decide)
    have e3 : ρ 3 = x3 := hx 3 (by decide)
    have e4 : ρ 4 = x4 := hx 4 (by decide)
    have e5 : ρ 5 = x5 := hx 5 (by decide)
    have e6 : ρ 6 = x6 := hx 6 (by decide)
    have e7 : ρ 7 = x7 := hx 7 (by decide)
    subst e0
    subst e1
    subst e2
    subst e3
    subst e4
    subst e5
    subst e6
    subst e7
    have g7 := g7 (by decide)
    match Lc, stc, g7, g8 with
    | [v0, v1, v2, v3, v4, v5], [w0, w1, w2], ⟨hv0, hv1, hv2, hv3, hv4, hv5, _⟩, ⟨hw0, hw1, hw2, _⟩ =>
      cases hv0
      cases hv1
      cases hv2
      cases hv3
      cases hv4
      cases hv5
      cases hw0
      cases hw1
      cases hw2
      exact l2 τ ρ  g1 g2 g3 g4 g5 g6
  · intro ρ τ Lc stc hx g1 g2 g3 g4 g5 g6 g7 g8
    have e0 : ρ 0 = x0 := hx 0 (by decide)
    have e1 : ρ 1 = x1 := hx 1 (by decide)
    have e2 : ρ 2 = x2 := hx 2 (by decide)
    have e3 : ρ 3 = x3 := hx 3 (by decide)
    have e4 : ρ 4 = x4 := hx 4 (by decide)
    have e5 : ρ 5 = x5 := hx 5 (by decide)
    have e6 : ρ 6 = x6 := hx 6 (by decide)
    have e7 : ρ 7 = x7 := hx 7 (by decide)
    subst e0
    subst e1
    subst e2
    subst e3
    subst e4
    subst e5
    subst e6
    subst e7
    match stc, g8 with
    | [_], ⟨h, _⟩ => cases h; exact l3 τ ρ g1 g2 g3 g4 g5 g6
set_option maxRecDepth 100000 in
theorem zx_dadd_s3 {σ : pm_S} {Q : Option Value → pm_S → Prop} (x0 x1 x2 x3 x4 x5 x6 x7 : Int)  (hB : an_GB pm_B σ) (eF : (0 ≤ x0 ∧ x0 ≤ 9) ∧ (0 ≤ x1 ∧ x1 ≤ 9) ∧ (1 ≤ x2 ∧ x2 ≤ 9999) ∧ (0 ≤ x3 ∧ x3 ≤ 9) ∧ (0 ≤ x4 ∧ x4 ≤ 10) ∧ (0 ≤ x5 ∧ x5 ≤ 10) ∧ (0 ≤ x6 ∧ x6 ≤ 29) ∧ ((-2147483648) ≤ x7 ∧ x7 ≤ 2147483647) ∧ True) (eC : (σ.1 13 0).toInt = x6 ∧ True)
    (l0 : ∀ (τ : pm_S) (y : Nat → Int), an_GB pm_B τ → FQ [(13, 0)] σ τ → ((0 ≤ x0 ∧ x0 ≤ 9) ∧ (0 ≤ x1 ∧ x1 ≤ 9) ∧ (1 ≤ x2 ∧ x2 ≤ 9999) ∧ (0 ≤ x3 ∧ x3 ≤ 9) ∧ (0 ≤ x4 ∧ x4 ≤ 10) ∧ (0 ≤ x5 ∧ x5 ≤ 10) ∧ (0 ≤ x6 ∧ x6 ≤ 29) ∧ ((-2147483648) ≤ x7 ∧ x7 ≤ 2147483647) ∧ True) → (True) → (True) → ((τ.1 13 0).toInt = x6 ∧ True) → Ok 2 21 26 [.ref 13, .int (Int32.ofInt (x0)), .int (Int32.ofInt (x1)), .int (Int32.ofInt (x2)), .int (Int32.ofInt (x3)), .int (Int32.ofInt (x7))] [.int (Int32.ofInt (x1)), .int (Int32.ofInt (x6)), .ref 15] τ Q)
    : Ok 2 21 21 [.ref 13, .int (Int32.ofInt (x0)), .int (Int32.ofInt (x1)), .int (Int32.ofInt (x2)), .int (Int32.ofInt (x3)), .int (Int32.ofInt (x7))] [] σ Q := by
  refine an_seg (B := pm_B) (F := [(13, 0)]) (T := []) (S := []) (fun _ h => absurd h List.not_mem_nil) (k := 2) (d := 20) (cs := [2, 20, 26, 32, 38, 44, 50, 56]) 7 21 8 [(0, 0, 9), (1, 0, 9), (2, 1, 9999), (3, 0, 9), (4, 0, 10), (5, 0, 10), (6, 0, 29), (7, (-2147483648), 2147483647)] [(13, (1, 0, 0), (0, 6, 0))] [(2, 13, 0), (0, 0, 0), (0, 1, 0), (0, 2, 0), (0, 3, 0), (0, 7, 0)] [] [(26, [(2, 13, 0), (0, 0, 0), (0, 1, 0), (0, 2, 0), (0, 3, 0), (0, 7, 0)], [(0, 1, 0), (0, 6, 0), (2, 15, 0)], [(0, 0, 9), (1, 0, 9), (2, 1, 9999), (3, 0, 9), (4, 0, 10), (5, 0, 10), (6, 0, 29), (7, (-2147483648), 2147483647)], [], [], [(13, (1, 0, 0), (0, 6, 0))])] (by decide +kernel) (ρ0 := (fun s => [x0, x1, x2, x3, x4, x5, x6, x7].getD s 0)) hB eF eC ⟨rfl, ⟨rfl, ⟨rfl, ⟨rfl, ⟨rfl, ⟨rfl, trivial⟩⟩⟩⟩⟩⟩ trivial ?_
  refine List.forall_mem_cons.mpr ⟨?_, fun _ h => absurd h List.not_mem_nil⟩
  · intro ρ τ Lc stc hx g1 g2 g3 g4 g5 g6 g7 g8
    have e0 : ρ 0 = x0 := hx 0 (by decide)
    have e1 : ρ 1 = x1 := hx 1 (by decide)
    have e2 : ρ 2 = x2 := hx 2 (by decide)
    have e3 : ρ 3 = x3 := hx 3 (by decide)
    have e4 : ρ 4 = x4 := hx 4 (by decide)
    have e5 : ρ 5 = x5 := hx 5 (by decide)
    have e6 : ρ 6 = x6 := hx 6 (by decide)
    have e7 : ρ 7 = x7 := hx 7 (by decide)
    subst e0
    subst e1
    subst e2
    subst e3
    subst e4
    subst e5
    subst e6
    subst e7
    have g7 := g7 (by decide)
    match Lc, stc, g7, g8 with
    | [v0, v1, v2, v3, v4, v5], [w0, w1, w2], ⟨hv0, hv1, hv2, hv3, hv4, hv5, _⟩, ⟨hw0, hw1, hw2, _⟩ =>
      cases hv0
      cases hv1
      cases hv2
      cases hv3
      cases hv4
      cases hv5
      cases hw0
      cases hw1
      cases hw2
      exact l0 τ ρ  g1 g2 g3 g4 g5 g6
set_option maxRecDepth 100000 in
theorem zx_dadd_s4 {σ : pm_S} {Q : Option Value → pm_S → Prop} (x0 x1 x2 x3 x4 x5 x6 x7 : Int)  (hB : an_GB pm_B σ) (eF : (0 ≤ x0 ∧ x0 ≤ 9) ∧ (0 ≤ x1 ∧ x1 ≤ 9) ∧ (1 ≤ x2 ∧ x2 ≤ 9999) ∧ (0 ≤ x3 ∧ x3 ≤ 9) ∧ (0 ≤ x4 ∧ x4 ≤ 10) ∧ (0 ≤ x5 ∧ x5 ≤ 10) ∧ (0 ≤ x6 ∧ x6 ≤ 29) ∧ ((-2147483648) ≤ x7 ∧ x7 ≤ 2147483647) ∧ True) (eC : (σ.1 13 0).toInt = x6 ∧ True)
    (l0 : ∀ (τ : pm_S) (y : Nat → Int), an_GB pm_B τ → FQ [(13, 0)] σ τ → ((0 ≤ x0 ∧ x0 ≤ 9) ∧ (0 ≤ x1 ∧ x1 ≤ 9) ∧ (1 ≤ x2 ∧ x2 ≤ 9999) ∧ (0 ≤ x3 ∧ x3 ≤ 9) ∧ (0 ≤ x4 ∧ x4 ≤ 10) ∧ (0 ≤ x5 ∧ x5 ≤ 10) ∧ (0 ≤ x6 ∧ x6 ≤ 29) ∧ ((-2147483648) ≤ x7 ∧ x7 ≤ 2147483647) ∧ True) → (True) → (True) → ((τ.1 13 0).toInt = x6 ∧ True) → Ok 2 21 32 [.ref 13, .int (Int32.ofInt (x0)), .int (Int32.ofInt (x1)), .int (Int32.ofInt (x2)), .int (Int32.ofInt (x3)), .int (Int32.ofInt (x7))] [.int (Int32.ofInt (x2)), .int (Int32.ofInt (x6)), .ref 16] τ Q)
    : Ok 2 21 27 [.ref 13, .int (Int32.ofInt (x0)), .int (Int32.ofInt (x1)), .int (Int32.ofInt (x2)), .int (Int32.ofInt (x3)), .int (Int32.ofInt (x7))] [] σ Q := by
  refine an_seg (B := pm_B) (F := [(13, 0)]) (T := []) (S := []) (fun _ h => absurd h List.not_mem_nil) (k := 2) (d := 20) (cs := [2, 20, 26, 32, 38, 44, 50, 56]) 7 27 8 [(0, 0, 9), (1, 0, 9), (2, 1, 9999), (3, 0, 9), (4, 0, 10), (5, 0, 10), (6, 0, 29), (7, (-2147483648), 2147483647)] [(13, (1, 0, 0), (0, 6, 0))] [(2, 13, 0), (0, 0, 0), (0, 1, 0), (0, 2, 0), (0, 3, 0), (0, 7, 0)] [] [(32, [(2, 13, 0), (0, 0, 0), (0, 1, 0), (0, 2, 0), (0, 3, 0), (0, 7, 0)], [(0, 2, 0), (0, 6, 0), (2, 16, 0)], [(0, 0, 9), (1, 0, 9), (2, 1, 9999), (3, 0, 9), (4, 0, 10), (5, 0, 10), (6, 0, 29), (7, (-2147483648), 2147483647)], [], [], [(13, (1, 0, 0), (0, 6, 0))])] (by decide +kernel) (ρ0 := (fun s => [x0, x1, x2, x3, x4, x5, x6, x7].getD s 0)) hB eF eC ⟨rfl, ⟨rfl, ⟨rfl, ⟨rfl, ⟨rfl, ⟨rfl, trivial⟩⟩⟩⟩⟩⟩ trivial ?_
  refine List.forall_mem_cons.mpr ⟨?_, fun _ h => absurd h List.not_mem_nil⟩
  · intro ρ τ Lc stc hx g1 g2 g3 g4 g5 g6 g7 g8
    have e0 : ρ 0 = x0 := hx 0 (by decide)
    have e1 : ρ 1 = x1 := hx 1 (by decide)
    have e2 : ρ 2 = x2 := hx 2 (by decide)
    have e3 : ρ 3 = x3 := hx 3 (by decide)
    have e4 : ρ 4 = x4 := hx 4 (by decide)
    have e5 : ρ 5 = x5 := hx 5 (by decide)
    have e6 : ρ 6 = x6 := hx 6 (by decide)
    have e7 : ρ 7 = x7 := hx 7 (by decide)
    subst e0
    subst e1
    subst e2
    subst e3
    subst e4
    subst e5
    subst e6
    subst e7
    have g7 := g7 (by decide)
    match Lc, stc, g7, g8 with
    | [v0, v1, v2, v3, v4, v5], [w0, w1, w2], ⟨hv0, hv1, hv2, hv3, hv4, hv5, _⟩, ⟨hw0, hw1, hw2, _⟩ =>
      cases hv0
      cases hv1
      cases hv2
      cases hv3
      cases hv4
      cases hv5
      cases hw0
      cases hw1
      cases hw2
      exact l0 τ ρ  g1 g2 g3 g4 g5 g6
set_option maxRecDepth 100000 in
theorem zx_dadd_s5 {σ : pm_S} {Q : Option Value → pm_S → Prop} (x0 x1 x2 x3 x4 x5 x6 x7 : Int)  (hB : an_GB pm_B σ) (eF : (0 ≤ x0 ∧ x0 ≤ 9) ∧ (0 ≤ x1 ∧ x1 ≤ 9) ∧ (1 ≤ x2 ∧ x2 ≤ 9999) ∧ (0 ≤ x3 ∧ x3 ≤ 9) ∧ (0 ≤ x4 ∧ x4 ≤ 10) ∧ (0 ≤ x5 ∧ x5 ≤ 10) ∧ (0 ≤ x6 ∧ x6 ≤ 29) ∧ ((-2147483648) ≤ x7 ∧ x7 ≤ 2147483647) ∧ True) (eC : (σ.1 13 0).toInt = x6 ∧ True)
    (l0 : ∀ (τ : pm_S) (y : Nat → Int), an_GB pm_B τ → FQ [(13, 0)] σ τ → ((0 ≤ x0 ∧ x0 ≤ 9) ∧ (0 ≤ x1 ∧ x1 ≤ 9) ∧ (1 ≤ x2 ∧ x2 ≤ 9999) ∧ (0 ≤ x3 ∧ x3 ≤ 9) ∧ (0 ≤ x4 ∧ x4 ≤ 10) ∧ (0 ≤ x5 ∧ x5 ≤ 10) ∧ (0 ≤ x6 ∧ x6 ≤ 29) ∧ ((-2147483648) ≤ x7 ∧ x7 ≤ 2147483647) ∧ True) → (True) → (True) → ((τ.1 13 0).toInt = x6 ∧ True) → Ok 2 21 38 [.ref 13, .int (Int32.ofInt (x0)), .int (Int32.ofInt (x1)), .int (Int32.ofInt (x2)), .int (Int32.ofInt (x3)), .int (Int32.ofInt (x7))] [.int (Int32.ofInt (x3)), .int (Int32.ofInt (x6)), .ref 17] τ Q)
    : Ok 2 21 33 [.ref 13, .int (Int32.ofInt (x0)), .int (Int32.ofInt (x1)), .int (Int32.ofInt (x2)), .int (Int32.ofInt (x3)), .int (Int32.ofInt (x7))] [] σ Q := by
  refine an_seg (B := pm_B) (F := [(13, 0)]) (T := []) (S := []) (fun _ h => absurd h List.not_mem_nil) (k := 2) (d := 20) (cs := [2, 20, 26, 32, 38, 44, 50, 56]) 7 33 8 [(0, 0, 9), (1, 0, 9), (2, 1, 9999), (3, 0, 9), (4, 0, 10), (5, 0, 10), (6, 0, 29), (7, (-2147483648), 2147483647)] [(13, (1, 0, 0), (0, 6, 0))] [(2, 13, 0), (0, 0, 0), (0, 1, 0), (0, 2, 0), (0, 3, 0), (0, 7, 0)] [] [(38, [(2, 13, 0), (0, 0, 0), (0, 1, 0), (0, 2, 0), (0, 3, 0), (0, 7, 0)], [(0, 3, 0), (0, 6, 0), (2, 17, 0)], [(0, 0, 9), (1, 0, 9), (2, 1, 9999), (3, 0, 9), (4, 0, 10), (5, 0, 10), (6, 0, 29), (7, (-2147483648), 2147483647)], [], [], [(13, (1, 0, 0), (0, 6, 0))])] (by decide +kernel) (ρ0 := (fun s => [x0, x1, x2, x3, x4, x5, x6, x7].getD s 0)) hB eF eC ⟨rfl, ⟨rfl, ⟨rfl, ⟨rfl, ⟨rfl, ⟨rfl, trivial⟩⟩⟩⟩⟩⟩ trivial ?_
  refine List.forall_mem_cons.mpr ⟨?_, fun _ h => absurd h List.not_mem_nil⟩
  · intro ρ τ Lc stc hx g1 g2 g3 g4 g5 g6 g7 g8
    have e0 : ρ 0 = x0 := hx 0 (by decide)
    have e1 : ρ 1 = x1 := hx 1 (by decide)
    have e2 : ρ 2 = x2 := hx 2 (by decide)
    have e3 : ρ 3 = x3 := hx 3 (by decide)
    have e4 : ρ 4 = x4 := hx 4 (by decide)
    have e5 : ρ 5 = x5 := hx 5 (by decide)
    have e6 : ρ 6 = x6 := hx 6 (by decide)
    have e7 : ρ 7 = x7 := hx 7 (by decide)
    subst e0
    subst e1
    subst e2
    subst e3
    subst e4
    subst e5
    subst e6
    subst e7
    have g7 := g7 (by decide)
    match Lc, stc, g7, g8 with
    | [v0, v1, v2, v3, v4, v5], [w0, w1, w2], ⟨hv0, hv1, hv2, hv3, hv4, hv5, _⟩, ⟨hw0, hw1, hw2, _⟩ =>
      cases hv0
      cases hv1
      cases hv2
      cases hv3
      cases hv4
      cases hv5
      cases hw0
      cases hw1
      cases hw2
      exact l0 τ ρ  g1 g2 g3 g4 g5 g6
set_option maxRecDepth 100000 in
theorem zx_dadd_s6 {σ : pm_S} {Q : Option Value → pm_S → Prop} (x0 x1 x2 x3 x4 x5 x6 x7 : Int)  (hB : an_GB pm_B σ) (eF : (0 ≤ x0 ∧ x0 ≤ 9) ∧ (0 ≤ x1 ∧ x1 ≤ 9) ∧ (1 ≤ x2 ∧ x2 ≤ 9999) ∧ (0 ≤ x3 ∧ x3 ≤ 9) ∧ (0 ≤ x4 ∧ x4 ≤ 10) ∧ (0 ≤ x5 ∧ x5 ≤ 10) ∧ (0 ≤ x6 ∧ x6 ≤ 29) ∧ ((-2147483648) ≤ x7 ∧ x7 ≤ 2147483647) ∧ True) (eC : (σ.1 13 0).toInt = x6 ∧ True)
    (l0 : ∀ (τ : pm_S) (y : Nat → Int), an_GB pm_B τ → FQ [(13, 0)] σ τ → ((0 ≤ x0 ∧ x0 ≤ 9) ∧ (0 ≤ x1 ∧ x1 ≤ 9) ∧ (1 ≤ x2 ∧ x2 ≤ 9999) ∧ (0 ≤ x3 ∧ x3 ≤ 9) ∧ (0 ≤ x4 ∧ x4 ≤ 10) ∧ (0 ≤ x5 ∧ x5 ≤ 10) ∧ (0 ≤ x6 ∧ x6 ≤ 29) ∧ ((-2147483648) ≤ x7 ∧ x7 ≤ 2147483647) ∧ True) → (True) → (True) → ((τ.1 13 0).toInt = x6 ∧ True) → Ok 2 21 44 [.ref 13, .int (Int32.ofInt (x0)), .int (Int32.ofInt (x1)), .int (Int32.ofInt (x2)), .int (Int32.ofInt (x3)), .int (Int32.ofInt (x7))] [.int (Int32.ofInt (x7)), .int (Int32.ofInt (x6)), .ref 18] τ Q)
    : Ok 2 21 39 [.ref 13, .int (Int32.ofInt (x0)), .int (Int32.ofInt (x1)), .int (Int32.ofInt (x2)), .int (Int32.ofInt (x3)), .int (Int32.ofInt (x7))] [] σ Q := by
  refine an_seg (B := pm_B) (F := [(13, 0)]) (T := []) (S := []) (fun _ h => absurd h List.not_mem_nil) (k := 2) (d := 20) (cs := [2, 20, 26, 32, 38, 44, 50, 56]) 7 39 8 [(0, 0, 9), (1, 0, 9), (2, 1, 9999), (3, 0, 9), (4, 0, 10), (5, 0, 10), (6, 0, 29), (7, (-2147483648), 2147483647)] [(13, (1, 0, 0), (0, 6, 0))] [(2, 13, 0), (0, 0, 0), (0, 1, 0), (0, 2, 0), (0, 3, 0), (0, 7, 0)] [] [(44, [(2, 13, 0), (0, 0, 0), (0, 1, 0), (0, 2, 0), (0, 3, 0), (0, 7, 0)], [(0, 7, 0), (0, 6, 0), (2, 18, 0)], [(0, 0, 9), (1, 0, 9), (2, 1, 9999), (3, 0, 9), (4, 0, 10), (5, 0, 10), (6, 0, 29), (7, (-2147483648), 2147483647)], [], [], [(13, (1, 0, 0), (0, 6, 0))])] (by decide +kernel) (ρ0 := (fun s => [x0, x1, x2, x3, x4, x5, x6, x7].getD s 0)) hB eF eC ⟨rfl, ⟨rfl, ⟨rfl, ⟨rfl, ⟨rfl, ⟨rfl, trivial⟩⟩⟩⟩⟩⟩ trivial ?_
  refine List.forall_mem_cons.mpr ⟨?_, fun _ h => absurd h List.not_mem_nil⟩
  · intro ρ τ Lc stc hx g1 g2 g3 g4 g5 g6 g7 g8
    have e0 : ρ 0 = x0 := hx 0 (by decide)
    have e1 : ρ 1 = x1 := hx 1 (by decide)
    have e2 : ρ 2 = x2 := hx 2 (by decide)
    have e3 : ρ 3 = x3 := hx 3 (by decide)
    have e4 : ρ 4 = x4 := hx 4 (by decide)
    have e5 : ρ 5 = x5 := hx 5 (by decide)
    have e6 : ρ 6 = x6 := hx 6 (by decide)
    have e7 : ρ 7 = x7 := hx 7 (by decide)
    subst e0
    subst e1
    subst e2
    subst e3
    subst e4
    subst e5
    subst e6
    subst e7
    have g7 := g7 (by decide)
    match Lc, stc, g7, g8 with
    | [v0, v1, v2, v3, v4, v5], [w0, w1, w2], ⟨hv0, hv1, hv2, hv3, hv4, hv5, _⟩, ⟨hw0, hw1, hw2, _⟩ =>
      cases hv0
      cases hv1
      cases hv2
      cases hv3
      cases hv4
      cases hv5
      cases hw0
      cases hw1
      cases hw2
      exact l0 τ ρ  g1 g2 g3 g4 g5 g6
set_option maxRecDepth 100000 in
theorem zx_dadd_s7 {σ : pm_S} {Q : Option Value → pm_S → Prop} (x0 x1 x2 x3 x4 x5 x6 x7 : Int)  (hB : an_GB pm_B σ) (eF : (0 ≤ x0 ∧ x0 ≤ 9) ∧ (0 ≤ x1 ∧ x1 ≤ 9) ∧ (1 ≤ x2 ∧ x2 ≤ 9999) ∧ (0 ≤ x3 ∧ x3 ≤ 9) ∧ (0 ≤ x4 ∧ x4 ≤ 10) ∧ (0 ≤ x5 ∧ x5 ≤ 10) ∧ (0 ≤ x6 ∧ x6 ≤ 29) ∧ ((-2147483648) ≤ x7 ∧ x7 ≤ 2147483647) ∧ True) (eC : (σ.1 13 0).toInt = x6 ∧ True)
    (l0 : ∀ (τ : pm_S) (y : Nat → Int), an_GB pm_B τ → FQ [(13, 0)] σ τ → ((0 ≤ x0 ∧ x0 ≤ 9) ∧ (0 ≤ x1 ∧ x1 ≤ 9) ∧ (1 ≤ x2 ∧ x2 ≤ 9999) ∧ (0 ≤ x3 ∧ x3 ≤ 9) ∧ (0 ≤ x4 ∧ x4 ≤ 10) ∧ (0 ≤ x5 ∧ x5 ≤ 10) ∧ (0 ≤ x6 ∧ x6 ≤ 29) ∧ ((-2147483648) ≤ x7 ∧ x7 ≤ 2147483647) ∧ True) → (True) → (True) → ((τ.1 13 0).toInt = x6 ∧ True) → Ok 2 21 50 [.ref 13, .int (Int32.ofInt (x0)), .int (Int32.ofInt (x1)), .int (Int32.ofInt (x2)), .int (Int32.ofInt (x3)), .int (Int32.ofInt (x7))] [.int (Int32.ofInt (-1)), .int (Int32.ofInt (x6)), .ref 19] τ Q)
    : Ok 2 21 45 [.ref 13, .int (Int32.ofInt (x0)), .int (Int32.ofInt (x1)), .int (Int32.ofInt (x2)), .int (Int32.ofInt (x3)), .int (Int32.ofInt (x7))] [] σ Q := by
  refine an_seg (B := pm_B) (F := [(13, 0)]) (T := []) (S := []) (fun _ h => absurd h List.not_mem_nil) (k := 2) (d := 20) (cs := [2, 20, 26, 32, 38, 44, 50, 56]) 7 45 8 [(0, 0, 9), (1, 0, 9), (2, 1, 9999), (3, 0, 9), (4, 0, 10), (5, 0, 10), (6, 0, 29), (7, (-2147483648), 2147483647)] [(13, (1, 0, 0), (0, 6, 0))] [(2, 13, 0), (0, 0, 0), (0, 1, 0), (0, 2, 0), (0, 3, 0), (0, 7, 0)] [] [(50, [(2, 13, 0), (0, 0, 0), (0, 1, 0), (0, 2, 0), (0, 3, 0), (0, 7, 0)], [(1, 0, (-1)), (0, 6, 0), (2, 19, 0)], [(0, 0, 9), (1, 0, 9), (2, 1, 9999), (3, 0, 9), (4, 0, 10), (5, 0, 10), (6, 0, 29), (7, (-2147483648), 2147483647)], [], [], [(13, (1, 0, 0), (0, 6, 0))])] (by decide +kernel) (ρ0 := (fun s => [x0, x1, x2, x3, x4, x5, x6, x7].getD s 0)) hB eF eC ⟨rfl, ⟨rfl, ⟨rfl, ⟨rfl, ⟨rfl, ⟨rfl, trivial⟩⟩⟩⟩⟩⟩ trivial ?_
  refine List.forall_mem_cons.mpr ⟨?_, fun _ h => absurd h List.not_mem_nil⟩
  · intro ρ τ Lc stc hx g1 g2 g3 g4 g5 g6 g7 g8
    have e0 : ρ 0 = x0 := hx 0 (by decide)
    have e1 : ρ 1 = x1 := hx 1 (by decide)
    have e2 : ρ 2 = x2 := hx 2 (by decide)
    have e3 : ρ 3 = x3 := hx 3 (by decide)
    have e4 : ρ 4 = x4 := hx 4 (by decide)
    have e5 : ρ 5 = x5 := hx 5 (by decide)
    have e6 : ρ 6 = x6 := hx 6 (by decide)
    have e7 : ρ 7 = x7 := hx 7 (by decide)
    subst e0
    subst e1
    subst e2
    subst e3
    subst e4
    subst e5
    subst e6
    subst e7
    have g7 := g7 (by decide)
    match Lc, stc, g7, g8 with
    | [v0, v1, v2, v3, v4, v5], [w0, w1, w2], ⟨hv0, hv1, hv2, hv3, hv4, hv5, _⟩, ⟨hw0, hw1, hw2, _⟩ =>
      cases hv0
      cases hv1
      cases hv2
      cases hv3
      cases hv4
      cases hv5
      cases hw0
      cases hw1
      cases hw2
      exact l0 τ ρ  g1 g2 g3 g4 g5 g6
set_option maxRecDepth 100000 in
theorem zx_dadd_s8 {σ : pm_S} {Q : Option Value → pm_S → Prop} (x0 x1 x2 x3 x4 x5 x6 x7 : Int)  (hB : an_GB pm_B σ) (eF : (0 ≤ x0 ∧ x0 ≤ 9) ∧ (0 ≤ x1 ∧ x1 ≤ 9) ∧ (1 ≤ x2 ∧ x2 ≤ 9999) ∧ (0 ≤ x3 ∧ x3 ≤ 9) ∧ (0 ≤ x4 ∧ x4 ≤ 10) ∧ (0 ≤ x5 ∧ x5 ≤ 10) ∧ (0 ≤ x6 ∧ x6 ≤ 29) ∧ ((-2147483648) ≤ x7 ∧ x7 ≤ 2147483647) ∧ True) (eC : (σ.1 13 0).toInt = x6 ∧ True)
    (l0 : ∀ (τ : pm_S) (y : Nat → Int), an_GB pm_B τ → FQ [(13, 0)] σ τ → ((0 ≤ x0 ∧ x0 ≤ 9) ∧ (0 ≤ x1 ∧ x1 ≤ 9) ∧ (1 ≤ x2 ∧ x2 ≤ 9999) ∧ (0 ≤ x3 ∧ x3 ≤ 9) ∧ (0 ≤ x4 ∧ x4 ≤ 10) ∧ (0 ≤ x5 ∧ x5 ≤ 10) ∧ (0 ≤ x6 ∧ x6 ≤ 29) ∧ ((-2147483648) ≤ x7 ∧ x7 ≤ 2147483647) ∧ True) → (True) → (True) → ((τ.1 13 0).toInt = x6 ∧ True) → Ok 2 21 56 [.ref 13, .int (Int32.ofInt (x0)), .int (Int32.ofInt (x1)), .int (Int32.ofInt (x2)), .int (Int32.ofInt (x3)), .int (Int32.ofInt (x7))] [.int (Int32.ofInt 0), .int (Int32.ofInt (x6)), .ref 20] τ Q)
    : Ok 2 21 51 [.ref 13, .int (Int32.ofInt (x0)), .int (Int32.ofInt (x1)), .int (Int32.ofInt (x2)), .int (Int32.ofInt (x3)), .int (Int32.ofInt (x7))] [] σ Q := by
  refine an_seg (B := pm_B) (F := [(13, 0)]) (T := []) (S := []) (fun _ h => absurd h List.not_mem_nil) (k := 2) (d := 20) (cs := [2, 20, 26, 32, 38, 44, 50, 56]) 7 51 8 [(0, 0, 9), (1, 0, 9), (2, 1, 9999), (3, 0, 9), (4, 0, 10), (5, 0, 10), (6, 0, 29), (7, (-2147483648), 2147483647)] [(13, (1, 0, 0), (0, 6, 0))] [(2, 13, 0), (0, 0, 0), (0, 1, 0), (0, 2, 0), (0, 3, 0), (0, 7, 0)] [] [(56, [(2, 13, 0), (0, 0, 0), (0, 1, 0), (0, 2, 0), (0, 3, 0), (0, 7, 0)], [(1, 0, 0), (0, 6, 0), (2, 20, 0)], [(0, 0, 9), (1, 0, 9), (2, 1, 9999), (3, 0, 9), (4, 0, 10), (5, 0, 10), (6, 0, 29), (7, (-2147483648), 2147483647)], [], [], [(13, (1, 0, 0), (0, 6, 0))])] (by decide +kernel) (ρ0 := (fun s => [x0, x1, x2, x3, x4, x5, x6, x7].getD s 0)) hB eF eC ⟨rfl, ⟨rfl, ⟨rfl, ⟨rfl, ⟨rfl, ⟨rfl, trivial⟩⟩⟩⟩⟩⟩ trivial ?_
  refine List.forall_mem_cons.mpr ⟨?_, fun _ h => absurd h List.not_mem_nil⟩
  · intro ρ τ Lc stc hx g1 g2 g3 g4 g5 g6 g7 g8
    have e0 : ρ 0 = x0 := hx 0 (by decide)
    have e1 : ρ 1 = x1 := hx 1 (by decide)
    have e2 : ρ 2 = x2 := hx 2 (by decide)
    have e3 : ρ 3 = x3 := hx 3 (by decide)
    have e4 : ρ 4 = x4 := hx 4 (by decide)
    have e5 : ρ 5 = x5 := hx 5 (by decide)
    have e6 : ρ 6 = x6 := hx 6 (by decide)
    have e7 : ρ 7 = x7 := hx 7 (by decide)
    subst e0
    subst e1
    subst e2
    subst e3
    subst e4
    subst e5
    subst e6
    subst e7
    have g7 := g7 (by decide)
    match Lc, stc, g7, g8 with
    | [v0, v1, v2, v3, v4, v5], [w0, w1, w2], ⟨hv0, hv1, hv2, hv3, hv4, hv5, _⟩, ⟨hw0, hw1, hw2, _⟩ =>
      cases hv0
      cases hv1
      cases hv2
      cases hv3
      cases hv4
      cases hv5
      cases hw0
      cases hw1
      cases hw2
      exact l0 τ ρ  g1 g2 g3 g4 g5 g6
set_option maxRecDepth 100000 in
theorem zx_dadd_s9 {σ : pm_S} {Q : Option Value → pm_S → Prop} (x0 x1 x2 x3 x4 x5 x6 x7 : Int)  (hB : an_GB pm_B σ) (eF : (0 ≤ x0 ∧ x0 ≤ 9) ∧ (0 ≤ x1 ∧ x1 ≤ 9) ∧ (1 ≤ x2 ∧ x2 ≤ 9999) ∧ (0 ≤ x3 ∧ x3 ≤ 9) ∧ (0 ≤ x4 ∧ x4 ≤ 10) ∧ (0 ≤ x5 ∧ x5 ≤ 10) ∧ (0 ≤ x6 ∧ x6 ≤ 29) ∧ ((-2147483648) ≤ x7 ∧ x7 ≤ 2147483647) ∧ True) (eC : (σ.1 13 0).toInt = x6 ∧ True)
    (l0 : ∀ (τ : pm_S) (y : Nat → Int), an_GB pm_B τ → FQ [(13, 0)] σ τ → ((0 ≤ x0 ∧ x0 ≤ 9) ∧ (0 ≤ x1 ∧ x1 ≤ 9) ∧ (1 ≤ x2 ∧ x2 ≤ 9999) ∧ (0 ≤ x3 ∧ x3 ≤ 9) ∧ (0 ≤ x4 ∧ x4 ≤ 10) ∧ (0 ≤ x5 ∧ x5 ≤ 10) ∧ (0 ≤ x6 ∧ x6 ≤ 29) ∧ ((-2147483648) ≤ x7 ∧ x7 ≤ 2147483647) ∧ True) → (True) → (True) → ((τ.1 13 0).toInt = x6 + 1 ∧ True) → Q (some (.int (Int32.ofInt (x6)))) τ)
    : Ok 2 21 57 [.ref 13, .int (Int32.ofInt (x0)), .int (Int32.ofInt (x1)), .int (Int32.ofInt (x2)), .int (Int32.ofInt (x3)), .int (Int32.ofInt (x7))] [] σ Q := by
  refine an_seg (B := pm_B) (F := [(13, 0)]) (T := []) (S := []) (fun _ h => absurd h List.not_mem_nil) (k := 2) (d := 20) (cs := [2, 20, 26, 32, 38, 44, 50, 56]) 13 57 8 [(0, 0, 9), (1, 0, 9), (2, 1, 9999), (3, 0, 9), (4, 0, 10), (5, 0, 10), (6, 0, 29), (7, (-2147483648), 2147483647)] [(13, (1, 0, 0), (0, 6, 0))] [(2, 13, 0), (0, 0, 0), (0, 1, 0), (0, 2, 0), (0, 3, 0), (0, 7, 0)] [] [(9999, [], [(0, 6, 0)], [(0, 0, 9), (1, 0, 9), (2, 1, 9999), (3, 0, 9), (4, 0, 10), (5, 0, 10), (6, 0, 29), (7, (-2147483648), 2147483647)], [], [], [(13, (1, 0, 0), (0, 6, 1))])] (by decide +kernel) (ρ0 := (fun s => [x0, x1, x2, x3, x4, x5, x6, x7].getD s 0)) hB eF eC ⟨rfl, ⟨rfl, ⟨rfl, ⟨rfl, ⟨rfl, ⟨rfl, trivial⟩⟩⟩⟩⟩⟩ trivial ?_
  refine List.forall_mem_cons.mpr ⟨?_, fun _ h => absurd h List.not_mem_nil⟩
  · intro ρ τ Lc stc hx g1 g2 g3 g4 g5 g6 g7 g8
    have e0 : ρ 0 = x0 := hx 0 (by decide)
    have e1 : ρ 1 = x1 := hx 1 (by decide)
    have e2 : ρ 2 = x2 := hx 2 (by decide)
    have e3 : ρ 3 = x3 := hx 3 (by decide)
    have e4 : ρ 4 = x4 := hx 4 (by decide)
    have e5 : ρ 5 = x5 := hx 5 (by decide)
    have e6 : ρ 6 = x6 := hx 6 (by decide)
    have e7 : ρ 7 = x7 := hx 7 (by decide)
    subst e0
    subst e1
    subst e2
    subst e3
    subst e4
    subst e5
    subst e6
    subst e7
    match stc, g8 with
    | [_], ⟨h, _⟩ => cases h; exact l0 τ ρ g1 g2 g3 g4 g5 g6
set_option maxRecDepth 20000 in
set_option maxHeartbeats 6000000 in
theorem zx_dadd {σ : pm_S} (x0 x1 x2 x3 x4 x5 x6 x7 : Int) (hB : an_GB pm_B σ) (g0 : 0 ≤ x0 ∧ x0 ≤ 9) (g1 : 0 ≤ x1 ∧ x1 ≤ 9) (g2 : (-2147483648) ≤ x2 ∧ x2 ≤ 2147483647) (g3 : 0 ≤ x3 ∧ x3 ≤ 9) (g4 : 0 ≤ x4 ∧ x4 ≤ 10) (g5 : 0 ≤ x5 ∧ x5 ≤ 10) (g6 : 0 ≤ x6 ∧ x6 ≤ 30) (g7 : (-2147483648) ≤ x7 ∧ x7 ≤ 2147483647) (e0 : (σ.1 13 0).toInt = x6) : Sp 2 21 [.ref 13, .int (Int32.ofInt (x0)), .int (Int32.ofInt (x1)), .int (Int32.ofInt (x2)), .int (Int32.ofInt (x3)), .int (Int32.ofInt (x7))] σ (fun r τ => an_GB pm_B τ ∧ ((¬ (x0 ≠ x1 ∧ 1 ≤ x2 ∧ x2 ≤ 9999 ∧ x6 ≤ 29) ∧ r = some (.int (Int32.ofInt (-1))) ∧ (τ.1 13 0).toInt = x6 ∧ puF [(13, 0)] [] σ τ) ∨ ((x0 ≠ x1 ∧ 1 ≤ x2 ∧ x2 ≤ 9999 ∧ x6 ≤ 29) ∧ r = some (.int (Int32.ofInt (x6))) ∧ (τ.1 13 0).toInt = x6 + 1 ∧ puF [(13, 0)] [(20, (x6).toNat, Int32.ofInt (0)), (19, (x6).toNat, Int32.ofInt (-1)), (18, (x6).toNat, Int32.ofInt (x7)), (17, (x6).toNat, Int32.ofInt (x3)), (16, (x6).toNat, Int32.ofInt (x2)), (15, (x6).toNat, Int32.ofInt (x1)), (14, (x6).toNat, Int32.ofInt (x0))] σ τ))) := by
  refine Sp.at rfl rfl ?_
  refine zx_dadd_s0 x0 x1 x2 x3 x4 x5 x6 x7 hB ⟨g0, g1, g2, g3, g4, g5, g6, g7, trivial⟩ ⟨e0, trivial⟩ ?_
  · intro τ1 y1  hB1 hF1 f1 rr1 _ c1
    obtain ⟨f1_0, f1_1, f1_2, f1_3, f1_4, f1_5, f1_6, f1_7, -⟩ := f1
    obtain ⟨c1_0, -⟩ := c1
    have hG1 : puF [(13, 0)] [] σ τ1 := puF.fq rfl (puF.rf _ _) hF1
    refine Ok.ic rfl rfl (by omega) (by omega) (by omega) (by omega) (fun z2 => ?_) (fun z2 => ?_)
    · have z2 : x0 = x1 := z2
      refine zx_dadd_s1 x0 x1 x2 x3 x4 x5 x6 x7 hB1 ⟨f1_0, f1_1, f1_2, f1_3, f1_4, f1_5, f1_6, f1_7, trivial⟩ ⟨c1_0, trivial⟩ ?_
      · intro τ3 y3  hB3 hF3 f3 rr3 _ c3
        obtain ⟨f3_0, f3_1, f3_2, f3_3, f3_4, f3_5, f3_6, f3_7, -⟩ := f3
        clear f1_0 f1_1 f1_2 f1_3 f1_4 f1_5 f1_6 f1_7 c1_0
        obtain ⟨c3_0, -⟩ := c3
        have hG3 : puF [(13, 0)] [] σ τ3 := puF.fq rfl hG1 hF3
        exact ⟨hB3, Or.inl ⟨by omega, rfl, c3_0, hG3⟩⟩
    · have z2 : x0 ≠ x1 := z2
      refine zx_dadd_s2 x0 x1 x2 x3 x4 x5 x6 x7 hB1 ⟨f1_0, f1_1, f1_2, f1_3, f1_4, f1_5, f1_6, f1_7, trivial⟩ ⟨c1_0, trivial⟩ ?_ ?_ ?_ ?_
      · intro τ4 y4  hB4 hF4 f4 rr4 _ c4
        obtain ⟨f4_0, f4_1, f4_2, f4_3, f4_4, f4_5, f4_6, f4_7, -⟩ := f4
        clear f1_0 f1_1 f1_2 f1_3 f1_4 f1_5 f1_6 f1_7 c1_0
        obtain ⟨c4_0, -⟩ := c4
        have hG4 : puF [(13, 0)] [] σ τ4 := puF.fq rfl hG1 hF4
        exact ⟨hB4, Or.inl ⟨by omega, rfl, c4_0, hG4⟩⟩
      · intro τ5 y5  hB5 hF5 f5 rr5 _ c5
        obtain ⟨f5_0, f5_1, f5_2, f5_3, f5_4, f5_5, f5_6, f5_7, -⟩ := f5
        clear f1_0 f1_1 f1_2 f1_3 f1_4 f1_5 f1_6 f1_7 c1_0
        obtain ⟨c5_0, -⟩ := c5
        have hG5 : puF [(13, 0)] [] σ τ5 := puF.fq rfl hG1 hF5
        exact ⟨hB5, Or.inl ⟨by omega, rfl, c5_0, hG5⟩⟩
      · intro τ6 y6  hB6 hF6 f6 rr6 _ c6
        obtain ⟨f6_0, f6_1, f6_2, f6_3, f6_4, f6_5, f6_6, f6_7, -⟩ := f6
        clear f1_0 f1_1 f1_2 f1_3 f1_4 f1_5 f1_6 f1_7 c1_0
        obtain ⟨c6_0, -⟩ := c6
        have hG6 : puF [(13, 0)] [] σ τ6 := puF.fq rfl hG1 hF6
        refine Ok.ast (n := 30) rfl rfl rfl (by decide) (by omega) (by omega) ?_
        have hG7 : puF [(13, 0)] [(14, (x6).toNat, Int32.ofInt (x0))] σ (put τ6 14 (x6).toNat (Int32.ofInt (x0))) := puF.put hG6
        have hB7 : an_GB pm_B (put τ6 14 (x6).toNat (Int32.ofInt (x0))) := put_GB hB6 (by
          show (0 : Int) ≤ (Int32.ofInt (x0)).toInt ∧ (Int32.ofInt (x0)).toInt ≤ 9
          rw [ti_of (by omega) (by omega)]
          omega)
        have e7_13_0 : ((put τ6 14 (x6).toNat (Int32.ofInt (x0))).1 13 0).toInt = x6 := (congrArg Int32.toInt (put_nr (by decide))).trans c6_0
        generalize put τ6 14 (x6).toNat (Int32.ofInt (x0)) = υ7 at hG7 hB7 e7_13_0 ⊢
        clear c6_0
        refine zx_dadd_s3 x0 x1 x2 x3 x4 x5 x6 x7 hB7 ⟨f6_0, f6_1, f6_2, f6_3, f6_4, f6_5, f6_6, f6_7, trivial⟩ ⟨e7_13_0, trivial⟩ ?_
        · intro τ8 y8  hB8 hF8 f8 rr8 _ c8
          obtain ⟨f8_0, f8_1, f8_2, f8_3, f8_4, f8_5, f8_6, f8_7, -⟩ := f8
          clear f6_0 f6_1 f6_2 f6_3 f6_4 f6_5 f6_6 f6_7 e7_13_0
          obtain ⟨c8_0, -⟩ := c8
          have hG8 : puF [(13, 0)] [(14, (x6).toNat, Int32.ofInt (x0))] σ τ8 := puF.fq rfl hG7 hF8
          refine Ok.ast (n := 30) rfl rfl rfl (by decide) (by omega) (by omega) ?_
          have hG9 : puF [(13, 0)] [(15, (x6).toNat, Int32.ofInt (x1)), (14, (x6).toNat, Int32.ofInt (x0))] σ (put τ8 15 (x6).toNat (Int32.ofInt (x1))) := puF.put hG8
          have hB9 : an_GB pm_B (put τ8 15 (x6).toNat (Int32.ofInt (x1))) := put_GB hB8 (by
            show (0 : Int) ≤ (Int32.ofInt (x1)).toInt ∧ (Int32.ofInt (x1)).toInt ≤ 9
            rw [ti_of (by omega) (by omega)]
            omega)
          have e9_13_0 : ((put τ8 15 (x6).toNat (Int32.ofInt (x1))).1 13 0).toInt = x6 := (congrArg Int32.toInt (put_nr (by decide))).trans c8_0
          generalize put τ8 15 (x6).toNat (Int32.ofInt (x1)) = υ9 at hG9 hB9 e9_13_0 ⊢
          clear c8_0
          refine zx_dadd_s4 x0 x1 x2 x3 x4 x5 x6 x7 hB9 ⟨f8_0, f8_1, f8_2, f8_3, f8_4, f8_5, f8_6, f8_7, trivial⟩ ⟨e9_13_0, trivial⟩ ?_
          · intro τ10 y10  hB10 hF10 f10 rr10 _ c10
            obtain ⟨f10_0, f10_1, f10_2, f10_3, f10_4, f10_5, f10_6, f10_7, -⟩ := f10
            clear f8_0 f8_1 f8_2 f8_3 f8_4 f8_5 f8_6 f8_7 e9_13_0
            obtain ⟨c10_0, -⟩ := c10
            have hG10 : puF [(13, 0)] [(15, (x6).toNat, Int32.ofInt (x1)), (14, (x6).toNat, Int32.ofInt (x0))] σ τ10 := puF.fq rfl hG9 hF10
            refine Ok.ast (n := 30) rfl rfl rfl (by decide) (by omega) (by omega) ?_
            have hG11 : puF [(13, 0)] [(16, (x6).toNat, Int32.ofInt (x2)), (15, (x6).toNat, Int32.ofInt (x1)), (14, (x6).toNat, Int32.ofInt (x0))] σ (put τ10 16 (x6).toNat (Int32.ofInt (x2))) := puF.put hG10
            have hB11 : an_GB pm_B (put τ10 16 (x6).toNat (Int32.ofInt (x2))) := put_GB hB10 (by
              show ((-2147483648) : Int) ≤ (Int32.ofInt (x2)).toInt ∧ (Int32.ofInt (x2)).toInt ≤ 2147483647
              rw [ti_of (by omega) (by omega)]
              omega)
            have e11_13_0 : ((put τ10 16 (x6).toNat (Int32.ofInt (x2))).1 13 0).toInt = x6 := (congrArg Int32.toInt (put_nr (by decide))).trans c10_0
            generalize put τ10 16 (x6).toNat (Int32.ofInt (x2)) = υ11 at hG11 hB11 e11_13_0 ⊢
            clear c10_0
            refine zx_dadd_s5 x0 x1 x2 x3 x4 x5 x6 x7 hB11 ⟨f10_0, f10_1, f10_2, f10_3, f10_4, f10_5, f10_6, f10_7, trivial⟩ ⟨e11_13_0, trivial⟩ ?_
            · intro τ12 y12  hB12 hF12 f12 rr12 _ c12
              obtain ⟨f12_0, f12_1, f12_2, f12_3, f12_4, f12_5, f12_6, f12_7, -⟩ := f12
              clear f10_0 f10_1 f10_2 f10_3 f10_4 f10_5 f10_6 f10_7 e11_13_0
              obtain ⟨c12_0, -⟩ := c12
              have hG12 : puF [(13, 0)] [(16, (x6).toNat, Int32.ofInt (x2)), (15, (x6).toNat, Int32.ofInt (x1)), (14, (x6).toNat, Int32.ofInt (x0))] σ τ12 := puF.fq rfl hG11 hF12
              refine Ok.ast (n := 30) rfl rfl rfl (by decide) (by omega) (by omega) ?_
              have hG13 : puF [(13, 0)] [(17, (x6).toNat, Int32.ofInt (x3)), (16, (x6).toNat, Int32.ofInt (x2)), (15, (x6).toNat, Int32.ofInt (x1)), (14, (x6).toNat, Int32.ofInt (x0))] σ (put τ12 17 (x6).toNat (Int32.ofInt (x3))) := puF.put hG12
              have hB13 : an_GB pm_B (put τ12 17 (x6).toNat (Int32.ofInt (x3))) := put_GB hB12 (by
                show (0 : Int) ≤ (Int32.ofInt (x3)).toInt ∧ (Int32.ofInt (x3)).toInt ≤ 9
                rw [ti_of (by omega) (by omega)]
                omega)
              have e13_13_0 : ((put τ12 17 (x6).toNat (Int32.ofInt (x3))).1 13 0).toInt = x6 := (congrArg Int32.toInt (put_nr (by decide))).trans c12_0
              generalize put τ12 17 (x6).toNat (Int32.ofInt (x3)) = υ13 at hG13 hB13 e13_13_0 ⊢
              clear c12_0
              refine zx_dadd_s6 x0 x1 x2 x3 x4 x5 x6 x7 hB13 ⟨f12_0, f12_1, f12_2, f12_3, f12_4, f12_5, f12_6, f12_7, trivial⟩ ⟨e13_13_0, trivial⟩ ?_
              · intro τ14 y14  hB14 hF14 f14 rr14 _ c14
                obtain ⟨f14_0, f14_1, f14_2, f14_3, f14_4, f14_5, f14_6, f14_7, -⟩ := f14
                clear f12_0 f12_1 f12_2 f12_3 f12_4 f12_5 f12_6 f12_7 e13_13_0
                obtain ⟨c14_0, -⟩ := c14
                have hG14 : puF [(13, 0)] [(17, (x6).toNat, Int32.ofInt (x3)), (16, (x6).toNat, Int32.ofInt (x2)), (15, (x6).toNat, Int32.ofInt (x1)), (14, (x6).toNat, Int32.ofInt (x0))] σ τ14 := puF.fq rfl hG13 hF14
                refine Ok.ast (n := 30) rfl rfl rfl (by decide) (by omega) (by omega) ?_
                have hG15 : puF [(13, 0)] [(18, (x6).toNat, Int32.ofInt (x7)), (17, (x6).toNat, Int32.ofInt (x3)), (16, (x6).toNat, Int32.ofInt (x2)), (15, (x6).toNat, Int32.ofInt (x1)), (14, (x6).toNat, Int32.ofInt (x0))] σ (put τ14 18 (x6).toNat (Int32.ofInt (x7))) := puF.put hG14
                have hB15 : an_GB pm_B (put τ14 18 (x6).toNat (Int32.ofInt (x7))) := put_GB hB14 (by
                  show ((-2147483648) : Int) ≤ (Int32.ofInt (x7)).toInt ∧ (Int32.ofInt (x7)).toInt ≤ 2147483647
                  rw [ti_of (by omega) (by omega)]
                  omega)
                have e15_13_0 : ((put τ14 18 (x6).toNat (Int32.ofInt (x7))).1 13 0).toInt = x6 := (congrArg Int32.toInt (put_nr (by decide))).trans c14_0
                generalize put τ14 18 (x6).toNat (Int32.ofInt (x7)) = υ15 at hG15 hB15 e15_13_0 ⊢
                clear c14_0
                refine zx_dadd_s7 x0 x1 x2 x3 x4 x5 x6 x7 hB15 ⟨f14_0, f14_1, f14_2, f14_3, f14_4, f14_5, f14_6, f14_7, trivial⟩ ⟨e15_13_0, trivial⟩ ?_
                · intro τ16 y16  hB16 hF16 f16 rr16 _ c16
                  obtain ⟨f16_0, f16_1, f16_2, f16_3, f16_4, f16_5, f16_6, f16_7, -⟩ := f16
                  clear f14_0 f14_1 f14_2 f14_3 f14_4 f14_5 f14_6 f14_7 e15_13_0
                  obtain ⟨c16_0, -⟩ := c16
                  have hG16 : puF [(13, 0)] [(18, (x6).toNat, Int32.ofInt (x7)), (17, (x6).toNat, Int32.ofInt (x3)), (16, (x6).toNat, Int32.ofInt (x2)), (15, (x6).toNat, Int32.ofInt (x1)), (14, (x6).toNat, Int32.ofInt (x0))] σ τ16 := puF.fq rfl hG15 hF16
                  refine Ok.ast (n := 30) rfl rfl rfl (by decide) (by omega) (by omega) ?_
                  have hG17 : puF [(13, 0)] [(19, (x6).toNat, Int32.ofInt (-1)), (18, (x6).toNat, Int32.ofInt (x7)), (17, (x6).toNat, Int32.ofInt (x3)), (16, (x6).toNat, Int32.ofInt (x2)), (15, (x6).toNat, Int32.ofInt (x1)), (14, (x6).toNat, Int32.ofInt (x0))] σ (put τ16 19 (x6).toNat (Int32.ofInt (-1))) := puF.put hG16
                  have hB17 : an_GB pm_B (put τ16 19 (x6).toNat (Int32.ofInt (-1))) := put_GB hB16 (by
                    show ((-2147483648) : Int) ≤ (Int32.ofInt (-1)).toInt ∧ (Int32.ofInt (-1)).toInt ≤ 2147483647
                    rw [ti_of (by omega) (by omega)]
                    omega)
                  have e17_13_0 : ((put τ16 19 (x6).toNat (Int32.ofInt (-1))).1 13 0).toInt = x6 := (congrArg Int32.toInt (put_nr (by decide))).trans c16_0
                  generalize put τ16 19 (x6).toNat (Int32.ofInt (-1)) = υ17 at hG17 hB17 e17_13_0 ⊢
                  clear c16_0
                  refine zx_dadd_s8 x0 x1 x2 x3 x4 x5 x6 x7 hB17 ⟨f16_0, f16_1, f16_2, f16_3, f16_4, f16_5, f16_6, f16_7, trivial⟩ ⟨e17_13_0, trivial⟩ ?_
                  · intro τ18 y18  hB18 hF18 f18 rr18 _ c18
                    obtain ⟨f18_0, f18_1, f18_2, f18_3, f18_4, f18_5, f18_6, f18_7, -⟩ := f18
                    clear f16_0 f16_1 f16_2 f16_3 f16_4 f16_5 f16_6 f16_7 e17_13_0
                    obtain ⟨c18_0, -⟩ := c18
                    have hG18 : puF [(13, 0)] [(19, (x6).toNat, Int32.ofInt (-1)), (18, (x6).toNat, Int32.ofInt (x7)), (17, (x6).toNat, Int32.ofInt (x3)), (16, (x6).toNat, Int32.ofInt (x2)), (15, (x6).toNat, Int32.ofInt (x1)), (14, (x6).toNat, Int32.ofInt (x0))] σ τ18 := puF.fq rfl hG17 hF18
                    refine Ok.ast (n := 30) rfl rfl rfl (by decide) (by omega) (by omega) ?_
                    have hG19 : puF [(13, 0)] [(20, (x6).toNat, Int32.ofInt 0), (19, (x6).toNat, Int32.ofInt (-1)), (18, (x6).toNat, Int32.ofInt (x7)), (17, (x6).toNat, Int32.ofInt (x3)), (16, (x6).toNat, Int32.ofInt (x2)), (15, (x6).toNat, Int32.ofInt (x1)), (14, (x6).toNat, Int32.ofInt (x0))] σ (put τ18 20 (x6).toNat (Int32.ofInt 0)) := puF.put hG18
                    have hB19 : an_GB pm_B (put τ18 20 (x6).toNat (Int32.ofInt 0)) := put_GB hB18 (by
                      show ((-2147483648) : Int) ≤ (Int32.ofInt 0).toInt ∧ (Int32.ofInt 0).toInt ≤ 2147483647
                      rw [ti_of (by omega) (by omega)]
                      omega)
                    have e19_13_0 : ((put τ18 20 (x6).toNat (Int32.ofInt 0)).1 13 0).toInt = x6 := (congrArg Int32.toInt (put_nr (by decide))).trans c18_0
                    generalize put τ18 20 (x6).toNat (Int32.ofInt 0) = υ19 at hG19 hB19 e19_13_0 ⊢
                    clear c18_0
                    refine zx_dadd_s9 x0 x1 x2 x3 x4 x5 x6 x7 hB19 ⟨f18_0, f18_1, f18_2, f18_3, f18_4, f18_5, f18_6, f18_7, trivial⟩ ⟨e19_13_0, trivial⟩ ?_
                    · intro τ20 y20  hB20 hF20 f20 rr20 _ c20
                      obtain ⟨f20_0, f20_1, f20_2, f20_3, f20_4, f20_5, f20_6, f20_7, -⟩ := f20
                      clear f18_0 f18_1 f18_2 f18_3 f18_4 f18_5 f18_6 f18_7 e19_13_0
                      obtain ⟨c20_0, -⟩ := c20
                      have hG20 : puF [(13, 0)] [(20, (x6).toNat, Int32.ofInt 0), (19, (x6).toNat, Int32.ofInt (-1)), (18, (x6).toNat, Int32.ofInt (x7)), (17, (x6).toNat, Int32.ofInt (x3)), (16, (x6).toNat, Int32.ofInt (x2)), (15, (x6).toNat, Int32.ofInt (x1)), (14, (x6).toNat, Int32.ofInt (x0))] σ τ20 := puF.fq rfl hG19 hF20
                      exact ⟨hB20, Or.inr ⟨by omega, rfl, c20_0, hG20⟩⟩
      · intro τ21 y21  hB21 hF21 f21 rr21 _ c21
        obtain ⟨f21_0, f21_1, f21_2, f21_3, f21_4, f21_5, f21_6, f21_7, -⟩ := f21
        clear f1_0 f1_1 f1_2 f1_3 f1_4 f1_5 f1_6 f1_7 c1_0
        obtain ⟨c21_0, -⟩ := c21
        have hG21 : puF [(13, 0)] [] σ τ21 := puF.fq rfl hG1 hF21
        exact ⟨hB21, Or.inl ⟨by omega, rfl, c21_0, hG21⟩⟩
