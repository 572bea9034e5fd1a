/-! shares: the sums, pieces -/
set_option maxRecDepth 100000 in
theorem sy_c0 {σ : pm_S} {Q : Option Value → pm_S → Prop} (x0 x1 x2 : Int) (v4 : Value) (v5 : Value) (v6 : Value) (v7 : Value) (hv4 : v4.category = 1) (hv5 : v5.category = 1) (hv6 : v6.category = 1) (hv7 : v7.category = 1) (hB : an_GB pm_B σ) (eF : (0 ≤ x0 ∧ x0 ≤ 1023) ∧ (0 ≤ x1 ∧ x1 ≤ 9) ∧ (0 ≤ x2 ∧ x2 ≤ 10) ∧ True)
    (l0 : ∀ (τ : pm_S) (y : Nat → Int) (v6 : Value) (v7 : Value), v6.category = 1 → v7.category = 1 → an_GB pm_B τ → FQ [] σ τ → ((0 ≤ x0 ∧ x0 ≤ 1023) ∧ (0 ≤ x1 ∧ x1 ≤ 9) ∧ (0 ≤ x2 ∧ x2 ≤ 10) ∧ True) → (True) → (True) → (True) → Ok 110 25 4 [.ref 85, .int (Int32.ofInt (x0)), .int (Int32.ofInt (x1)), .int (Int32.ofInt (x2)), .int (Int32.ofInt 0), .int (Int32.ofInt (x0)), v6, v7] [] τ Q)
    : Ok 110 25 0 [.ref 85, .int (Int32.ofInt (x0)), .int (Int32.ofInt (x1)), .int (Int32.ofInt (x2)), v4, v5, v6, v7] [] σ Q := by
  refine an_seg (B := pm_B) (F := []) (T := []) (S := []) (fun _ h => absurd h List.not_mem_nil) (k := 110) (d := 24) (cs := [4]) 6 0 3 [(0, 0, 1023), (1, 0, 9), (2, 0, 10)] [] [(2, 85, 0), (0, 0, 0), (0, 1, 0), (0, 2, 0), (5, 0, 0), (5, 0, 0), (5, 0, 0), (5, 0, 0)] [] [(4, [(2, 85, 0), (0, 0, 0), (0, 1, 0), (0, 2, 0), (1, 0, 0), (0, 0, 0), (5, 0, 0), (5, 0, 0)], [], [(0, 0, 1023), (1, 0, 9), (2, 0, 10)], [], [], [])] (by decide +kernel) (ρ0 := (fun s => [x0, x1, x2].getD s 0)) hB eF trivial ⟨rfl, ⟨rfl, ⟨rfl, ⟨rfl, ⟨hv4, ⟨hv5, ⟨hv6, ⟨hv7, trivial⟩⟩⟩⟩⟩⟩⟩⟩ trivial ?_
  refine List.forall_mem_cons.mpr ⟨?_, fun _ h => absurd h List.not_mem_nil⟩
  · intro ρ τ Lc stc hx g1 g2 g3 g4 g5 g6 g7 g8
    have e0 : ρ 0 = x0 := hx 0 (by decide)
    have e1 : ρ 1 = x1 := hx 1 (by decide)
    have e2 : ρ 2 = x2 := hx 2 (by decide)
    subst e0
    subst e1
    subst e2
    have g7 := g7 (by decide)
    match Lc, stc, g7, g8 with
    | [v0, v1, v2, v3, v4, v5, v6, v7], [], ⟨hv0, hv1, hv2, hv3, hv4, hv5, hv6, hv7, _⟩, _ =>
      cases hv0
      cases hv1
      cases hv2
      cases hv3
      cases hv4
      cases hv5
      exact l0 τ ρ v6 v7 hv6 hv7 g1 g2 g3 g4 g5 g6
set_option maxRecDepth 100000 in
theorem sy_c4 {σ : pm_S} {Q : Option Value → pm_S → Prop} (x0 x1 x2 x3 x4 : Int) (v6 : Value) (v7 : Value) (hv6 : v6.category = 1) (hv7 : v7.category = 1) (hB : an_GB pm_B σ) (eF : (0 ≤ x0 ∧ x0 ≤ 1023) ∧ (0 ≤ x1 ∧ x1 ≤ 9) ∧ (0 ≤ x2 ∧ x2 ≤ 10) ∧ ((-2147483648) ≤ x3 ∧ x3 ≤ 2147483647) ∧ ((-1) ≤ x4 ∧ x4 ≤ 1023) ∧ True)
    (l0 : ∀ (τ : pm_S) (y : Nat → Int) (v6 : Value) (v7 : Value), v6.category = 1 → v7.category = 1 → an_GB pm_B τ → FQ [] σ τ → ((0 ≤ x0 ∧ x0 ≤ 1023) ∧ (0 ≤ x1 ∧ x1 ≤ 9) ∧ (0 ≤ x2 ∧ x2 ≤ 10) ∧ ((-2147483648) ≤ x3 ∧ x3 ≤ 2147483647) ∧ ((-1) ≤ x4 ∧ x4 ≤ (-1)) ∧ True) → (True) → (True) → (True) → Ok 110 25 43 [.ref 85, .int (Int32.ofInt (x0)), .int (Int32.ofInt (x1)), .int (Int32.ofInt (x2)), .int (Int32.ofInt (x3)), .int (Int32.ofInt (x4)), v6, v7] [] τ Q)
    (l1 : ∀ (τ : pm_S) (y : Nat → Int) (v6 : Value) (v7 : Value), v6.category = 1 → v7.category = 1 → an_GB pm_B τ → FQ [] σ τ → ((0 ≤ x0 ∧ x0 ≤ 1023) ∧ (0 ≤ x1 ∧ x1 ≤ 9) ∧ (0 ≤ x2 ∧ x2 ≤ 10) ∧ ((-2147483648) ≤ x3 ∧ x3 ≤ 2147483647) ∧ (0 ≤ x4 ∧ x4 ≤ 1023) ∧ ((-1024) ≤ y 5 ∧ y 5 ≤ (-1)) ∧ (1 ≤ y 6 ∧ y 6 ≤ 1023) ∧ True) → (y 6 ≤ x4 + 0 ∧ True) → ((an_f 5 (Int32.ofInt (x0)) (Int32.ofInt ((-1)))).toInt = y 5 ∧ (an_f 3 (Int32.ofInt (x4)) (Int32.ofInt (y 5))).toInt = y 6 ∧ True) → (True) → Ok 110 25 41 [.ref 85, .int (Int32.ofInt (x0)), .int (Int32.ofInt (x1)), .int (Int32.ofInt (x2)), .int (Int32.ofInt (x3)), .int (Int32.ofInt (x4)), v6, v7] [] τ Q)
    (l2 : ∀ (τ : pm_S) (y : Nat → Int) (v7 : Value), v7.category = 1 → an_GB pm_B τ → FQ [] σ τ → ((0 ≤ x0 ∧ x0 ≤ 1023) ∧ (0 ≤ x1 ∧ x1 ≤ 9) ∧ (0 ≤ x2 ∧ x2 ≤ 10) ∧ ((-2147483648) ≤ x3 ∧ x3 ≤ 2147483647) ∧ (0 ≤ x4 ∧ x4 ≤ 1023) ∧ ((-1024) ≤ y 5 ∧ y 5 ≤ (-1)) ∧ (0 ≤ y 6 ∧ y 6 ≤ 0) ∧ (0 ≤ y 7 ∧ y 7 ≤ 10) ∧ (1 ≤ y 8 ∧ y 8 ≤ 512) ∧ (0 ≤ y 9 ∧ y 9 ≤ 1023) ∧ True) → (y 6 ≤ x4 + 0 ∧ True) → ((an_f 5 (Int32.ofInt (x0)) (Int32.ofInt ((-1)))).toInt = y 5 ∧ (an_f 3 (Int32.ofInt (x4)) (Int32.ofInt (y 5))).toInt = y 6 ∧ (an_f 16 (Int32.ofInt (x4)) (Int32.ofInt (0))).toInt = y 7 ∧ (an_f 6 (Int32.ofInt (1)) (Int32.ofInt (x1))).toInt = y 8 ∧ (an_f 4 (Int32.ofInt (x4)) (Int32.ofInt (y 8))).toInt = y 9 ∧ True) → (True) → Ok 110 25 21 [.ref 85, .int (Int32.ofInt (x0)), .int (Int32.ofInt (x1)), .int (Int32.ofInt (x2)), .int (Int32.ofInt (x3)), .int (Int32.ofInt (x4)), .int (Int32.ofInt (y 7)), v7] [.int (Int32.ofInt (y 9)), .ref 85] τ Q)
    : Ok 110 25 4 [.ref 85, .int (Int32.ofInt (x0)), .int (Int32.ofInt (x1)), .int (Int32.ofInt (x2)), .int (Int32.ofInt (x3)), .int (Int32.ofInt (x4)), v6, v7] [] σ Q := by
  refine an_seg (B := pm_B) (F := []) (T := []) (S := []) (fun _ h => absurd h List.not_mem_nil) (k := 110) (d := 24) (cs := [43, 41, 21]) 19 4 5 [(0, 0, 1023), (1, 0, 9), (2, 0, 10), (3, (-2147483648), 2147483647), (4, (-1), 1023)] [] [(2, 85, 0), (0, 0, 0), (0, 1, 0), (0, 2, 0), (0, 3, 0), (0, 4, 0), (5, 0, 0), (5, 0, 0)] [] [(43, [(2, 85, 0), (0, 0, 0), (0, 1, 0), (0, 2, 0), (0, 3, 0), (0, 4, 0), (5, 0, 0), (5, 0, 0)], [], [(0, 0, 1023), (1, 0, 9), (2, 0, 10), (3, (-2147483648), 2147483647), (4, (-1), (-1))], [], [], []),
    (41, [(2, 85, 0), (0, 0, 0), (0, 1, 0), (0, 2, 0), (0, 3, 0), (0, 4, 0), (5, 0, 0), (5, 0, 0)], [], [(0, 0, 1023), (1, 0, 9), (2, 0, 10), (3, (-2147483648), 2147483647), (4, 0, 1023), (5, (-1024), (-1)), (6, 1, 1023)], [(1, 6, 4, 0)], [(5, (0, 0, 0), (1, 0, (-1)), 5), (3, (0, 4, 0), (0, 5, 0), 6)], []),
    (21, [(2, 85, 0), (0, 0, 0), (0, 1, 0), (0, 2, 0), (0, 3, 0), (0, 4, 0), (0, 7, 0), (5, 0, 0)], [(0, 9, 0), (2, 85, 0)], [(0, 0, 1023), (1, 0, 9), (2, 0, 10), (3, (-2147483648), 2147483647), (4, 0, 1023), (5, (-1024), (-1)), (6, 0, 0), (7, 0, 10), (8, 1, 512), (9, 0, 1023)], [(1, 6, 4, 0)], [(5, (0, 0, 0), (1, 0, (-1)), 5), (3, (0, 4, 0), (0, 5, 0), 6), (16, (0, 4, 0), (1, 0, 0), 7), (6, (1, 0, 1), (0, 1, 0), 8), (4, (0, 4, 0), (0, 8, 0), 9)], [])] (by decide +kernel) (ρ0 := (fun s => [x0, x1, x2, x3, x4].getD s 0)) hB eF trivial ⟨rfl, ⟨rfl, ⟨rfl, ⟨rfl, ⟨rfl, ⟨rfl, ⟨hv6, ⟨hv7, trivial⟩⟩⟩⟩⟩⟩⟩⟩ trivial ?_
  refine List.forall_mem_cons.mpr ⟨?_, List.forall_mem_cons.mpr ⟨?_, List.forall_mem_cons.mpr ⟨?_, fun _ h => absurd h List.not_mem_nil⟩⟩⟩
  · intro ρ τ Lc stc hx g1 g2 g3 g4 g5 g6 g7 g8
    have e0 : ρ 0 = x0 := hx 0 (by decide)
    have e1 : ρ 1 = x1 := hx 1 (by decide)
    have e2 : ρ 2 = x2 := hx 2 (by decide)
    have e3 : ρ 3 = x3 := hx 3 (by decide)
    have e4 : ρ 4 = x4 := hx 4 (by decide)
    subst e0
    subst e1
    subst e2
    subst e3
    subst e4
    have g7 := g7 (by decide)
    match Lc, stc, g7, g8 with
    | [v0, v1, v2, v3, v4, v5, v6, v7], [], ⟨hv0, hv1, hv2, hv3, hv4, hv5, hv6, hv7, _⟩, _ =>
      cases hv0
      cases hv1
      cases hv2
      cases hv3
      cases hv4
      cases hv5
      exact l0 τ ρ v6 v7 hv6 hv7 g1 g2 g3 g4 g5 g6
  · intro ρ τ Lc stc hx g1 g2 g3 g4 g5 g6 g7 g8
    have e0 : ρ 0 = x0 := hx 0 (by decide)
    have e1 : ρ 1 = x1 := hx 1 (by decide)
    have e2 : ρ 2 = x2 := hx 2 (by decide)
    have e3 : ρ 3 = x3 := hx 3 (by decide)
    have e4 : ρ 4 = x4 := hx 4 (by decide)
    subst e0
    subst e1
    subst e2
    subst e3
    subst e4
    have g7 := g7 (by decide)
    match Lc, stc, g7, g8 with
    | [v0, v1, v2, v3, v4, v5, v6, v7], [], ⟨hv0, hv1, hv2, hv3, hv4, hv5, hv6, hv7, _⟩, _ =>
      cases hv0
      cases hv1
      cases hv2
      cases hv3
      cases hv4
      cases hv5
      exact l1 τ ρ v6 v7 hv6 hv7 g1 g2 g3 g4 g5 g6
  · intro ρ τ Lc stc hx g1 g2 g3 g4 g5 g6 g7 g8
    have e0 : ρ 0 = x0 := hx 0 (by decide)
    have e1 : ρ 1 = x1 := hx 1 (by decide)
    have e2 : ρ 2 = x2 := hx 2 (by decide)
    have e3 : ρ 3 = x3 := hx 3 (by decide)
    have e4 : ρ 4 = x4 := hx 4 (by decide)
    subst e0
    subst e1
    subst e2
    subst e3
    subst e4
    have g7 := g7 (by decide)
    match Lc, stc, g7, g8 with
    | [v0, v1, v2, v3, v4, v5, v6, v7], [w0, w1], ⟨hv0, hv1, hv2, hv3, hv4, hv5, hv6, hv7, _⟩, ⟨hw0, hw1, _⟩ =>
      cases hv0
      cases hv1
      cases hv2
      cases hv3
      cases hv4
      cases hv5
      cases hv6
      cases hw0
      cases hw1
      exact l2 τ ρ v7 hv7 g1 g2 g3 g4 g5 g6
set_option maxRecDepth 100000 in
theorem sy_c22 {σ : pm_S} {Q : Option Value → pm_S → Prop} (x0 x1 x2 x3 x4 x5 x6 : Int) (v7 : Value) (hv7 : v7.category = 1) (hB : an_GB pm_B σ) (eF : (0 ≤ x0 ∧ x0 ≤ 1023) ∧ (0 ≤ x1 ∧ x1 ≤ 9) ∧ (0 ≤ x2 ∧ x2 ≤ 10) ∧ ((-2147483648) ≤ x3 ∧ x3 ≤ 2147483647) ∧ (0 ≤ x4 ∧ x4 ≤ 1023) ∧ (0 ≤ x5 ∧ x5 ≤ 10) ∧ (0 ≤ x6 ∧ x6 ≤ 110000) ∧ True)
    (l0 : ∀ (τ : pm_S) (y : Nat → Int) (v7 : Value), v7.category = 1 → an_GB pm_B τ → FQ [] σ τ → ((0 ≤ x0 ∧ x0 ≤ 1023) ∧ (0 ≤ x1 ∧ x1 ≤ 9) ∧ (0 ≤ x2 ∧ x2 ≤ 10) ∧ ((-2147483648) ≤ x3 ∧ x3 ≤ 2147483647) ∧ (0 ≤ x4 ∧ x4 ≤ 1023) ∧ (0 ≤ x5 ∧ x5 ≤ 10) ∧ (0 ≤ x6 ∧ x6 ≤ 110000) ∧ True) → (True) → (True) → (True) → Ok 110 25 24 [.ref 85, .int (Int32.ofInt (x0)), .int (Int32.ofInt (x1)), .int (Int32.ofInt (x2)), .int (Int32.ofInt (x3)), .int (Int32.ofInt (x4)), .int (Int32.ofInt (x5)), v7] [.int (Int32.ofInt (x4)), .ref 85, .int (Int32.ofInt (x6))] τ Q)
    : Ok 110 25 22 [.ref 85, .int (Int32.ofInt (x0)), .int (Int32.ofInt (x1)), .int (Int32.ofInt (x2)), .int (Int32.ofInt (x3)), .int (Int32.ofInt (x4)), .int (Int32.ofInt (x5)), v7] [.int (Int32.ofInt (x6))] σ Q := by
  refine an_seg (B := pm_B) (F := []) (T := []) (S := []) (fun _ h => absurd h List.not_mem_nil) (k := 110) (d := 24) (cs := [24]) 4 22 7 [(0, 0, 1023), (1, 0, 9), (2, 0, 10), (3, (-2147483648), 2147483647), (4, 0, 1023), (5, 0, 10), (6, 0, 110000)] [] [(2, 85, 0), (0, 0, 0), (0, 1, 0), (0, 2, 0), (0, 3, 0), (0, 4, 0), (0, 5, 0), (5, 0, 0)] [(0, 6, 0)] [(24, [(2, 85, 0), (0, 0, 0), (0, 1, 0), (0, 2, 0), (0, 3, 0), (0, 4, 0), (0, 5, 0), (5, 0, 0)], [(0, 4, 0), (2, 85, 0), (0, 6, 0)], [(0, 0, 1023), (1, 0, 9), (2, 0, 10), (3, (-2147483648), 2147483647), (4, 0, 1023), (5, 0, 10), (6, 0, 110000)], [], [], [])] (by decide +kernel) (ρ0 := (fun s => [x0, x1, x2, x3, x4, x5, x6].getD s 0)) hB eF trivial ⟨rfl, ⟨rfl, ⟨rfl, ⟨rfl, ⟨rfl, ⟨rfl, ⟨rfl, ⟨hv7, trivial⟩⟩⟩⟩⟩⟩⟩⟩ ⟨rfl, trivial⟩ ?_
  refine List.forall_mem_cons.mpr ⟨?_, fun _ h => absurd h List.not_mem_nil⟩
  · intro ρ τ Lc stc hx g1 g2 g3 g4 g5 g6 g7 g8
    have e0 : ρ 0 = x0 := hx 0 (by decide)
    have e1 : ρ 1 = x1 := hx 1 (by decide)
    have e2 : ρ 2 = x2 := hx 2 (by decide)
    have e3 : ρ 3 = x3 := hx 3 (by decide)
    have e4 : ρ 4 = x4 := hx 4 (by decide)
    have e5 : ρ 5 = x5 := hx 5 (by decide)
    have e6 : ρ 6 = x6 := hx 6 (by decide)
    subst e0
    subst e1
    subst e2
    subst e3
    subst e4
    subst e5
    subst e6
    have g7 := g7 (by decide)
    match Lc, stc, g7, g8 with
    | [v0, v1, v2, v3, v4, v5, v6, v7], [w0, w1, w2], ⟨hv0, hv1, hv2, hv3, hv4, hv5, hv6, hv7, _⟩, ⟨hw0, hw1, hw2, _⟩ =>
      cases hv0
      cases hv1
      cases hv2
      cases hv3
      cases hv4
      cases hv5
      cases hv6
      cases hw0
      cases hw1
      cases hw2
      exact l0 τ ρ v7 hv7 g1 g2 g3 g4 g5 g6
set_option maxRecDepth 100000 in
theorem sy_c25 {σ : pm_S} {Q : Option Value → pm_S → Prop} (x0 x1 x2 x3 x4 x5 x6 x7 : Int) (v7 : Value) (hv7 : v7.category = 1) (hB : an_GB pm_B σ) (eF : (0 ≤ x0 ∧ x0 ≤ 1023) ∧ (0 ≤ x1 ∧ x1 ≤ 9) ∧ (0 ≤ x2 ∧ x2 ≤ 10) ∧ ((-2147483648) ≤ x3 ∧ x3 ≤ 2147483647) ∧ (0 ≤ x4 ∧ x4 ≤ 1023) ∧ (0 ≤ x5 ∧ x5 ≤ 10) ∧ (0 ≤ x6 ∧ x6 ≤ 110000) ∧ (0 ≤ x7 ∧ x7 ≤ 110000) ∧ True)
    (l0 : ∀ (τ : pm_S) (y : Nat → Int), an_GB pm_B τ → FQ [] σ τ → ((0 ≤ x0 ∧ x0 ≤ 1023) ∧ (0 ≤ x1 ∧ x1 ≤ 9) ∧ (0 ≤ x2 ∧ x2 ≤ 10) ∧ ((-2147483648) ≤ x3 ∧ x3 ≤ 2147483647) ∧ (0 ≤ x4 ∧ x4 ≤ 1023) ∧ (0 ≤ x5 ∧ x5 ≤ 10) ∧ (0 ≤ x6 ∧ x6 ≤ 110000) ∧ (0 ≤ x7 ∧ x7 ≤ 110000) ∧ ((-110000) ≤ y 8 ∧ y 8 ≤ 110000) ∧ True) → (True) → ((an_f 1 (Int32.ofInt (x6)) (Int32.ofInt (x7))).toInt = y 8 ∧ True) → (True) → Ok 110 25 29 [.ref 85, .int (Int32.ofInt (x0)), .int (Int32.ofInt (x1)), .int (Int32.ofInt (x2)), .int (Int32.ofInt (x3)), .int (Int32.ofInt (x4)), .int (Int32.ofInt (x5)), .int (Int32.ofInt (y 8))] [.int (Int32.ofInt (x5)), .int (Int32.ofInt (x3))] τ Q)
    : Ok 110 25 25 [.ref 85, .int (Int32.ofInt (x0)), .int (Int32.ofInt (x1)), .int (Int32.ofInt (x2)), .int (Int32.ofInt (x3)), .int (Int32.ofInt (x4)), .int (Int32.ofInt (x5)), v7] [.int (Int32.ofInt (x7)), .int (Int32.ofInt (x6))] σ Q := by
  refine an_seg (B := pm_B) (F := []) (T := []) (S := []) (fun _ h => absurd h List.not_mem_nil) (k := 110) (d := 24) (cs := [29]) 6 25 8 [(0, 0, 1023), (1, 0, 9), (2, 0, 10), (3, (-2147483648), 2147483647), (4, 0, 1023), (5, 0, 10), (6, 0, 110000), (7, 0, 110000)] [] [(2, 85, 0), (0, 0, 0), (0, 1, 0), (0, 2, 0), (0, 3, 0), (0, 4, 0), (0, 5, 0), (5, 0, 0)] [(0, 7, 0), (0, 6, 0)] [(29, [(2, 85, 0), (0, 0, 0), (0, 1, 0), (0, 2, 0), (0, 3, 0), (0, 4, 0), (0, 5, 0), (0, 8, 0)], [(0, 5, 0), (0, 3, 0)], [(0, 0, 1023), (1, 0, 9), (2, 0, 10), (3, (-2147483648), 2147483647), (4, 0, 1023), (5, 0, 10), (6, 0, 110000), (7, 0, 110000), (8, (-110000), 110000)], [], [(1, (0, 6, 0), (0, 7, 0), 8)], [])] (by decide +kernel) (ρ0 := (fun s => [x0, x1, x2, x3, x4, x5, x6, x7].getD s 0)) hB eF trivial ⟨rfl, ⟨rfl, ⟨rfl, ⟨rfl, ⟨rfl, ⟨rfl, ⟨rfl, ⟨hv7, trivial⟩⟩⟩⟩⟩⟩⟩⟩ ⟨rfl, ⟨rfl, trivial⟩⟩ ?_
  refine List.forall_mem_cons.mpr ⟨?_, fun _ h => absurd h List.not_mem_nil⟩
  · intro ρ τ Lc stc hx g1 g2 g3 g4 g5 g6 g7 g8
    have e0 : ρ 0 = x0 := hx 0 (by decide)
    have e1 : ρ 1 = x1 := hx 1 (by decide)
    have e2 : ρ 2 = x2 := hx 2 (by decide)
    have e3 : ρ 3 = x3 := hx 3 (by decide)
    have e4 : ρ 4 = x4 := hx 4 (by decide)
    have e5 : ρ 5 = x5 := hx 5 (by decide)
    have e6 : ρ 6 = x6 := hx 6 (by decide)
    have e7 : ρ 7 = x7 := hx 7 (by decide)
    subst e0
    subst e1
    subst e2
    subst e3
    subst e4
    subst e5
    subst e6
    subst e7
    have g7 := g7 (by decide)
    match Lc, stc, g7, g8 with
    | [v0, v1, v2, v3, v4, v5, v6, v7], [w0, w1], ⟨hv0, hv1, hv2, hv3, hv4, hv5, hv6, hv7, _⟩, ⟨hw0, hw1, _⟩ =>
      cases hv0
      cases hv1
      cases hv2
      cases hv3
      cases hv4
      cases hv5
      cases hv6
      cases hv7
      cases hw0
      cases hw1
      exact l0 τ ρ  g1 g2 g3 g4 g5 g6
set_option maxRecDepth 100000 in
theorem sy_c30 {σ : pm_S} {Q : Option Value → pm_S → Prop} (x0 x1 x2 x3 x4 x5 x6 x7 : Int)  (hB : an_GB pm_B σ) (eF : (0 ≤ x0 ∧ x0 ≤ 1023) ∧ (0 ≤ x1 ∧ x1 ≤ 9) ∧ (0 ≤ x2 ∧ x2 ≤ 10) ∧ ((-2147483648) ≤ x3 ∧ x3 ≤ 2147483647) ∧ (0 ≤ x4 ∧ x4 ≤ 1023) ∧ (0 ≤ x5 ∧ x5 ≤ 10) ∧ ((-110000) ≤ x6 ∧ x6 ≤ 110000) ∧ (0 ≤ x7 ∧ x7 ≤ 3628800) ∧ True)
    (l0 : ∀ (τ : pm_S) (y : Nat → Int), an_GB pm_B τ → FQ [] σ τ → ((0 ≤ x0 ∧ x0 ≤ 1023) ∧ (0 ≤ x1 ∧ x1 ≤ 9) ∧ (0 ≤ x2 ∧ x2 ≤ 10) ∧ ((-2147483648) ≤ x3 ∧ x3 ≤ 2147483647) ∧ (0 ≤ x4 ∧ x4 ≤ 1023) ∧ (0 ≤ x5 ∧ x5 ≤ 10) ∧ ((-110000) ≤ x6 ∧ x6 ≤ 110000) ∧ (0 ≤ x7 ∧ x7 ≤ 3628800) ∧ ((-11) ≤ y 8 ∧ y 8 ≤ 9) ∧ True) → (True) → ((an_f 1 (Int32.ofInt (x2 + (-1))) (Int32.ofInt (x5))).toInt = y 8 ∧ True) → (True) → Ok 110 25 35 [.ref 85, .int (Int32.ofInt (x0)), .int (Int32.ofInt (x1)), .int (Int32.ofInt (x2)), .int (Int32.ofInt (x3)), .int (Int32.ofInt (x4)), .int (Int32.ofInt (x5)), .int (Int32.ofInt (x6))] [.int (Int32.ofInt (y 8)), .int (Int32.ofInt (x7)), .int (Int32.ofInt (x3))] τ Q)
    : Ok 110 25 30 [.ref 85, .int (Int32.ofInt (x0)), .int (Int32.ofInt (x1)), .int (Int32.ofInt (x2)), .int (Int32.ofInt (x3)), .int (Int32.ofInt (x4)), .int (Int32.ofInt (x5)), .int (Int32.ofInt (x6))] [.int (Int32.ofInt (x7)), .int (Int32.ofInt (x3))] σ Q := by
  refine an_seg (B := pm_B) (F := []) (T := []) (S := []) (fun _ h => absurd h List.not_mem_nil) (k := 110) (d := 24) (cs := [35]) 7 30 8 [(0, 0, 1023), (1, 0, 9), (2, 0, 10), (3, (-2147483648), 2147483647), (4, 0, 1023), (5, 0, 10), (6, (-110000), 110000), (7, 0, 3628800)] [] [(2, 85, 0), (0, 0, 0), (0, 1, 0), (0, 2, 0), (0, 3, 0), (0, 4, 0), (0, 5, 0), (0, 6, 0)] [(0, 7, 0), (0, 3, 0)] [(35, [(2, 85, 0), (0, 0, 0), (0, 1, 0), (0, 2, 0), (0, 3, 0), (0, 4, 0), (0, 5, 0), (0, 6, 0)], [(0, 8, 0), (0, 7, 0), (0, 3, 0)], [(0, 0, 1023), (1, 0, 9), (2, 0, 10), (3, (-2147483648), 2147483647), (4, 0, 1023), (5, 0, 10), (6, (-110000), 110000), (7, 0, 3628800), (8, (-11), 9)], [], [(1, (0, 2, (-1)), (0, 5, 0), 8)], [])] (by decide +kernel) (ρ0 := (fun s => [x0, x1, x2, x3, x4, x5, x6, x7].getD s 0)) hB eF trivial ⟨rfl, ⟨rfl, ⟨rfl, ⟨rfl, ⟨rfl, ⟨rfl, ⟨rfl, ⟨rfl, trivial⟩⟩⟩⟩⟩⟩⟩⟩ ⟨rfl, ⟨rfl, trivial⟩⟩ ?_
  refine List.forall_mem_cons.mpr ⟨?_, fun _ h => absurd h List.not_mem_nil⟩
  · intro ρ τ Lc stc hx g1 g2 g3 g4 g5 g6 g7 g8
    have e0 : ρ 0 = x0 := hx 0 (by decide)
    have e1 : ρ 1 = x1 := hx 1 (by decide)
    have e2 : ρ 2 = x2 := hx 2 (by decide)
    have e3 : ρ 3 = x3 := hx 3 (by decide)
    have e4 : ρ 4 = x4 := hx 4 (by decide)
    have e5 : ρ 5 = x5 := hx 5 (by decide)
    have e6 : ρ 6 = x6 := hx 6 (by decide)
    have e7 : ρ 7 = x7 := hx 7 (by decide)
    subst e0
    subst e1
    subst e2
    subst e3
    subst e4
    subst e5
    subst e6
    subst e7
    have g7 := g7 (by decide)
    match Lc, stc, g7, g8 with
    | [v0, v1, v2, v3, v4, v5, v6, v7], [w0, w1, w2], ⟨hv0, hv1, hv2, hv3, hv4, hv5, hv6, hv7, _⟩, ⟨hw0, hw1, hw2, _⟩ =>
      cases hv0
      cases hv1
      cases hv2
      cases hv3
      cases hv4
      cases hv5
      cases hv6
      cases hv7
      cases hw0
      cases hw1
      cases hw2
      exact l0 τ ρ  g1 g2 g3 g4 g5 g6
set_option maxRecDepth 100000 in
theorem sy_c36 {σ : pm_S} {Q : Option Value → pm_S → Prop} (x0 x1 x2 x3 x4 x5 x6 x7 x8 : Int)  (hB : an_GB pm_B σ) (eF : (0 ≤ x0 ∧ x0 ≤ 1023) ∧ (0 ≤ x1 ∧ x1 ≤ 9) ∧ (0 ≤ x2 ∧ x2 ≤ 10) ∧ ((-2147483648) ≤ x3 ∧ x3 ≤ 2147483647) ∧ (0 ≤ x4 ∧ x4 ≤ 1023) ∧ (0 ≤ x5 ∧ x5 ≤ 10) ∧ ((-110000) ≤ x6 ∧ x6 ≤ 110000) ∧ (0 ≤ x7 ∧ x7 ≤ 3628800) ∧ (0 ≤ x8 ∧ x8 ≤ 3628800) ∧ True)
    (l0 : ∀ (τ : pm_S) (y : Nat → Int), an_GB pm_B τ → FQ [] σ τ → ((0 ≤ x0 ∧ x0 ≤ 1023) ∧ (0 ≤ x1 ∧ x1 ≤ 9) ∧ (0 ≤ x2 ∧ x2 ≤ 10) ∧ ((-2147483648) ≤ x3 ∧ x3 ≤ 2147483647) ∧ (0 ≤ x4 ∧ x4 ≤ 1023) ∧ (0 ≤ x5 ∧ x5 ≤ 10) ∧ ((-110000) ≤ x6 ∧ x6 ≤ 110000) ∧ (0 ≤ x7 ∧ x7 ≤ 3628800) ∧ (0 ≤ x8 ∧ x8 ≤ 3628800) ∧ ((-2147483648) ≤ y 9 ∧ y 9 ≤ 2147483647) ∧ ((-2147483648) ≤ y 10 ∧ y 10 ≤ 2147483647) ∧ ((-2147483648) ≤ y 11 ∧ y 11 ≤ 2147483647) ∧ True) → (True) → ((an_f 2 (Int32.ofInt (x7)) (Int32.ofInt (x8))).toInt = y 9 ∧ (an_f 2 (Int32.ofInt (y 9)) (Int32.ofInt (x6))).toInt = y 10 ∧ (an_f 0 (Int32.ofInt (x3)) (Int32.ofInt (y 10))).toInt = y 11 ∧ True) → (True) → Ok 110 25 41 [.ref 85, .int (Int32.ofInt (x0)), .int (Int32.ofInt (x1)), .int (Int32.ofInt (x2)), .int (Int32.ofInt (y 11)), .int (Int32.ofInt (x4)), .int (Int32.ofInt (x5)), .int (Int32.ofInt (x6))] [] τ Q)
    : Ok 110 25 36 [.ref 85, .int (Int32.ofInt (x0)), .int (Int32.ofInt (x1)), .int (Int32.ofInt (x2)), .int (Int32.ofInt (x3)), .int (Int32.ofInt (x4)), .int (Int32.ofInt (x5)), .int (Int32.ofInt (x6))] [.int (Int32.ofInt (x8)), .int (Int32.ofInt (x7)), .int (Int32.ofInt (x3))] σ Q := by
  refine an_seg (B := pm_B) (F := []) (T := []) (S := []) (fun _ h => absurd h List.not_mem_nil) (k := 110) (d := 24) (cs := [41]) 7 36 9 [(0, 0, 1023), (1, 0, 9), (2, 0, 10), (3, (-2147483648), 2147483647), (4, 0, 1023), (5, 0, 10), (6, (-110000), 110000), (7, 0, 3628800), (8, 0, 3628800)] [] [(2, 85, 0), (0, 0, 0), (0, 1, 0), (0, 2, 0), (0, 3, 0), (0, 4, 0), (0, 5, 0), (0, 6, 0)] [(0, 8, 0), (0, 7, 0), (0, 3, 0)] [(41, [(2, 85, 0), (0, 0, 0), (0, 1, 0), (0, 2, 0), (0, 11, 0), (0, 4, 0), (0, 5, 0), (0, 6, 0)], [], [(0, 0, 1023), (1, 0, 9), (2, 0, 10), (3, (-2147483648), 2147483647), (4, 0, 1023), (5, 0, 10), (6, (-110000), 110000), (7, 0, 3628800), (8, 0, 3628800), (9, (-2147483648), 2147483647), (10, (-2147483648), 2147483647), (11, (-2147483648), 2147483647)], [], [(2, (0, 7, 0), (0, 8, 0), 9), (2, (0, 9, 0), (0, 6, 0), 10), (0, (0, 3, 0), (0, 10, 0), 11)], [])] (by decide +kernel) (ρ0 := (fun s => [x0, x1, x2, x3, x4, x5, x6, x7, x8].getD s 0)) hB eF trivial ⟨rfl, ⟨rfl, ⟨rfl, ⟨rfl, ⟨rfl, ⟨rfl, ⟨rfl, ⟨rfl, trivial⟩⟩⟩⟩⟩⟩⟩⟩ ⟨rfl, ⟨rfl, ⟨rfl, trivial⟩⟩⟩ ?_
  refine List.forall_mem_cons.mpr ⟨?_, fun _ h => absurd h List.not_mem_nil⟩
  · intro ρ τ Lc stc hx g1 g2 g3 g4 g5 g6 g7 g8
    have e0 : ρ 0 = x0 := hx 0 (by decide)
    have e1 : ρ 1 = x1 := hx 1 (by decide)
    have e2 : ρ 2 = x2 := hx 2 (by decide)
    have e3 : ρ 3 = x3 := hx 3 (by decide)
    have e4 : ρ 4 = x4 := hx 4 (by decide)
    have e5 : ρ 5 = x5 := hx 5 (by decide)
    have e6 : ρ 6 = x6 := hx 6 (by decide)
    have e7 : ρ 7 = x7 := hx 7 (by decide)
    have e8 : ρ 8 = x8 := hx 8 (by decide)
    subst e0
    subst e1
    subst e2
    subst e3
    subst e4
    subst e5
    subst e6
    subst e7
    subst e8
    have g7 := g7 (by decide)
    match Lc, stc, g7, g8 with
    | [v0, v1, v2, v3, v4, v5, v6, v7], [], ⟨hv0, hv1, hv2, hv3, hv4, hv5, hv6, hv7, _⟩, _ =>
      cases hv0
      cases hv1
      cases hv2
      cases hv3
      cases hv4
      cases hv5
      cases hv6
      cases hv7
      exact l0 τ ρ  g1 g2 g3 g4 g5 g6
set_option maxRecDepth 100000 in
theorem sy_c41 {σ : pm_S} {Q : Option Value → pm_S → Prop} (x0 x1 x2 x3 x4 : Int) (v6 : Value) (v7 : Value) (hv6 : v6.category = 1) (hv7 : v7.category = 1) (hB : an_GB pm_B σ) (eF : (0 ≤ x0 ∧ x0 ≤ 1023) ∧ (0 ≤ x1 ∧ x1 ≤ 9) ∧ (0 ≤ x2 ∧ x2 ≤ 10) ∧ ((-2147483648) ≤ x3 ∧ x3 ≤ 2147483647) ∧ (0 ≤ x4 ∧ x4 ≤ 1023) ∧ True)
    (l0 : ∀ (τ : pm_S) (y : Nat → Int) (v6 : Value) (v7 : Value), v6.category = 1 → v7.category = 1 → an_GB pm_B τ → FQ [] σ τ → ((0 ≤ x0 ∧ x0 ≤ 1023) ∧ (0 ≤ x1 ∧ x1 ≤ 9) ∧ (0 ≤ x2 ∧ x2 ≤ 10) ∧ ((-2147483648) ≤ x3 ∧ x3 ≤ 2147483647) ∧ (0 ≤ x4 ∧ x4 ≤ 1023) ∧ True) → (True) → (True) → (True) → Ok 110 25 4 [.ref 85, .int (Int32.ofInt (x0)), .int (Int32.ofInt (x1)), .int (Int32.ofInt (x2)), .int (Int32.ofInt (x3)), .int (Int32.ofInt (x4 + (-1))), v6, v7] [] τ Q)
    : Ok 110 25 41 [.ref 85, .int (Int32.ofInt (x0)), .int (Int32.ofInt (x1)), .int (Int32.ofInt (x2)), .int (Int32.ofInt (x3)), .int (Int32.ofInt (x4)), v6, v7] [] σ Q := by
  refine an_seg (B := pm_B) (F := []) (T := []) (S := []) (fun _ h => absurd h List.not_mem_nil) (k := 110) (d := 24) (cs := [4]) 4 41 5 [(0, 0, 1023), (1, 0, 9), (2, 0, 10), (3, (-2147483648), 2147483647), (4, 0, 1023)] [] [(2, 85, 0), (0, 0, 0), (0, 1, 0), (0, 2, 0), (0, 3, 0), (0, 4, 0), (5, 0, 0), (5, 0, 0)] [] [(4, [(2, 85, 0), (0, 0, 0), (0, 1, 0), (0, 2, 0), (0, 3, 0), (0, 4, (-1)), (5, 0, 0), (5, 0, 0)], [], [(0, 0, 1023), (1, 0, 9), (2, 0, 10), (3, (-2147483648), 2147483647), (4, 0, 1023)], [], [], [])] (by decide +kernel) (ρ0 := (fun s => [x0, x1, x2, x3, x4].getD s 0)) hB eF trivial ⟨rfl, ⟨rfl, ⟨rfl, ⟨rfl, ⟨rfl, ⟨rfl, ⟨hv6, ⟨hv7, trivial⟩⟩⟩⟩⟩⟩⟩⟩ trivial ?_
  refine List.forall_mem_cons.mpr ⟨?_, fun _ h => absurd h List.not_mem_nil⟩
  · intro ρ τ Lc stc hx g1 g2 g3 g4 g5 g6 g7 g8
    have e0 : ρ 0 = x0 := hx 0 (by decide)
    have e1 : ρ 1 = x1 := hx 1 (by decide)
    have e2 : ρ 2 = x2 := hx 2 (by decide)
    have e3 : ρ 3 = x3 := hx 3 (by decide)
    have e4 : ρ 4 = x4 := hx 4 (by decide)
    subst e0
    subst e1
    subst e2
    subst e3
    subst e4
    have g7 := g7 (by decide)
    match Lc, stc, g7, g8 with
    | [v0, v1, v2, v3, v4, v5, v6, v7], [], ⟨hv0, hv1, hv2, hv3, hv4, hv5, hv6, hv7, _⟩, _ =>
      cases hv0
      cases hv1
      cases hv2
      cases hv3
      cases hv4
      cases hv5
      exact l0 τ ρ v6 v7 hv6 hv7 g1 g2 g3 g4 g5 g6
set_option maxRecDepth 100000 in
theorem sy_c43 {σ : pm_S} {Q : Option Value → pm_S → Prop} (x0 x1 x2 x3 x4 : Int) (v6 : Value) (v7 : Value) (hv6 : v6.category = 1) (hv7 : v7.category = 1) (hB : an_GB pm_B σ) (eF : (0 ≤ x0 ∧ x0 ≤ 1023) ∧ (0 ≤ x1 ∧ x1 ≤ 9) ∧ (0 ≤ x2 ∧ x2 ≤ 10) ∧ ((-2147483648) ≤ x3 ∧ x3 ≤ 2147483647) ∧ ((-1) ≤ x4 ∧ x4 ≤ (-1)) ∧ True)
    (l0 : ∀ (τ : pm_S) (y : Nat → Int), an_GB pm_B τ → FQ [] σ τ → ((0 ≤ x0 ∧ x0 ≤ 1023) ∧ (0 ≤ x1 ∧ x1 ≤ 9) ∧ (0 ≤ x2 ∧ x2 ≤ 10) ∧ ((-2147483648) ≤ x3 ∧ x3 ≤ 2147483647) ∧ ((-1) ≤ x4 ∧ x4 ≤ (-1)) ∧ True) → (True) → (True) → (True) → Q (some (.int (Int32.ofInt (x3)))) τ)
    : Ok 110 25 43 [.ref 85, .int (Int32.ofInt (x0)), .int (Int32.ofInt (x1)), .int (Int32.ofInt (x2)), .int (Int32.ofInt (x3)), .int (Int32.ofInt (x4)), v6, v7] [] σ Q := by
  refine an_seg (B := pm_B) (F := []) (T := []) (S := []) (fun _ h => absurd h List.not_mem_nil) (k := 110) (d := 24) (cs := []) 4 43 5 [(0, 0, 1023), (1, 0, 9), (2, 0, 10), (3, (-2147483648), 2147483647), (4, (-1), (-1))] [] [(2, 85, 0), (0, 0, 0), (0, 1, 0), (0, 2, 0), (0, 3, 0), (0, 4, 0), (5, 0, 0), (5, 0, 0)] [] [(9999, [], [(0, 3, 0)], [(0, 0, 1023), (1, 0, 9), (2, 0, 10), (3, (-2147483648), 2147483647), (4, (-1), (-1))], [], [], [])] (by decide +kernel) (ρ0 := (fun s => [x0, x1, x2, x3, x4].getD s 0)) hB eF trivial ⟨rfl, ⟨rfl, ⟨rfl, ⟨rfl, ⟨rfl, ⟨rfl, ⟨hv6, ⟨hv7, trivial⟩⟩⟩⟩⟩⟩⟩⟩ trivial ?_
  refine List.forall_mem_cons.mpr ⟨?_, fun _ h => absurd h List.not_mem_nil⟩
  · intro ρ τ Lc stc hx g1 g2 g3 g4 g5 g6 g7 g8
    have e0 : ρ 0 = x0 := hx 0 (by decide)
    have e1 : ρ 1 = x1 := hx 1 (by decide)
    have e2 : ρ 2 = x2 := hx 2 (by decide)
    have e3 : ρ 3 = x3 := hx 3 (by decide)
    have e4 : ρ 4 = x4 := hx 4 (by decide)
    subst e0
    subst e1
    subst e2
    subst e3
    subst e4
    match stc, g8 with
    | [_], ⟨h, _⟩ => cases h; exact l0 τ ρ g1 g2 g3 g4 g5 g6
set_option maxRecDepth 100000 in
theorem sy_m59 {σ : pm_S} {Q : Option Value → pm_S → Prop} (x0 x1 x2 x3 x4 x5 x6 x7 x8 : Int) (v10 : Value) (v11 : Value) (v12 : Value) (hv10 : v10.category = 1) (hv11 : v11.category = 1) (hv12 : v12.category = 1) (hB : an_GB pm_B σ) (eF : (0 ≤ x0 ∧ x0 ≤ 9) ∧ (0 ≤ x1 ∧ x1 ≤ 1023) ∧ (0 ≤ x2 ∧ x2 ≤ 9) ∧ (0 ≤ x3 ∧ x3 ≤ 1) ∧ (0 ≤ x4 ∧ x4 ≤ 1023) ∧ (0 ≤ x5 ∧ x5 ≤ 10) ∧ ((-2147483648) ≤ x6 ∧ x6 ≤ 2147483647) ∧ (0 ≤ x7 ∧ x7 ≤ 1023) ∧ (0 ≤ x8 ∧ x8 ≤ 1) ∧ True)
    (l0 : ∀ (τ : pm_S) (y : Nat → Int) (v10 : Value) (v11 : Value) (v12 : Value), v10.category = 1 → v11.category = 1 → v12.category = 1 → an_GB pm_B τ → FQ [] σ τ → ((0 ≤ x0 ∧ x0 ≤ 9) ∧ (0 ≤ x1 ∧ x1 ≤ 1023) ∧ (0 ≤ x2 ∧ x2 ≤ 9) ∧ (0 ≤ x3 ∧ x3 ≤ 1) ∧ (0 ≤ x4 ∧ x4 ≤ 1023) ∧ (0 ≤ x5 ∧ x5 ≤ 10) ∧ ((-2147483648) ≤ x6 ∧ x6 ≤ 2147483647) ∧ (0 ≤ x7 ∧ x7 ≤ 1023) ∧ (0 ≤ x8 ∧ x8 ≤ 0) ∧ True) → (True) → (True) → (True) → Ok 229 25 106 [.ref 93, .int (Int32.ofInt (x0)), .int (Int32.ofInt (x1)), .int (Int32.ofInt (x2)), .int (Int32.ofInt (x3)), .int (Int32.ofInt (x4)), .int (Int32.ofInt (x5)), .int (Int32.ofInt (x6)), .int (Int32.ofInt (x7)), .int (Int32.ofInt (x8)), v10, v11, v12] [] τ Q)
    (l1 : ∀ (τ : pm_S) (y : Nat → Int) (v10 : Value) (v11 : Value) (v12 : Value), v10.category = 1 → v11.category = 1 → v12.category = 1 → an_GB pm_B τ → FQ [] σ τ → ((0 ≤ x0 ∧ x0 ≤ 9) ∧ (0 ≤ x1 ∧ x1 ≤ 1023) ∧ (0 ≤ x2 ∧ x2 ≤ 9) ∧ (0 ≤ x3 ∧ x3 ≤ 1) ∧ (0 ≤ x4 ∧ x4 ≤ 1023) ∧ (0 ≤ x5 ∧ x5 ≤ 10) ∧ ((-2147483648) ≤ x6 ∧ x6 ≤ 2147483647) ∧ (0 ≤ x7 ∧ x7 ≤ 1023) ∧ (1 ≤ x8 ∧ x8 ≤ 1) ∧ (0 ≤ y 9 ∧ y 9 ≤ 10) ∧ True) → (True) → ((an_f 16 (Int32.ofInt (x7)) (Int32.ofInt (0))).toInt = y 9 ∧ True) → (True) → Ok 229 25 66 [.ref 93, .int (Int32.ofInt (x0)), .int (Int32.ofInt (x1)), .int (Int32.ofInt (x2)), .int (Int32.ofInt (x3)), .int (Int32.ofInt (x4)), .int (Int32.ofInt (x5)), .int (Int32.ofInt (x6)), .int (Int32.ofInt (x7)), .int (Int32.ofInt (x8)), v10, v11, v12] [.int (Int32.ofInt (y 9)), .ref 93, .int (Int32.ofInt (x6))] τ Q)
    : Ok 229 25 59 [.ref 93, .int (Int32.ofInt (x0)), .int (Int32.ofInt (x1)), .int (Int32.ofInt (x2)), .int (Int32.ofInt (x3)), .int (Int32.ofInt (x4)), .int (Int32.ofInt (x5)), .int (Int32.ofInt (x6)), .int (Int32.ofInt (x7)), .int (Int32.ofInt (x8)), v10, v11, v12] [] σ Q := by
  refine an_seg (B := pm_B) (F := []) (T := []) (S := []) (fun _ h => absurd h List.not_mem_nil) (k := 229) (d := 24) (cs := [66, 106]) 9 59 9 [(0, 0, 9), (1, 0, 1023), (2, 0, 9), (3, 0, 1), (4, 0, 1023), (5, 0, 10), (6, (-2147483648), 2147483647), (7, 0, 1023), (8, 0, 1)] [] [(2, 93, 0), (0, 0, 0), (0, 1, 0), (0, 2, 0), (0, 3, 0), (0, 4, 0), (0, 5, 0), (0, 6, 0), (0, 7, 0), (0, 8, 0), (5, 0, 0), (5, 0, 0), (5, 0, 0)] [] [(106, [(2, 93, 0), (0, 0, 0), (0, 1, 0), (0, 2, 0), (0, 3, 0), (0, 4, 0), (0, 5, 0), (0, 6, 0), (0, 7, 0), (0, 8, 0), (5, 0, 0), (5, 0, 0), (5, 0, 0)], [], [(0, 0, 9), (1, 0, 1023), (2, 0, 9), (3, 0, 1), (4, 0, 1023), (5, 0, 10), (6, (-2147483648), 2147483647), (7, 0, 1023), (8, 0, 0)], [], [], []),
    (66, [(2, 93, 0), (0, 0, 0), (0, 1, 0), (0, 2, 0), (0, 3, 0), (0, 4, 0), (0, 5, 0), (0, 6, 0), (0, 7, 0), (0, 8, 0), (5, 0, 0), (5, 0, 0), (5, 0, 0)], [(0, 9, 0), (2, 93, 0), (0, 6, 0)], [(0, 0, 9), (1, 0, 1023), (2, 0, 9), (3, 0, 1), (4, 0, 1023), (5, 0, 10), (6, (-2147483648), 2147483647), (7, 0, 1023), (8, 1, 1), (9, 0, 10)], [], [(16, (0, 7, 0), (1, 0, 0), 9)], [])] (by decide +kernel) (ρ0 := (fun s => [x0, x1, x2, x3, x4, x5, x6, x7, x8].getD s 0)) hB eF trivial ⟨rfl, ⟨rfl, ⟨rfl, ⟨rfl, ⟨rfl, ⟨rfl, ⟨rfl, ⟨rfl, ⟨rfl, ⟨rfl, ⟨hv10, ⟨hv11, ⟨hv12, trivial⟩⟩⟩⟩⟩⟩⟩⟩⟩⟩⟩⟩⟩ trivial ?_
  refine List.forall_mem_cons.mpr ⟨?_, List.forall_mem_cons.mpr ⟨?_, fun _ h => absurd h List.not_mem_nil⟩⟩
  · intro ρ τ Lc stc hx g1 g2 g3 g4 g5 g6 g7 g8
    have e0 : ρ 0 = x0 := hx 0 (by decide)
    have e1 : ρ 1 = x1 := hx 1 (by decide)
    have e2 : ρ 2 = x2 := hx 2 (by decide)
    have e3 : ρ 3 = x3 := hx 3 (by decide)
    have e4 : ρ 4 = x4 := hx 4 (by decide)
    have e5 : ρ 5 = x5 := hx 5 (by decide)
    have e6 : ρ 6 = x6 := hx 6 (by decide)
    have e7 : ρ 7 = x7 := hx 7 (by decide)
    have e8 : ρ 8 = x8 := hx 8 (by decide)
    subst e0
    subst e1
    subst e2
    subst e3
    subst e4
    subst e5
    subst e6
    subst e7
    subst e8
    have g7 := g7 (by decide)
    match Lc, stc, g7, g8 with
    | [v0, v1, v2, v3, v4, v5, v6, v7, v8, v9, v10, v11, v12], [], ⟨hv0, hv1, hv2, hv3, hv4, hv5, hv6, hv7, hv8, hv9, hv10, hv11, hv12, _⟩, _ =>
      cases hv0
      cases hv1
      cases hv2
      cases hv3
      cases hv4
      cases hv5
      cases hv6
      cases hv7
      cases hv8
      cases hv9
      exact l0 τ ρ v10 v11 v12 hv10 hv11 hv12 g1 g2 g3 g4 g5 g6
  · intro ρ τ Lc stc hx g1 g2 g3 g4 g5 g6 g7 g8
    have e0 : ρ 0 = x0 := hx 0 (by decide)
    have e1 : ρ 1 = x1 := hx 1 (by decide)
    have e2 : ρ 2 = x2 := hx 2 (by decide)
    have e3 : ρ 3 = x3 := hx 3 (by decide)
    have e4 : ρ 4 = x4 := hx 4 (by decide)
    have e5 : ρ 5 = x5 := hx 5 (by decide)
    have e6 : ρ 6 = x6 := hx 6 (by decide)
    have e7 : ρ 7 = x7 := hx 7 (by decide)
    have e8 : ρ 8 = x8 := hx 8 (by decide)
    subst e0
    subst e1
    subst e2
    subst e3
    subst e4
    subst e5
    subst e6
    subst e7
    subst e8
    have g7 := g7 (by decide)
    match Lc, stc, g7, g8 with
    | [v0, v1, v2, v3, v4, v5, v6, v7, v8, v9, v10, v11, v12], [w0, w1, w2], ⟨hv0, hv1, hv2, hv3, hv4, hv5, hv6, hv7, hv8, hv9, hv10, hv11, hv12, _⟩, ⟨hw0, hw1, hw2, _⟩ =>
      cases hv0
      cases hv1
      cases hv2
      cases hv3
      cases hv4
      cases hv5
      cases hv6
      cases hv7
      cases hv8
      cases hv9
      cases hw0
      cases hw1
      cases hw2
      exact l1 τ ρ v10 v11 v12 hv10 hv11 hv12 g1 g2 g3 g4 g5 g6
set_option maxRecDepth 100000 in
theorem sy_m67 {σ : pm_S} {Q : Option Value → pm_S → Prop} (x0 x1 x2 x3 x4 x5 x6 x7 x8 x9 : Int) (v10 : Value) (v11 : Value) (v12 : Value) (hv10 : v10.category = 1) (hv11 : v11.category = 1) (hv12 : v12.category = 1) (hB : an_GB pm_B σ) (eF : (0 ≤ x0 ∧ x0 ≤ 9) ∧ (0 ≤ x1 ∧ x1 ≤ 1023) ∧ (0 ≤ x2 ∧ x2 ≤ 9) ∧ (0 ≤ x3 ∧ x3 ≤ 1) ∧ (0 ≤ x4 ∧ x4 ≤ 1023) ∧ (0 ≤ x5 ∧ x5 ≤ 10) ∧ ((-2147483648) ≤ x6 ∧ x6 ≤ 2147483647) ∧ (0 ≤ x7 ∧ x7 ≤ 1023) ∧ (0 ≤ x8 ∧ x8 ≤ 1) ∧ (0 ≤ x9 ∧ x9 ≤ 3628800) ∧ True)
    (l0 : ∀ (τ : pm_S) (y : Nat → Int) (v10 : Value) (v11 : Value) (v12 : Value), v10.category = 1 → v11.category = 1 → v12.category = 1 → an_GB pm_B τ → FQ [] σ τ → ((0 ≤ x0 ∧ x0 ≤ 9) ∧ (0 ≤ x1 ∧ x1 ≤ 1023) ∧ (0 ≤ x2 ∧ x2 ≤ 9) ∧ (0 ≤ x3 ∧ x3 ≤ 1) ∧ (0 ≤ x4 ∧ x4 ≤ 1023) ∧ (0 ≤ x5 ∧ x5 ≤ 10) ∧ ((-2147483648) ≤ x6 ∧ x6 ≤ 2147483647) ∧ (0 ≤ x7 ∧ x7 ≤ 1023) ∧ (0 ≤ x8 ∧ x8 ≤ 1) ∧ (0 ≤ x9 ∧ x9 ≤ 3628800) ∧ (0 ≤ y 10 ∧ y 10 ≤ 10) ∧ ((-11) ≤ y 11 ∧ y 11 ≤ 9) ∧ True) → (True) → ((an_f 16 (Int32.ofInt (x7)) (Int32.ofInt (0))).toInt = y 10 ∧ (an_f 1 (Int32.ofInt (x5 + (-1))) (Int32.ofInt (y 10))).toInt = y 11 ∧ True) → (True) → Ok 229 25 75 [.ref 93, .int (Int32.ofInt (x0)), .int (Int32.ofInt (x1)), .int (Int32.ofInt (x2)), .int (Int32.ofInt (x3)), .int (Int32.ofInt (x4)), .int (Int32.ofInt (x5)), .int (Int32.ofInt (x6)), .int (Int32.ofInt (x7)), .int (Int32.ofInt (x8)), v10, v11, v12] [.int (Int32.ofInt (y 11)), .ref 93, .int (Int32.ofInt (x9)), .int (Int32.ofInt (x6))] τ Q)
    : Ok 229 25 67 [.ref 93, .int (Int32.ofInt (x0)), .int (Int32.ofInt (x1)), .int (Int32.ofInt (x2)), .int (Int32.ofInt (x3)), .int (Int32.ofInt (x4)), .int (Int32.ofInt (x5)), .int (Int32.ofInt (x6)), .int (Int32.ofInt (x7)), .int (Int32.ofInt (x8)), v10, v11, v12] [.int (Int32.ofInt (x9)), .int (Int32.ofInt (x6))] σ Q := by
  refine an_seg (B := pm_B) (F := []) (T := []) (S := []) (fun _ h => absurd h List.not_mem_nil) (k := 229) (d := 24) (cs := [75]) 10 67 10 [(0, 0, 9), (1, 0, 1023), (2, 0, 9), (3, 0, 1), (4, 0, 1023), (5, 0, 10), (6, (-2147483648), 2147483647), (7, 0, 1023), (8, 0, 1), (9, 0, 3628800)] [] [(2, 93, 0), (0, 0, 0), (0, 1, 0), (0, 2, 0), (0, 3, 0), (0, 4, 0), (0, 5, 0), (0, 6, 0), (0, 7, 0), (0, 8, 0), (5, 0, 0), (5, 0, 0), (5, 0, 0)] [(0, 9, 0), (0, 6, 0)] [(75, [(2, 93, 0), (0, 0, 0), (0, 1, 0), (0, 2, 0), (0, 3, 0), (0, 4, 0), (0, 5, 0), (0, 6, 0), (0, 7, 0), (0, 8, 0), (5, 0, 0), (5, 0, 0), (5, 0, 0)], [(0, 11, 0), (2, 93, 0), (0, 9, 0), (0, 6, 0)], [(0, 0, 9), (1, 0, 1023), (2, 0, 9), (3, 0, 1), (4, 0, 1023), (5, 0, 10), (6, (-2147483648), 2147483647), (7, 0, 1023), (8, 0, 1), (9, 0, 3628800), (10, 0, 10), (11, (-11), 9)], [], [(16, (0, 7, 0), (1, 0, 0), 10), (1, (0, 5, (-1)), (0, 10, 0), 11)], [])] (by decide +kernel) (ρ0 := (fun s => [x0, x1, x2, x3, x4, x5, x6, x7, x8, x9].getD s 0)) hB eF trivial ⟨rfl, ⟨rfl, ⟨rfl, ⟨rfl, ⟨rfl, ⟨rfl, ⟨rfl, ⟨rfl, ⟨rfl, ⟨rfl, ⟨hv10, ⟨hv11, ⟨hv12, trivial⟩⟩⟩⟩⟩⟩⟩⟩⟩⟩⟩⟩⟩ ⟨rfl, ⟨rfl, trivial⟩⟩ ?_
  refine List.forall_mem_cons.mpr ⟨?_, fun _ h => absurd h List.not_mem_nil⟩
  · intro ρ τ Lc stc hx g1 g2 g3 g4 g5 g6 g7 g8
    have e0 : ρ 0 = x0 := hx 0 (by decide)
    have e1 : ρ 1 = x1 := hx 1 (by decide)
    have e2 : ρ 2 = x2 := hx 2 (by decide)
    have e3 : ρ 3 = x3 := hx 3 (by decide)
    have e4 : ρ 4 = x4 := hx 4 (by decide)
    have e5 : ρ 5 = x5 := hx 5 (by decide)
    have e6 : ρ 6 = x6 := hx 6 (by decide)
    have e7 : ρ 7 = x7 := hx 7 (by decide)
    have e8 : ρ 8 = x8 := hx 8 (by decide)
    have e9 : ρ 9 = x9 := hx 9 (by decide)
    subst e0
    subst e1
    subst e2
    subst e3
    subst e4
    subst e5
    subst e6
    subst e7
    subst e8
    subst e9
    have g7 := g7 (by decide)
    match Lc, stc, g7, g8 with
    | [v0, v1, v2, v3, v4, v5, v6, v7, v8, v9, v10, v11, v12], [w0, w1, w2, w3], ⟨hv0, hv1, hv2, hv3, hv4, hv5, hv6, hv7, hv8, hv9, hv10, hv11, hv12, _⟩, ⟨hw0, hw1, hw2, hw3, _⟩ =>
      cases hv0
      cases hv1
      cases hv2
      cases hv3
      cases hv4
      cases hv5
      cases hv6
      cases hv7
      cases hv8
      cases hv9
      cases hw0
      cases hw1
      cases hw2
      cases hw3
      exact l0 τ ρ v10 v11 v12 hv10 hv11 hv12 g1 g2 g3 g4 g5 g6
set_option maxRecDepth 100000 in
theorem sy_m76 {σ : pm_S} {Q : Option Value → pm_S → Prop} (x0 x1 x2 x3 x4 x5 x6 x7 x8 x9 x10 : Int) (v10 : Value) (v11 : Value) (v12 : Value) (hv10 : v10.category = 1) (hv11 : v11.category = 1) (hv12 : v12.category = 1) (hB : an_GB pm_B σ) (eF : (0 ≤ x0 ∧ x0 ≤ 9) ∧ (0 ≤ x1 ∧ x1 ≤ 1023) ∧ (0 ≤ x2 ∧ x2 ≤ 9) ∧ (0 ≤ x3 ∧ x3 ≤ 1) ∧ (0 ≤ x4 ∧ x4 ≤ 1023) ∧ (0 ≤ x5 ∧ x5 ≤ 10) ∧ ((-2147483648) ≤ x6 ∧ x6 ≤ 2147483647) ∧ (0 ≤ x7 ∧ x7 ≤ 1023) ∧ (0 ≤ x8 ∧ x8 ≤ 1) ∧ (0 ≤ x9 ∧ x9 ≤ 3628800) ∧ (0 ≤ x10 ∧ x10 ≤ 3628800) ∧ True)
    (l0 : ∀ (τ : pm_S) (y : Nat → Int) (v10 : Value) (v11 : Value) (v12 : Value), v10.category = 1 → v11.category = 1 → v12.category = 1 → an_GB pm_B τ → FQ [] σ τ → ((0 ≤ x0 ∧ x0 ≤ 9) ∧ (0 ≤ x1 ∧ x1 ≤ 1023) ∧ (0 ≤ x2 ∧ x2 ≤ 9) ∧ (0 ≤ x3 ∧ x3 ≤ 1) ∧ (0 ≤ x4 ∧ x4 ≤ 1023) ∧ (0 ≤ x5 ∧ x5 ≤ 10) ∧ ((-2147483648) ≤ x6 ∧ x6 ≤ 2147483647) ∧ (0 ≤ x7 ∧ x7 ≤ 1023) ∧ (0 ≤ x8 ∧ x8 ≤ 1) ∧ (0 ≤ x9 ∧ x9 ≤ 3628800) ∧ (0 ≤ x10 ∧ x10 ≤ 3628800) ∧ ((-2147483648) ≤ y 11 ∧ y 11 ≤ 2147483647) ∧ (1 ≤ y 12 ∧ y 12 ≤ 512) ∧ (0 ≤ y 13 ∧ y 13 ≤ 1023) ∧ True) → (True) → ((an_f 2 (Int32.ofInt (x9)) (Int32.ofInt (x10))).toInt = y 11 ∧ (an_f 6 (Int32.ofInt (1)) (Int32.ofInt (x2))).toInt = y 12 ∧ (an_f 4 (Int32.ofInt (x7)) (Int32.ofInt (y 12))).toInt = y 13 ∧ True) → (True) → Ok 229 25 84 [.ref 93, .int (Int32.ofInt (x0)), .int (Int32.ofInt (x1)), .int (Int32.ofInt (x2)), .int (Int32.ofInt (x3)), .int (Int32.ofInt (x4)), .int (Int32.ofInt (x5)), .int (Int32.ofInt (x6)), .int (Int32.ofInt (x7)), .int (Int32.ofInt (x8)), v10, v11, v12] [.int (Int32.ofInt (y 13)), .int (Int32.ofInt (x0)), .ref 93, .int (Int32.ofInt (y 11)), .int (Int32.ofInt (x6))] τ Q)
    : Ok 229 25 76 [.ref 93, .int (Int32.ofInt (x0)), .int (Int32.ofInt (x1)), .int (Int32.ofInt (x2)), .int (Int32.ofInt (x3)), .int (Int32.ofInt (x4)), .int (Int32.ofInt (x5)), .int (Int32.ofInt (x6)), .int (Int32.ofInt (x7)), .int (Int32.ofInt (x8)), v10, v11, v12] [.int (Int32.ofInt (x10)), .int (Int32.ofInt (x9)), .int (Int32.ofInt (x6))] σ Q := by
  refine an_seg (B := pm_B) (F := []) (T := []) (S := []) (fun _ h => absurd h List.not_mem_nil) (k := 229) (d := 24) (cs := [84]) 10 76 11 [(0, 0, 9), (1, 0, 1023), (2, 0, 9), (3, 0, 1), (4, 0, 1023), (5, 0, 10), (6, (-2147483648), 2147483647), (7, 0, 1023), (8, 0, 1), (9, 0, 3628800), (10, 0, 3628800)] [] [(2, 93, 0), (0, 0, 0), (0, 1, 0), (0, 2, 0), (0, 3, 0), (0, 4, 0), (0, 5, 0), (0, 6, 0), (0, 7, 0), (0, 8, 0), (5, 0, 0), (5, 0, 0), (5, 0, 0)] [(0, 10, 0), (0, 9, 0), (0, 6, 0)] [(84, [(2, 93, 0), (0, 0, 0), (0, 1, 0), (0, 2, 0), (0, 3, 0), (0, 4, 0), (0, 5, 0), (0, 6, 0), (0, 7, 0), (0, 8, 0), (5, 0, 0), (5, 0, 0), (5, 0, 0)], [(0, 13, 0), (0, 0, 0), (2, 93, 0), (0, 11, 0), (0, 6, 0)], [(0, 0, 9), (1, 0, 1023), (2, 0, 9), (3, 0, 1), (4, 0, 1023), (5, 0, 10), (6, (-2147483648), 2147483647), (7, 0, 1023), (8, 0, 1), (9, 0, 3628800), (10, 0, 3628800), (11, (-2147483648), 2147483647), (12, 1, 512), (13, 0, 1023)], [], [(2, (0, 9, 0), (0, 10, 0), 11), (6, (1, 0, 1), (0, 2, 0), 12), (4, (0, 7, 0), (0, 12, 0), 13)], [])] (by decide +kernel) (ρ0 := (fun s => [x0, x1, x2, x3, x4, x5, x6, x7, x8, x9, x10].getD s 0)) hB eF trivial ⟨rfl, ⟨rfl, ⟨rfl, ⟨rfl, ⟨rfl, ⟨rfl, ⟨rfl, ⟨rfl, ⟨rfl, ⟨rfl, ⟨hv10, ⟨hv11, ⟨hv12, trivial⟩⟩⟩⟩⟩⟩⟩⟩⟩⟩⟩⟩⟩ ⟨rfl, ⟨rfl, ⟨rfl, trivial⟩⟩⟩ ?_
  refine List.forall_mem_cons.mpr ⟨?_, fun _ h => absurd h List.not_mem_nil⟩
  · intro ρ τ Lc stc hx g1 g2 g3 g4 g5 g6 g7 g8
    have e0 : ρ 0 = x0 := hx 0 (by decide)
    have e1 : ρ 1 = x1 := hx 1 (by decide)
    have e2 : ρ 2 = x2 := hx 2 (by decide)
    have e3 : ρ 3 = x3 := hx 3 (by decide)
    have e4 : ρ 4 = x4 := hx 4 (by decide)
    have e5 : ρ 5 = x5 := hx 5 (by decide)
    have e6 : ρ 6 = x6 := hx 6 (by decide)
    have e7 : ρ 7 = x7 := hx 7 (by decide)
    have e8 : ρ 8 = x8 := hx 8 (by decide)
    have e9 : ρ 9 = x9 := hx 9 (by decide)
    have e10 : ρ 10 = x10 := hx 10 (by decide)
    subst e0
    subst e1
    subst e2
    subst e3
    subst e4
    subst e5
    subst e6
    subst e7
    subst e8
    subst e9
    subst e10
    have g7 := g7 (by decide)
    match Lc, stc, g7, g8 with
    | [v0, v1, v2, v3, v4, v5, v6, v7, v8, v9, v10, v11, v12], [w0, w1, w2, w3, w4], ⟨hv0, hv1, hv2, hv3, hv4, hv5, hv6, hv7, hv8, hv9, hv10, hv11, hv12, _⟩, ⟨hw0, hw1, hw2, hw3, hw4, _⟩ =>
      cases hv0
      cases hv1
      cases hv2
      cases hv3
      cases hv4
      cases hv5
      cases hv6
      cases hv7
      cases hv8
      cases hv9
      cases hw0
      cases hw1
      cases hw2
      cases hw3
      cases hw4
      exact l0 τ ρ v10 v11 v12 hv10 hv11 hv12 g1 g2 g3 g4 g5 g6
set_option maxRecDepth 100000 in
theorem sy_m85 {σ : pm_S} {Q : Option Value → pm_S → Prop} (x0 x1 x2 x3 x4 x5 x6 x7 x8 x9 x10 : Int) (v10 : Value) (v11 : Value) (v12 : Value) (hv10 : v10.category = 1) (hv11 : v11.category = 1) (hv12 : v12.category = 1) (hB : an_GB pm_B σ) (eF : (0 ≤ x0 ∧ x0 ≤ 9) ∧ (0 ≤ x1 ∧ x1 ≤ 1023) ∧ (0 ≤ x2 ∧ x2 ≤ 9) ∧ (0 ≤ x3 ∧ x3 ≤ 1) ∧ (0 ≤ x4 ∧ x4 ≤ 1023) ∧ (0 ≤ x5 ∧ x5 ≤ 10) ∧ ((-2147483648) ≤ x6 ∧ x6 ≤ 2147483647) ∧ (0 ≤ x7 ∧ x7 ≤ 1023) ∧ (0 ≤ x8 ∧ x8 ≤ 1) ∧ (0 ≤ x9 ∧ x9 ≤ 110000) ∧ ((-2147483648) ≤ x10 ∧ x10 ≤ 2147483647) ∧ True)
    (l0 : ∀ (τ : pm_S) (y : Nat → Int) (v10 : Value) (v11 : Value) (v12 : Value), v10.category = 1 → v11.category = 1 → v12.category = 1 → an_GB pm_B τ → FQ [] σ τ → ((0 ≤ x0 ∧ x0 ≤ 9) ∧ (0 ≤ x1 ∧ x1 ≤ 1023) ∧ (0 ≤ x2 ∧ x2 ≤ 9) ∧ (0 ≤ x3 ∧ x3 ≤ 1) ∧ (0 ≤ x4 ∧ x4 ≤ 1023) ∧ (0 ≤ x5 ∧ x5 ≤ 10) ∧ ((-2147483648) ≤ x6 ∧ x6 ≤ 2147483647) ∧ (0 ≤ x7 ∧ x7 ≤ 1023) ∧ (0 ≤ x8 ∧ x8 ≤ 1) ∧ (0 ≤ x9 ∧ x9 ≤ 110000) ∧ ((-2147483648) ≤ x10 ∧ x10 ≤ 2147483647) ∧ True) → (True) → (True) → (True) → Ok 229 25 88 [.ref 93, .int (Int32.ofInt (x0)), .int (Int32.ofInt (x1)), .int (Int32.ofInt (x2)), .int (Int32.ofInt (x3)), .int (Int32.ofInt (x4)), .int (Int32.ofInt (x5)), .int (Int32.ofInt (x6)), .int (Int32.ofInt (x7)), .int (Int32.ofInt (x8)), v10, v11, v12] [.int (Int32.ofInt (x7)), .int (Int32.ofInt (x0)), .ref 93, .int (Int32.ofInt (x9)), .int (Int32.ofInt (x10)), .int (Int32.ofInt (x6))] τ Q)
    : Ok 229 25 85 [.ref 93, .int (Int32.ofInt (x0)), .int (Int32.ofInt (x1)), .int (Int32.ofInt (x2)), .int (Int32.ofInt (x3)), .int (Int32.ofInt (x4)), .int (Int32.ofInt (x5)), .int (Int32.ofInt (x6)), .int (Int32.ofInt (x7)), .int (Int32.ofInt (x8)), v10, v11, v12] [.int (Int32.ofInt (x9)), .int (Int32.ofInt (x10)), .int (Int32.ofInt (x6))] σ Q := by
  refine an_seg (B := pm_B) (F := []) (T := []) (S := []) (fun _ h => absurd h List.not_mem_nil) (k := 229) (d := 24) (cs := [88]) 5 85 11 [(0, 0, 9), (1, 0, 1023), (2, 0, 9), (3, 0, 1), (4, 0, 1023), (5, 0, 10), (6, (-2147483648), 2147483647), (7, 0, 1023), (8, 0, 1), (9, 0, 110000), (10, (-2147483648), 2147483647)] [] [(2, 93, 0), (0, 0, 0), (0, 1, 0), (0, 2, 0), (0, 3, 0), (0, 4, 0), (0, 5, 0), (0, 6, 0), (0, 7, 0), (0, 8, 0), (5, 0, 0), (5, 0, 0), (5, 0, 0)] [(0, 9, 0), (0, 10, 0), (0, 6, 0)] [(88, [(2, 93, 0), (0, 0, 0), (0, 1, 0), (0, 2, 0), (0, 3, 0), (0, 4, 0), (0, 5, 0), (0, 6, 0), (0, 7, 0), (0, 8, 0), (5, 0, 0), (5, 0, 0), (5, 0, 0)], [(0, 7, 0), (0, 0, 0), (2, 93, 0), (0, 9, 0), (0, 10, 0), (0, 6, 0)], [(0, 0, 9), (1, 0, 1023), (2, 0, 9), (3, 0, 1), (4, 0, 1023), (5, 0, 10), (6, (-2147483648), 2147483647), (7, 0, 1023), (8, 0, 1), (9, 0, 110000), (10, (-2147483648), 2147483647)], [], [], [])] (by decide +kernel) (ρ0 := (fun s => [x0, x1, x2, x3, x4, x5, x6, x7, x8, x9, x10].getD s 0)) hB eF trivial ⟨rfl, ⟨rfl, ⟨rfl, ⟨rfl, ⟨rfl, ⟨rfl, ⟨rfl, ⟨rfl, ⟨rfl, ⟨rfl, ⟨hv10, ⟨hv11, ⟨hv12, trivial⟩⟩⟩⟩⟩⟩⟩⟩⟩⟩⟩⟩⟩ ⟨rfl, ⟨rfl, ⟨rfl, trivial⟩⟩⟩ ?_
  refine List.forall_mem_cons.mpr ⟨?_, fun _ h => absurd h List.not_mem_nil⟩
  · intro ρ τ Lc stc hx g1 g2 g3 g4 g5 g6 g7 g8
    have e0 : ρ 0 = x0 := hx 0 (by decide)
    have e1 : ρ 1 = x1 := hx 1 (by decide)
    have e2 : ρ 2 = x2 := hx 2 (by decide)
    have e3 : ρ 3 = x3 := hx 3 (by decide)
    have e4 : ρ 4 = x4 := hx 4 (by decide)
    have e5 : ρ 5 = x5 := hx 5 (by decide)
    have e6 : ρ 6 = x6 := hx 6 (by decide)
    have e7 : ρ 7 = x7 := hx 7 (by decide)
    have e8 : ρ 8 = x8 := hx 8 (by decide)
    have e9 : ρ 9 = x9 := hx 9 (by decide)
    have e10 : ρ 10 = x10 := hx 10 (by decide)
    subst e0
    subst e1
    subst e2
    subst e3
    subst e4
    subst e5
    subst e6
    subst e7
    subst e8
    subst e9
    subst e10
    have g7 := g7 (by decide)
    match Lc, stc, g7, g8 with
    | [v0, v1, v2, v3, v4, v5, v6, v7, v8, v9, v10, v11, v12], [w0, w1, w2, w3, w4, w5], ⟨hv0, hv1, hv2, hv3, hv4, hv5, hv6, hv7, hv8, hv9, hv10, hv11, hv12, _⟩, ⟨hw0, hw1, hw2, hw3, hw4, hw5, _⟩ =>
      cases hv0
      cases hv1
      cases hv2
      cases hv3
      cases hv4
      cases hv5
      cases hv6
      cases hv7
      cases hv8
      cases hv9
      cases hw0
      cases hw1
      cases hw2
      cases hw3
      cases hw4
      cases hw5
      exact l0 τ ρ v10 v11 v12 hv10 hv11 hv12 g1 g2 g3 g4 g5 g6
set_option maxRecDepth 100000 in
theorem sy_m89 {σ : pm_S} {Q : Option Value → pm_S → Prop} (x0 x1 x2 x3 x4 x5 x6 x7 x8 x9 x10 x11 : Int) (v10 : Value) (v11 : Value) (v12 : Value) (hv10 : v10.category = 1) (hv11 : v11.category = 1) (hv12 : v12.category = 1) (hB : an_GB pm_B σ) (eF : (0 ≤ x0 ∧ x0 ≤ 9) ∧ (0 ≤ x1 ∧ x1 ≤ 1023) ∧ (0 ≤ x2 ∧ x2 ≤ 9) ∧ (0 ≤ x3 ∧ x3 ≤ 1) ∧ (0 ≤ x4 ∧ x4 ≤ 1023) ∧ (0 ≤ x5 ∧ x5 ≤ 10) ∧ ((-2147483648) ≤ x6 ∧ x6 ≤ 2147483647) ∧ (0 ≤ x7 ∧ x7 ≤ 1023) ∧ (0 ≤ x8 ∧ x8 ≤ 1) ∧ (0 ≤ x9 ∧ x9 ≤ 110000) ∧ ((-2147483648) ≤ x10 ∧ x10 ≤ 2147483647) ∧ (0 ≤ x11 ∧ x11 ≤ 110000) ∧ True)
    (l0 : ∀ (τ : pm_S) (y : Nat → Int) (v10 : Value) (v11 : Value) (v12 : Value), v10.category = 1 → v11.category = 1 → v12.category = 1 → an_GB pm_B τ → FQ [] σ τ → ((0 ≤ x0 ∧ x0 ≤ 9) ∧ (0 ≤ x1 ∧ x1 ≤ 1023) ∧ (0 ≤ x2 ∧ x2 ≤ 9) ∧ (0 ≤ x3 ∧ x3 ≤ 1) ∧ (0 ≤ x4 ∧ x4 ≤ 1023) ∧ (0 ≤ x5 ∧ x5 ≤ 10) ∧ ((-2147483648) ≤ x6 ∧ x6 ≤ 2147483647) ∧ (0 ≤ x7 ∧ x7 ≤ 0) ∧ (0 ≤ x8 ∧ x8 ≤ 1) ∧ (0 ≤ x9 ∧ x9 ≤ 110000) ∧ ((-2147483648) ≤ x10 ∧ x10 ≤ 2147483647) ∧ (0 ≤ x11 ∧ x11 ≤ 110000) ∧ ((-110000) ≤ y 12 ∧ y 12 ≤ 110000) ∧ ((-2147483648) ≤ y 13 ∧ y 13 ≤ 2147483647) ∧ ((-2147483648) ≤ y 14 ∧ y 14 ≤ 2147483647) ∧ (0 ≤ y 15 ∧ y 15 ≤ 1023) ∧ True) → (y 15 ≤ x4 + 0 ∧ True) → ((an_f 1 (Int32.ofInt (x9)) (Int32.ofInt (x11))).toInt = y 12 ∧ (an_f 2 (Int32.ofInt (x10)) (Int32.ofInt (y 12))).toInt = y 13 ∧ (an_f 0 (Int32.ofInt (x6)) (Int32.ofInt (y 13))).toInt = y 14 ∧ (an_f 3 (Int32.ofInt ((-1))) (Int32.ofInt (x4))).toInt = y 15 ∧ True) → (True) → Ok 229 25 59 [.ref 93, .int (Int32.ofInt (x0)), .int (Int32.ofInt (x1)), .int (Int32.ofInt (x2)), .int (Int32.ofInt (x3)), .int (Int32.ofInt (x4)), .int (Int32.ofInt (x5)), .int (Int32.ofInt (y 14)), .int (Int32.ofInt (y 15)), .int (Int32.ofInt 0), v10, v11, v12] [] τ Q)
    (l1 : ∀ (τ : pm_S) (y : Nat → Int) (v10 : Value) (v11 : Value) (v12 : Value), v10.category = 1 → v11.category = 1 → v12.category = 1 → an_GB pm_B τ → FQ [] σ τ → ((0 ≤ x0 ∧ x0 ≤ 9) ∧ (0 ≤ x1 ∧ x1 ≤ 1023) ∧ (0 ≤ x2 ∧ x2 ≤ 9) ∧ (0 ≤ x3 ∧ x3 ≤ 1) ∧ (0 ≤ x4 ∧ x4 ≤ 1023) ∧ (0 ≤ x5 ∧ x5 ≤ 10) ∧ ((-2147483648) ≤ x6 ∧ x6 ≤ 2147483647) ∧ (1 ≤ x7 ∧ x7 ≤ 1023) ∧ (0 ≤ x8 ∧ x8 ≤ 1) ∧ (0 ≤ x9 ∧ x9 ≤ 110000) ∧ ((-2147483648) ≤ x10 ∧ x10 ≤ 2147483647) ∧ (0 ≤ x11 ∧ x11 ≤ 110000) ∧ ((-110000) ≤ y 12 ∧ y 12 ≤ 110000) ∧ ((-2147483648) ≤ y 13 ∧ y 13 ≤ 2147483647) ∧ ((-2147483648) ≤ y 14 ∧ y 14 ≤ 2147483647) ∧ (0 ≤ y 15 ∧ y 15 ≤ 1022) ∧ True) → (y 15 ≤ x7 + (-1) ∧ y 15 ≤ x4 + 0 ∧ True) → ((an_f 1 (Int32.ofInt (x9)) (Int32.ofInt (x11))).toInt = y 12 ∧ (an_f 2 (Int32.ofInt (x10)) (Int32.ofInt (y 12))).toInt = y 13 ∧ (an_f 0 (Int32.ofInt (x6)) (Int32.ofInt (y 13))).toInt = y 14 ∧ (an_f 3 (Int32.ofInt (x7 + (-1))) (Int32.ofInt (x4))).toInt = y 15 ∧ True) → (True) → Ok 229 25 59 [.ref 93, .int (Int32.ofInt (x0)), .int (Int32.ofInt (x1)), .int (Int32.ofInt (x2)), .int (Int32.ofInt (x3)), .int (Int32.ofInt (x4)), .int (Int32.ofInt (x5)), .int (Int32.ofInt (y 14)), .int (Int32.ofInt (y 15)), .int (Int32.ofInt 1), v10, v11, v12] [] τ Q)
    : Ok 229 25 89 [.ref 93, .int (Int32.ofInt (x0)), .int (Int32.ofInt (x1)), .int (Int32.ofInt (x2)), .int (Int32.ofInt (x3)), .int (Int32.ofInt (x4)), .int (Int32.ofInt (x5)), .int (Int32.ofInt (x6)), .int (Int32.ofInt (x7)), .int (Int32.ofInt (x8)), v10, v11, v12] [.int (Int32.ofInt (x11)), .int (Int32.ofInt (x9)), .int (Int32.ofInt (x10)), .int (Int32.ofInt (x6))] σ Q := by
  refine an_seg (B := pm_B) (F := []) (T := []) (S := []) (fun _ h => absurd h List.not_mem_nil) (k := 229) (d := 24) (cs := [59]) 18 89 12 [(0, 0, 9), (1, 0, 1023), (2, 0, 9), (3, 0, 1), (4, 0, 1023), (5, 0, 10), (6, (-2147483648), 2147483647), (7, 0, 1023), (8, 0, 1), (9, 0, 110000), (10, (-2147483648), 2147483647), (11, 0, 110000)] [] [(2, 93, 0), (0, 0, 0), (0, 1, 0), (0, 2, 0), (0, 3, 0), (0, 4, 0), (0, 5, 0), (0, 6, 0), (0, 7, 0), (0, 8, 0), (5, 0, 0), (5, 0, 0), (5, 0, 0)] [(0, 11, 0), (0, 9, 0), (0, 10, 0), (0, 6, 0)] [(59, [(2, 93, 0), (0, 0, 0), (0, 1, 0), (0, 2, 0), (0, 3, 0), (0, 4, 0), (0, 5, 0), (0, 14, 0), (0, 15, 0), (1, 0, 0), (5, 0, 0), (5, 0, 0), (5, 0, 0)], [], [(0, 0, 9), (1, 0, 1023), (2, 0, 9), (3, 0, 1), (4, 0, 1023), (5, 0, 10), (6, (-2147483648), 2147483647), (7, 0, 0), (8, 0, 1), (9, 0, 110000), (10, (-2147483648), 2147483647), (11, 0, 110000), (12, (-110000), 110000), (13, (-2147483648), 2147483647), (14, (-2147483648), 2147483647), (15, 0, 1023)], [(1, 15, 4, 0)], [(1, (0, 9, 0), (0, 11, 0), 12), (2, (0, 10, 0), (0, 12, 0), 13), (0, (0, 6, 0), (0, 13, 0), 14), (3, (1, 0, (-1)), (0, 4, 0), 15)], []),
    (59, [(2, 93, 0), (0, 0, 0), (0, 1, 0), (0, 2, 0), (0, 3, 0), (0, 4, 0), (0, 5, 0), (0, 14, 0), (0, 15, 0), (1, 0, 1), (5, 0, 0), (5, 0, 0), (5, 0, 0)], [], [(0, 0, 9), (1, 0, 1023), (2, 0, 9), (3, 0, 1), (4, 0, 1023), (5, 0, 10), (6, (-2147483648), 2147483647), (7, 1, 1023), (8, 0, 1), (9, 0, 110000), (10, (-2147483648), 2147483647), (11, 0, 110000), (12, (-110000), 110000), (13, (-2147483648), 2147483647), (14, (-2147483648), 2147483647), (15, 0, 1022)], [(1, 15, 7, (-1)), (1, 15, 4, 0)], [(1, (0, 9, 0), (0, 11, 0), 12), (2, (0, 10, 0), (0, 12, 0), 13), (0, (0, 6, 0), (0, 13, 0), 14), (3, (0, 7, (-1)), (0, 4, 0), 15)], [])] (by decide +kernel) (ρ0 := (fun s => [x0, x1, x2, x3, x4, x5, x6, x7, x8, x9, x10, x11].getD s 0)) hB eF trivial ⟨rfl, ⟨rfl, ⟨rfl, ⟨rfl, ⟨rfl, ⟨rfl, ⟨rfl, ⟨rfl, ⟨rfl, ⟨rfl, ⟨hv10, ⟨hv11, ⟨hv12, trivial⟩⟩⟩⟩⟩⟩⟩⟩⟩⟩⟩⟩⟩ ⟨rfl, ⟨rfl, ⟨rfl, ⟨rfl, trivial⟩⟩⟩⟩ ?_
  refine List.forall_mem_cons.mpr ⟨?_, List.forall_mem_cons.mpr ⟨?_, fun _ h => absurd h List.not_mem_nil⟩⟩
  · intro ρ τ Lc stc hx g1 g2 g3 g4 g5 g6 g7 g8
    have e0 : ρ 0 = x0 := hx 0 (by decide)
    have e1 : ρ 1 = x1 := hx 1 (by decide)
    have e2 : ρ 2 = x2 := hx 2 (by decide)
    have e3 : ρ 3 = x3 := hx 3 (by decide)
    have e4 : ρ 4 = x4 := hx 4 (by decide)
    have e5 : ρ 5 = x5 := hx 5 (by decide)
    have e6 : ρ 6 = x6 := hx 6 (by decide)
    have e7 : ρ 7 = x7 := hx 7 (by decide)
    have e8 : ρ 8 = x8 := hx 8 (by decide)
    have e9 : ρ 9 = x9 := hx 9 (by decide)
    have e10 : ρ 10 = x10 := hx 10 (by decide)
    have e11 : ρ 11 = x11 := hx 11 (by decide)
    subst e0
    subst e1
    subst e2
    subst e3
    subst e4
    subst e5
    subst e6
    subst e7
    subst e8
    subst e9
    subst e10
    subst e11
    have g7 := g7 (by decide)
    match Lc, stc, g7, g8 with
    | [v0, v1, v2, v3, v4, v5, v6, v7, v8, v9, v10, v11, v12], [], ⟨hv0, hv1, hv2, hv3, hv4, hv5, hv6, hv7, hv8, hv9, hv10, hv11, hv12, _⟩, _ =>
      cases hv0
      cases hv1
      cases hv2
      cases hv3
      cases hv4
      cases hv5
      cases hv6
      cases hv7
      cases hv8
      cases hv9
      exact l0 τ ρ v10 v11 v12 hv10 hv11 hv12 g1 g2 g3 g4 g5 g6
  · intro ρ τ Lc stc hx g1 g2 g3 g4 g5 g6 g7 g8
    have e0 : ρ 0 = x0 := hx 0 (by decide)
    have e1 : ρ 1 = x1 := hx 1 (by decide)
    have e2 : ρ 2 = x2 := hx 2 (by decide)
    have e3 : ρ 3 = x3 := hx 3 (by decide)
    have e4 : ρ 4 = x4 := hx 4 (by decide)
    have e5 : ρ 5 = x5 := hx 5 (by decide)
    have e6 : ρ 6 = x6 := hx 6 (by decide)
    have e7 : ρ 7 = x7 := hx 7 (by decide)
    have e8 : ρ 8 = x8 := hx 8 (by decide)
    have e9 : ρ 9 = x9 := hx 9 (by decide)
    have e10 : ρ 10 = x10 := hx 10 (by decide)
    have e11 : ρ 11 = x11 := hx 11 (by decide)
    subst e0
    subst e1
    subst e2
    subst e3
    subst e4
    subst e5
    subst e6
    subst e7
    subst e8
    subst e9
    subst e10
    subst e11
    have g7 := g7 (by decide)
    match Lc, stc, g7, g8 with
    | [v0, v1, v2, v3, v4, v5, v6, v7, v8, v9, v10, v11, v12], [], ⟨hv0, hv1, hv2, hv3, hv4, hv5, hv6, hv7, hv8, hv9, hv10, hv11, hv12, _⟩, _ =>
      cases hv0
      cases hv1
      cases hv2
      cases hv3
      cases hv4
      cases hv5
      cases hv6
      cases hv7
      cases hv8
      cases hv9
      exact l1 τ ρ v10 v11 v12 hv10 hv11 hv12 g1 g2 g3 g4 g5 g6
