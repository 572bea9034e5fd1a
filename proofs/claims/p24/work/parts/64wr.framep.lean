/-! shares: frames, pieces -/
set_option maxRecDepth 100000 in
theorem sq_c0 {σ : pm_S} {Q : Option Value → pm_S → Prop} (x0 x1 x2 x3 : Int) (v5 : Value) (v6 : Value) (v7 : Value) (v8 : Value) (hv5 : v5.category = 1) (hv6 : v6.category = 1) (hv7 : v7.category = 1) (hv8 : v8.category = 1) (hB : an_GB pm_B σ) (eF : (0 ≤ x0 ∧ x0 ≤ 9) ∧ (0 ≤ x1 ∧ x1 ≤ 1023) ∧ (0 ≤ x2 ∧ x2 ≤ 9) ∧ (0 ≤ x3 ∧ x3 ≤ 1) ∧ True)
    (l0 : ∀ (τ : pm_S) (y : Nat → Int), an_GB pm_B τ → FQ [] σ τ → ((0 ≤ x0 ∧ x0 ≤ 9) ∧ (0 ≤ x1 ∧ x1 ≤ 1023) ∧ (0 ≤ x2 ∧ x2 ≤ 9) ∧ (0 ≤ x3 ∧ x3 ≤ 1) ∧ (0 ≤ y 4 ∧ y 4 ≤ 10) ∧ (0 ≤ y 5 ∧ y 5 ≤ 1023) ∧ (0 ≤ y 6 ∧ y 6 ≤ 0) ∧ True) → (y 6 ≤ y 5 + 0 ∧ True) → ((an_f 16 (Int32.ofInt (x1)) (Int32.ofInt (0))).toInt = y 4 ∧ (an_f 7 (Int32.ofInt (x1)) (Int32.ofInt (x2))).toInt = y 5 ∧ (an_f 3 (Int32.ofInt (y 5)) (Int32.ofInt (1))).toInt = y 6 ∧ True) → (True) → Q (some (.int (Int32.ofInt (-1)))) τ)
    (l1 : ∀ (τ : pm_S) (y : Nat → Int) (v6 : Value) (v7 : Value) (v8 : Value), v6.category = 1 → v7.category = 1 → v8.category = 1 → an_GB pm_B τ → FQ [] σ τ → ((0 ≤ x0 ∧ x0 ≤ 9) ∧ (0 ≤ x1 ∧ x1 ≤ 1023) ∧ (0 ≤ x2 ∧ x2 ≤ 9) ∧ (0 ≤ x3 ∧ x3 ≤ 1) ∧ (0 ≤ y 4 ∧ y 4 ≤ 6) ∧ (0 ≤ y 5 ∧ y 5 ≤ 1023) ∧ (1 ≤ y 6 ∧ y 6 ≤ 1) ∧ True) → (y 6 ≤ y 5 + 0 ∧ True) → ((an_f 16 (Int32.ofInt (x1)) (Int32.ofInt (0))).toInt = y 4 ∧ (an_f 7 (Int32.ofInt (x1)) (Int32.ofInt (x2))).toInt = y 5 ∧ (an_f 3 (Int32.ofInt (y 5)) (Int32.ofInt (1))).toInt = y 6 ∧ True) → (True) → Ok 109 29 18 [.ref 85, .int (Int32.ofInt (x0)), .int (Int32.ofInt (x1)), .int (Int32.ofInt (x2)), .int (Int32.ofInt (x3)), .int (Int32.ofInt (y 4)), v6, v7, v8] [.int (Int32.ofInt (x1)), .ref 7, .int (Int32.ofInt (x0)), .ref 85] τ Q)
    (l2 : ∀ (τ : pm_S) (y : Nat → Int), an_GB pm_B τ → FQ [] σ τ → ((0 ≤ x0 ∧ x0 ≤ 9) ∧ (0 ≤ x1 ∧ x1 ≤ 1023) ∧ (0 ≤ x2 ∧ x2 ≤ 9) ∧ (0 ≤ x3 ∧ x3 ≤ 1) ∧ (7 ≤ y 4 ∧ y 4 ≤ 10) ∧ (0 ≤ y 5 ∧ y 5 ≤ 1023) ∧ (1 ≤ y 6 ∧ y 6 ≤ 1) ∧ True) → (y 6 ≤ y 5 + 0 ∧ True) → ((an_f 16 (Int32.ofInt (x1)) (Int32.ofInt (0))).toInt = y 4 ∧ (an_f 7 (Int32.ofInt (x1)) (Int32.ofInt (x2))).toInt = y 5 ∧ (an_f 3 (Int32.ofInt (y 5)) (Int32.ofInt (1))).toInt = y 6 ∧ True) → (True) → Q (some (.int (Int32.ofInt (-1)))) τ)
    : Ok 109 29 0 [.ref 85, .int (Int32.ofInt (x0)), .int (Int32.ofInt (x1)), .int (Int32.ofInt (x2)), .int (Int32.ofInt (x3)), v5, v6, v7, v8] [] σ Q := by
  refine an_seg (B := pm_B) (F := []) (T := []) (S := []) (fun _ h => absurd h List.not_mem_nil) (k := 109) (d := 28) (cs := [18]) 28 0 4 [(0, 0, 9), (1, 0, 1023), (2, 0, 9), (3, 0, 1)] [] [(2, 85, 0), (0, 0, 0), (0, 1, 0), (0, 2, 0), (0, 3, 0), (5, 0, 0), (5, 0, 0), (5, 0, 0), (5, 0, 0)] [] [(9999, [], [(1, 0, (-1))], [(0, 0, 9), (1, 0, 1023), (2, 0, 9), (3, 0, 1), (4, 0, 10), (5, 0, 1023), (6, 0, 0)], [(1, 6, 5, 0)], [(16, (0, 1, 0), (1, 0, 0), 4), (7, (0, 1, 0), (0, 2, 0), 5), (3, (0, 5, 0), (1, 0, 1), 6)], []),
    (18, [(2, 85, 0), (0, 0, 0), (0, 1, 0), (0, 2, 0), (0, 3, 0), (0, 4, 0), (5, 0, 0), (5, 0, 0), (5, 0, 0)], [(0, 1, 0), (2, 7, 0), (0, 0, 0), (2, 85, 0)], [(0, 0, 9), (1, 0, 1023), (2, 0, 9), (3, 0, 1), (4, 0, 6), (5, 0, 1023), (6, 1, 1)], [(1, 6, 5, 0)], [(16, (0, 1, 0), (1, 0, 0), 4), (7, (0, 1, 0), (0, 2, 0), 5), (3, (0, 5, 0), (1, 0, 1), 6)], []),
    (9999, [], [(1, 0, (-1))], [(0, 0, 9), (1, 0, 1023), (2, 0, 9), (3, 0, 1), (4, 7, 10), (5, 0, 1023), (6, 1, 1)], [(1, 6, 5, 0)], [(16, (0, 1, 0), (1, 0, 0), 4), (7, (0, 1, 0), (0, 2, 0), 5), (3, (0, 5, 0), (1, 0, 1), 6)], [])] (by decide +kernel) (ρ0 := (fun s => [x0, x1, x2, x3].getD s 0)) hB eF trivial ⟨rfl, ⟨rfl, ⟨rfl, ⟨rfl, ⟨rfl, ⟨hv5, ⟨hv6, ⟨hv7, ⟨hv8, trivial⟩⟩⟩⟩⟩⟩⟩⟩⟩ trivial ?_
  refine List.forall_mem_cons.mpr ⟨?_, List.forall_mem_cons.mpr ⟨?_, List.forall_mem_cons.mpr ⟨?_, fun _ h => absurd h List.not_mem_nil⟩⟩⟩
  · intro ρ τ Lc stc hx g1 g2 g3 g4 g5 g6 g7 g8
    have e0 : ρ 0 = x0 := hx 0 (by decide)
    have e1 : ρ 1 = x1 := hx 1 (by decide)
    have e2 : ρ 2 = x2 := hx 2 (by decide)
    have e3 : ρ 3 = x3 := hx 3 (by decide)
    subst e0
    subst e1
    subst e2
    subst e3
    match stc, g8 with
    | [_], ⟨h, _⟩ => cases h; exact l0 τ ρ g1 g2 g3 g4 g5 g6
  · intro ρ τ Lc stc hx g1 g2 g3 g4 g5 g6 g7 g8
    have e0 : ρ 0 = x0 := hx 0 (by decide)
    have e1 : ρ 1 = x1 := hx 1 (by decide)
    have e2 : ρ 2 = x2 := hx 2 (by decide)
    have e3 : ρ 3 = x3 := hx 3 (by decide)
    subst e0
    subst e1
    subst e2
    subst e3
    have g7 := g7 (by decide)
    match Lc, stc, g7, g8 with
    | [v0, v1, v2, v3, v4, v5, v6, v7, v8], [w0, w1, w2, w3], ⟨hv0, hv1, hv2, hv3, hv4, hv5, hv6, hv7, hv8, _⟩, ⟨hw0, hw1, hw2, hw3, _⟩ =>
      cases hv0
      cases hv1
      cases hv2
      cases hv3
      cases hv4
      cases hv5
      cases hw0
      cases hw1
      cases hw2
      cases hw3
      exact l1 τ ρ v6 v7 v8 hv6 hv7 hv8 g1 g2 g3 g4 g5 g6
  · intro ρ τ Lc stc hx g1 g2 g3 g4 g5 g6 g7 g8
    have e0 : ρ 0 = x0 := hx 0 (by decide)
    have e1 : ρ 1 = x1 := hx 1 (by decide)
    have e2 : ρ 2 = x2 := hx 2 (by decide)
    have e3 : ρ 3 = x3 := hx 3 (by decide)
    subst e0
    subst e1
    subst e2
    subst e3
    match stc, g8 with
    | [_], ⟨h, _⟩ => cases h; exact l2 τ ρ g1 g2 g3 g4 g5 g6
set_option maxRecDepth 100000 in
theorem sq_c20 {σ : pm_S} {Q : Option Value → pm_S → Prop} (x0 x1 x2 x3 x4 : Int) (v6 : Value) (v7 : Value) (v8 : Value) (hv6 : v6.category = 1) (hv7 : v7.category = 1) (hv8 : v8.category = 1) (hB : an_GB pm_B σ) (eF : (0 ≤ x0 ∧ x0 ≤ 9) ∧ (0 ≤ x1 ∧ x1 ≤ 1023) ∧ (0 ≤ x2 ∧ x2 ≤ 9) ∧ (0 ≤ x3 ∧ x3 ≤ 1) ∧ (0 ≤ x4 ∧ x4 ≤ 6) ∧ True)
    (l0 : ∀ (τ : pm_S) (y : Nat → Int) (v6 : Value) (v7 : Value) (v8 : Value), v6.category = 1 → v7.category = 1 → v8.category = 1 → an_GB pm_B τ → FQ [] σ τ → ((0 ≤ x0 ∧ x0 ≤ 9) ∧ (0 ≤ x1 ∧ x1 ≤ 1023) ∧ (0 ≤ x2 ∧ x2 ≤ 9) ∧ (0 ≤ x3 ∧ x3 ≤ 1) ∧ (0 ≤ x4 ∧ x4 ≤ 6) ∧ (1 ≤ y 5 ∧ y 5 ≤ 512) ∧ ((-513) ≤ y 6 ∧ y 6 ≤ (-2)) ∧ (0 ≤ y 7 ∧ y 7 ≤ 1023) ∧ True) → (y 7 ≤ x1 + 0 ∧ True) → ((an_f 6 (Int32.ofInt (1)) (Int32.ofInt (x2))).toInt = y 5 ∧ (an_f 5 (Int32.ofInt (y 5)) (Int32.ofInt ((-1)))).toInt = y 6 ∧ (an_f 3 (Int32.ofInt (x1)) (Int32.ofInt (y 6))).toInt = y 7 ∧ True) → (True) → Ok 109 29 30 [.ref 85, .int (Int32.ofInt (x0)), .int (Int32.ofInt (x1)), .int (Int32.ofInt (x2)), .int (Int32.ofInt (x3)), .int (Int32.ofInt (x4)), v6, v7, v8] [.int (Int32.ofInt (x4)), .int (Int32.ofInt (x2)), .int (Int32.ofInt (y 7)), .ref 85] τ Q)
    : Ok 109 29 20 [.ref 85, .int (Int32.ofInt (x0)), .int (Int32.ofInt (x1)), .int (Int32.ofInt (x2)), .int (Int32.ofInt (x3)), .int (Int32.ofInt (x4)), v6, v7, v8] [] σ Q := by
  refine an_seg (B := pm_B) (F := []) (T := []) (S := []) (fun _ h => absurd h List.not_mem_nil) (k := 109) (d := 28) (cs := [30]) 12 20 5 [(0, 0, 9), (1, 0, 1023), (2, 0, 9), (3, 0, 1), (4, 0, 6)] [] [(2, 85, 0), (0, 0, 0), (0, 1, 0), (0, 2, 0), (0, 3, 0), (0, 4, 0), (5, 0, 0), (5, 0, 0), (5, 0, 0)] [] [(30, [(2, 85, 0), (0, 0, 0), (0, 1, 0), (0, 2, 0), (0, 3, 0), (0, 4, 0), (5, 0, 0), (5, 0, 0), (5, 0, 0)], [(0, 4, 0), (0, 2, 0), (0, 7, 0), (2, 85, 0)], [(0, 0, 9), (1, 0, 1023), (2, 0, 9), (3, 0, 1), (4, 0, 6), (5, 1, 512), (6, (-513), (-2)), (7, 0, 1023)], [(1, 7, 1, 0)], [(6, (1, 0, 1), (0, 2, 0), 5), (5, (0, 5, 0), (1, 0, (-1)), 6), (3, (0, 1, 0), (0, 6, 0), 7)], [])] (by decide +kernel) (ρ0 := (fun s => [x0, x1, x2, x3, x4].getD s 0)) hB eF trivial ⟨rfl, ⟨rfl, ⟨rfl, ⟨rfl, ⟨rfl, ⟨rfl, ⟨hv6, ⟨hv7, ⟨hv8, trivial⟩⟩⟩⟩⟩⟩⟩⟩⟩ trivial ?_
  refine List.forall_mem_cons.mpr ⟨?_, fun _ h => absurd h List.not_mem_nil⟩
  · intro ρ τ Lc stc hx g1 g2 g3 g4 g5 g6 g7 g8
    have e0 : ρ 0 = x0 := hx 0 (by decide)
    have e1 : ρ 1 = x1 := hx 1 (by decide)
    have e2 : ρ 2 = x2 := hx 2 (by decide)
    have e3 : ρ 3 = x3 := hx 3 (by decide)
    have e4 : ρ 4 = x4 := hx 4 (by decide)
    subst e0
    subst e1
    subst e2
    subst e3
    subst e4
    have g7 := g7 (by decide)
    match Lc, stc, g7, g8 with
    | [v0, v1, v2, v3, v4, v5, v6, v7, v8], [w0, w1, w2, w3], ⟨hv0, hv1, hv2, hv3, hv4, hv5, hv6, hv7, hv8, _⟩, ⟨hw0, hw1, hw2, hw3, _⟩ =>
      cases hv0
      cases hv1
      cases hv2
      cases hv3
      cases hv4
      cases hv5
      cases hw0
      cases hw1
      cases hw2
      cases hw3
      exact l0 τ ρ v6 v7 v8 hv6 hv7 hv8 g1 g2 g3 g4 g5 g6
set_option maxRecDepth 100000 in
theorem sq_c31 {σ : pm_S} {Q : Option Value → pm_S → Prop} (x0 x1 x2 x3 x4 x5 : Int) (v6 : Value) (v7 : Value) (v8 : Value) (hv6 : v6.category = 1) (hv7 : v7.category = 1) (hv8 : v8.category = 1) (hB : an_GB pm_B σ) (eF : (0 ≤ x0 ∧ x0 ≤ 9) ∧ (0 ≤ x1 ∧ x1 ≤ 1023) ∧ (0 ≤ x2 ∧ x2 ≤ 9) ∧ (0 ≤ x3 ∧ x3 ≤ 1) ∧ (0 ≤ x4 ∧ x4 ≤ 6) ∧ ((-2000000000) ≤ x5 ∧ x5 ≤ 2000000000) ∧ True)
    (l0 : ∀ (τ : pm_S) (y : Nat → Int) (v7 : Value) (v8 : Value), v7.category = 1 → v8.category = 1 → an_GB pm_B τ → FQ [] σ τ → ((0 ≤ x0 ∧ x0 ≤ 9) ∧ (0 ≤ x1 ∧ x1 ≤ 1023) ∧ (0 ≤ x2 ∧ x2 ≤ 9) ∧ (0 ≤ x3 ∧ x3 ≤ 1) ∧ (0 ≤ x4 ∧ x4 ≤ 6) ∧ ((-2000000000) ≤ x5 ∧ x5 ≤ 2000000000) ∧ True) → (True) → (True) → (True) → Ok 109 29 33 [.ref 85, .int (Int32.ofInt (x0)), .int (Int32.ofInt (x1)), .int (Int32.ofInt (x2)), .int (Int32.ofInt (x3)), .int (Int32.ofInt (x4)), .int (Int32.ofInt (x5)), v7, v8] [.int (Int32.ofInt (x4))] τ Q)
    : Ok 109 29 31 [.ref 85, .int (Int32.ofInt (x0)), .int (Int32.ofInt (x1)), .int (Int32.ofInt (x2)), .int (Int32.ofInt (x3)), .int (Int32.ofInt (x4)), v6, v7, v8] [.int (Int32.ofInt (x5))] σ Q := by
  refine an_seg (B := pm_B) (F := []) (T := []) (S := []) (fun _ h => absurd h List.not_mem_nil) (k := 109) (d := 28) (cs := [33]) 4 31 6 [(0, 0, 9), (1, 0, 1023), (2, 0, 9), (3, 0, 1), (4, 0, 6), (5, (-2000000000), 2000000000)] [] [(2, 85, 0), (0, 0, 0), (0, 1, 0), (0, 2, 0), (0, 3, 0), (0, 4, 0), (5, 0, 0), (5, 0, 0), (5, 0, 0)] [(0, 5, 0)] [(33, [(2, 85, 0), (0, 0, 0), (0, 1, 0), (0, 2, 0), (0, 3, 0), (0, 4, 0), (0, 5, 0), (5, 0, 0), (5, 0, 0)], [(0, 4, 0)], [(0, 0, 9), (1, 0, 1023), (2, 0, 9), (3, 0, 1), (4, 0, 6), (5, (-2000000000), 2000000000)], [], [], [])] (by decide +kernel) (ρ0 := (fun s => [x0, x1, x2, x3, x4, x5].getD s 0)) hB eF trivial ⟨rfl, ⟨rfl, ⟨rfl, ⟨rfl, ⟨rfl, ⟨rfl, ⟨hv6, ⟨hv7, ⟨hv8, trivial⟩⟩⟩⟩⟩⟩⟩⟩⟩ ⟨rfl, trivial⟩ ?_
  refine List.forall_mem_cons.mpr ⟨?_, fun _ h => absurd h List.not_mem_nil⟩
  · intro ρ τ Lc stc hx g1 g2 g3 g4 g5 g6 g7 g8
    have e0 : ρ 0 = x0 := hx 0 (by decide)
    have e1 : ρ 1 = x1 := hx 1 (by decide)
    have e2 : ρ 2 = x2 := hx 2 (by decide)
    have e3 : ρ 3 = x3 := hx 3 (by decide)
    have e4 : ρ 4 = x4 := hx 4 (by decide)
    have e5 : ρ 5 = x5 := hx 5 (by decide)
    subst e0
    subst e1
    subst e2
    subst e3
    subst e4
    subst e5
    have g7 := g7 (by decide)
    match Lc, stc, g7, g8 with
    | [v0, v1, v2, v3, v4, v5, v6, v7, v8], [w0], ⟨hv0, hv1, hv2, hv3, hv4, hv5, hv6, hv7, hv8, _⟩, ⟨hw0, _⟩ =>
      cases hv0
      cases hv1
      cases hv2
      cases hv3
      cases hv4
      cases hv5
      cases hv6
      cases hw0
      exact l0 τ ρ v7 v8 hv7 hv8 g1 g2 g3 g4 g5 g6
set_option maxRecDepth 100000 in
theorem sq_c34 {σ : pm_S} {Q : Option Value → pm_S → Prop} (x0 x1 x2 x3 x4 x5 x6 : Int) (v7 : Value) (v8 : Value) (hv7 : v7.category = 1) (hv8 : v8.category = 1) (hB : an_GB pm_B σ) (eF : (0 ≤ x0 ∧ x0 ≤ 9) ∧ (0 ≤ x1 ∧ x1 ≤ 1023) ∧ (0 ≤ x2 ∧ x2 ≤ 9) ∧ (0 ≤ x3 ∧ x3 ≤ 1) ∧ (0 ≤ x4 ∧ x4 ≤ 6) ∧ ((-2000000000) ≤ x5 ∧ x5 ≤ 2000000000) ∧ (1 ≤ x6 ∧ x6 ≤ 3628800) ∧ True)
    (l0 : ∀ (τ : pm_S) (y : Nat → Int) (v8 : Value), v8.category = 1 → an_GB pm_B τ → FQ [] σ τ → ((0 ≤ x0 ∧ x0 ≤ 9) ∧ (0 ≤ x1 ∧ x1 ≤ 1023) ∧ (0 ≤ x2 ∧ x2 ≤ 9) ∧ (0 ≤ x3 ∧ x3 ≤ 1) ∧ (0 ≤ x4 ∧ x4 ≤ 6) ∧ ((-2000000000) ≤ x5 ∧ x5 ≤ 2000000000) ∧ (1 ≤ x6 ∧ x6 ≤ 3628800) ∧ ((-2147483648) ≤ y 7 ∧ y 7 ≤ 2147483647) ∧ True) → (True) → ((an_f 13 (Int32.ofInt (x5)) (Int32.ofInt (0))).toInt = y 7 ∧ True) → (True) → Ok 109 29 38 [.ref 85, .int (Int32.ofInt (x0)), .int (Int32.ofInt (x1)), .int (Int32.ofInt (x2)), .int (Int32.ofInt (x3)), .int (Int32.ofInt (x4)), .int (Int32.ofInt (x5)), .int (Int32.ofInt (x6)), v8] [.int (Int32.ofInt (x6)), .int (Int32.ofInt (y 7))] τ Q)
    : Ok 109 29 34 [.ref 85, .int (Int32.ofInt (x0)), .int (Int32.ofInt (x1)), .int (Int32.ofInt (x2)), .int (Int32.ofInt (x3)), .int (Int32.ofInt (x4)), .int (Int32.ofInt (x5)), v7, v8] [.int (Int32.ofInt (x6))] σ Q := by
  refine an_seg (B := pm_B) (F := []) (T := []) (S := []) (fun _ h => absurd h List.not_mem_nil) (k := 109) (d := 28) (cs := [38]) 6 34 7 [(0, 0, 9), (1, 0, 1023), (2, 0, 9), (3, 0, 1), (4, 0, 6), (5, (-2000000000), 2000000000), (6, 1, 3628800)] [] [(2, 85, 0), (0, 0, 0), (0, 1, 0), (0, 2, 0), (0, 3, 0), (0, 4, 0), (0, 5, 0), (5, 0, 0), (5, 0, 0)] [(0, 6, 0)] [(38, [(2, 85, 0), (0, 0, 0), (0, 1, 0), (0, 2, 0), (0, 3, 0), (0, 4, 0), (0, 5, 0), (0, 6, 0), (5, 0, 0)], [(0, 6, 0), (0, 7, 0)], [(0, 0, 9), (1, 0, 1023), (2, 0, 9), (3, 0, 1), (4, 0, 6), (5, (-2000000000), 2000000000), (6, 1, 3628800), (7, (-2147483648), 2147483647)], [], [(13, (0, 5, 0), (1, 0, 0), 7)], [])] (by decide +kernel) (ρ0 := (fun s => [x0, x1, x2, x3, x4, x5, x6].getD s 0)) hB eF trivial ⟨rfl, ⟨rfl, ⟨rfl, ⟨rfl, ⟨rfl, ⟨rfl, ⟨rfl, ⟨hv7, ⟨hv8, trivial⟩⟩⟩⟩⟩⟩⟩⟩⟩ ⟨rfl, trivial⟩ ?_
  refine List.forall_mem_cons.mpr ⟨?_, fun _ h => absurd h List.not_mem_nil⟩
  · intro ρ τ Lc stc hx g1 g2 g3 g4 g5 g6 g7 g8
    have e0 : ρ 0 = x0 := hx 0 (by decide)
    have e1 : ρ 1 = x1 := hx 1 (by decide)
    have e2 : ρ 2 = x2 := hx 2 (by decide)
    have e3 : ρ 3 = x3 := hx 3 (by decide)
    have e4 : ρ 4 = x4 := hx 4 (by decide)
    have e5 : ρ 5 = x5 := hx 5 (by decide)
    have e6 : ρ 6 = x6 := hx 6 (by decide)
    subst e0
    subst e1
    subst e2
    subst e3
    subst e4
    subst e5
    subst e6
    have g7 := g7 (by decide)
    match Lc, stc, g7, g8 with
    | [v0, v1, v2, v3, v4, v5, v6, v7, v8], [w0, w1], ⟨hv0, hv1, hv2, hv3, hv4, hv5, hv6, hv7, hv8, _⟩, ⟨hw0, hw1, _⟩ =>
      cases hv0
      cases hv1
      cases hv2
      cases hv3
      cases hv4
      cases hv5
      cases hv6
      cases hv7
      cases hw0
      cases hw1
      exact l0 τ ρ v8 hv8 g1 g2 g3 g4 g5 g6
set_option maxRecDepth 100000 in
theorem sq_c39 {σ : pm_S} {Q : Option Value → pm_S → Prop} (x0 x1 x2 x3 x4 x5 x6 x7 : Int) (v8 : Value) (hv8 : v8.category = 1) (hB : an_GB pm_B σ) (eF : (0 ≤ x0 ∧ x0 ≤ 9) ∧ (0 ≤ x1 ∧ x1 ≤ 1023) ∧ (0 ≤ x2 ∧ x2 ≤ 9) ∧ (0 ≤ x3 ∧ x3 ≤ 1) ∧ (0 ≤ x4 ∧ x4 ≤ 6) ∧ ((-2000000000) ≤ x5 ∧ x5 ≤ 2000000000) ∧ (1 ≤ x6 ∧ x6 ≤ 3628800) ∧ (1 ≤ x7 ∧ x7 ≤ 2147483647) ∧ True)
    (l0 : ∀ (τ : pm_S) (y : Nat → Int), an_GB pm_B τ → FQ [] σ τ → ((0 ≤ x0 ∧ x0 ≤ 9) ∧ (0 ≤ x1 ∧ x1 ≤ 1023) ∧ (0 ≤ x2 ∧ x2 ≤ 9) ∧ (0 ≤ x3 ∧ x3 ≤ 0) ∧ (0 ≤ x4 ∧ x4 ≤ 6) ∧ ((-2000000000) ≤ x5 ∧ x5 ≤ 2000000000) ∧ (1 ≤ x6 ∧ x6 ≤ 3628800) ∧ (1 ≤ x7 ∧ x7 ≤ 2147483647) ∧ (0 ≤ y 8 ∧ y 8 ≤ 3628800) ∧ True) → (True) → ((an_f 9 (Int32.ofInt (x6)) (Int32.ofInt (x7))).toInt = y 8 ∧ True) → (True) → Q (some (.int (Int32.ofInt (y 8)))) τ)
    (l1 : ∀ (τ : pm_S) (y : Nat → Int), an_GB pm_B τ → FQ [] σ τ → ((0 ≤ x0 ∧ x0 ≤ 9) ∧ (0 ≤ x1 ∧ x1 ≤ 1023) ∧ (0 ≤ x2 ∧ x2 ≤ 9) ∧ (1 ≤ x3 ∧ x3 ≤ 1) ∧ (0 ≤ x4 ∧ x4 ≤ 6) ∧ ((-2000000000) ≤ x5 ∧ x5 ≤ 2000000000) ∧ (1 ≤ x6 ∧ x6 ≤ 3628800) ∧ (1 ≤ x7 ∧ x7 ≤ 2147483647) ∧ ((-2147483648) ≤ y 8 ∧ y 8 ≤ 2147483647) ∧ True) → (True) → ((an_f 9 (Int32.ofInt (x5)) (Int32.ofInt (x7))).toInt = y 8 ∧ True) → (True) → Q (some (.int (Int32.ofInt (y 8)))) τ)
    : Ok 109 29 39 [.ref 85, .int (Int32.ofInt (x0)), .int (Int32.ofInt (x1)), .int (Int32.ofInt (x2)), .int (Int32.ofInt (x3)), .int (Int32.ofInt (x4)), .int (Int32.ofInt (x5)), .int (Int32.ofInt (x6)), v8] [.int (Int32.ofInt (x7))] σ Q := by
  refine an_seg (B := pm_B) (F := []) (T := []) (S := []) (fun _ h => absurd h List.not_mem_nil) (k := 109) (d := 28) (cs := []) 12 39 8 [(0, 0, 9), (1, 0, 1023), (2, 0, 9), (3, 0, 1), (4, 0, 6), (5, (-2000000000), 2000000000), (6, 1, 3628800), (7, 1, 2147483647)] [] [(2, 85, 0), (0, 0, 0), (0, 1, 0), (0, 2, 0), (0, 3, 0), (0, 4, 0), (0, 5, 0), (0, 6, 0), (5, 0, 0)] [(0, 7, 0)] [(9999, [], [(0, 8, 0)], [(0, 0, 9), (1, 0, 1023), (2, 0, 9), (3, 0, 0), (4, 0, 6), (5, (-2000000000), 2000000000), (6, 1, 3628800), (7, 1, 2147483647), (8, 0, 3628800)], [], [(9, (0, 6, 0), (0, 7, 0), 8)], []),
    (9999, [], [(0, 8, 0)], [(0, 0, 9), (1, 0, 1023), (2, 0, 9), (3, 1, 1), (4, 0, 6), (5, (-2000000000), 2000000000), (6, 1, 3628800), (7, 1, 2147483647), (8, (-2147483648), 2147483647)], [], [(9, (0, 5, 0), (0, 7, 0), 8)], [])] (by decide +kernel) (ρ0 := (fun s => [x0, x1, x2, x3, x4, x5, x6, x7].getD s 0)) hB eF trivial ⟨rfl, ⟨rfl, ⟨rfl, ⟨rfl, ⟨rfl, ⟨rfl, ⟨rfl, ⟨rfl, ⟨hv8, trivial⟩⟩⟩⟩⟩⟩⟩⟩⟩ ⟨rfl, trivial⟩ ?_
  refine List.forall_mem_cons.mpr ⟨?_, List.forall_mem_cons.mpr ⟨?_, fun _ h => absurd h List.not_mem_nil⟩⟩
  · intro ρ τ Lc stc hx g1 g2 g3 g4 g5 g6 g7 g8
    have e0 : ρ 0 = x0 := hx 0 (by decide)
    have e1 : ρ 1 = x1 := hx 1 (by decide)
    have e2 : ρ 2 = x2 := hx 2 (by decide)
    have e3 : ρ 3 = x3 := hx 3 (by decide)
    have e4 : ρ 4 = x4 := hx 4 (by decide)
    have e5 : ρ 5 = x5 := hx 5 (by decide)
    have e6 : ρ 6 = x6 := hx 6 (by decide)
    have e7 : ρ 7 = x7 := hx 7 (by decide)
    subst e0
    subst e1
    subst e2
    subst e3
    subst e4
    subst e5
    subst e6
    subst e7
    match stc, g8 with
    | [_], ⟨h, _⟩ => cases h; exact l0 τ ρ g1 g2 g3 g4 g5 g6
  · intro ρ τ Lc stc hx g1 g2 g3 g4 g5 g6 g7 g8
    have e0 : ρ 0 = x0 := hx 0 (by decide)
    have e1 : ρ 1 = x1 := hx 1 (by decide)
    have e2 : ρ 2 = x2 := hx 2 (by decide)
    have e3 : ρ 3 = x3 := hx 3 (by decide)
    have e4 : ρ 4 = x4 := hx 4 (by decide)
    have e5 : ρ 5 = x5 := hx 5 (by decide)
    have e6 : ρ 6 = x6 := hx 6 (by decide)
    have e7 : ρ 7 = x7 := hx 7 (by decide)
    subst e0
    subst e1
    subst e2
    subst e3
    subst e4
    subst e5
    subst e6
    subst e7
    match stc, g8 with
    | [_], ⟨h, _⟩ => cases h; exact l1 τ ρ g1 g2 g3 g4 g5 g6
set_option maxRecDepth 100000 in
theorem sq_m128 {σ : pm_S} {Q : Option Value → pm_S → Prop} (x0 x1 x2 x3 x4 x5 x6 x7 x8 x9 x10 : Int) (v12 : Value) (hv12 : v12.category = 1) (hB : an_GB pm_B σ) (eF : (0 ≤ x0 ∧ x0 ≤ 9) ∧ (0 ≤ x1 ∧ x1 ≤ 1023) ∧ (0 ≤ x2 ∧ x2 ≤ 9) ∧ (0 ≤ x3 ∧ x3 ≤ 1) ∧ (0 ≤ x4 ∧ x4 ≤ 1023) ∧ (0 ≤ x5 ∧ x5 ≤ 10) ∧ ((-2000000000) ≤ x6 ∧ x6 ≤ 2000000000) ∧ (0 ≤ x7 ∧ x7 ≤ 1023) ∧ (0 ≤ x8 ∧ x8 ≤ 0) ∧ (1 ≤ x9 ∧ x9 ≤ 2147483647) ∧ (0 ≤ x10 ∧ x10 ≤ 0) ∧ True)
    (l0 : ∀ (τ : pm_S) (y : Nat → Int) (v12 : Value), v12.category = 1 → an_GB pm_B τ → FQ [] σ τ → ((0 ≤ x0 ∧ x0 ≤ 9) ∧ (0 ≤ x1 ∧ x1 ≤ 1023) ∧ (0 ≤ x2 ∧ x2 ≤ 9) ∧ (1 ≤ x3 ∧ x3 ≤ 1) ∧ (0 ≤ x4 ∧ x4 ≤ 1023) ∧ (0 ≤ x5 ∧ x5 ≤ 10) ∧ ((-2000000000) ≤ x6 ∧ x6 ≤ 2000000000) ∧ (0 ≤ x7 ∧ x7 ≤ 1023) ∧ (0 ≤ x8 ∧ x8 ≤ 0) ∧ (1 ≤ x9 ∧ x9 ≤ 2147483647) ∧ (0 ≤ x10 ∧ x10 ≤ 0) ∧ True) → (True) → (True) → (True) → Ok 229 25 136 [.ref 93, .int (Int32.ofInt (x0)), .int (Int32.ofInt (x1)), .int (Int32.ofInt (x2)), .int (Int32.ofInt (x3)), .int (Int32.ofInt (x4)), .int (Int32.ofInt (x5)), .int (Int32.ofInt (x6)), .int (Int32.ofInt (x7)), .int (Int32.ofInt (x8)), .int (Int32.ofInt (x9)), .int (Int32.ofInt (x10)), v12] [.int (Int32.ofInt (x5)), .ref 93] τ Q)
    (l1 : ∀ (τ : pm_S) (y : Nat → Int), an_GB pm_B τ → FQ [] σ τ → ((0 ≤ x0 ∧ x0 ≤ 9) ∧ (0 ≤ x1 ∧ x1 ≤ 1023) ∧ (0 ≤ x2 ∧ x2 ≤ 9) ∧ (0 ≤ x3 ∧ x3 ≤ 0) ∧ (0 ≤ x4 ∧ x4 ≤ 1023) ∧ (0 ≤ x5 ∧ x5 ≤ 10) ∧ ((-2000000000) ≤ x6 ∧ x6 ≤ 2000000000) ∧ (0 ≤ x7 ∧ x7 ≤ 1023) ∧ (0 ≤ x8 ∧ x8 ≤ 0) ∧ (1 ≤ x9 ∧ x9 ≤ 2147483647) ∧ (0 ≤ x10 ∧ x10 ≤ 0) ∧ ((-2147483648) ≤ y 11 ∧ y 11 ≤ 2147483647) ∧ True) → (True) → ((an_f 9 (Int32.ofInt (x6)) (Int32.ofInt (x9))).toInt = y 11 ∧ True) → (True) → Q (some (.int (Int32.ofInt (y 11)))) τ)
    : Ok 229 25 128 [.ref 93, .int (Int32.ofInt (x0)), .int (Int32.ofInt (x1)), .int (Int32.ofInt (x2)), .int (Int32.ofInt (x3)), .int (Int32.ofInt (x4)), .int (Int32.ofInt (x5)), .int (Int32.ofInt (x6)), .int (Int32.ofInt (x7)), .int (Int32.ofInt (x8)), .int (Int32.ofInt (x9)), .int (Int32.ofInt (x10)), v12] [] σ Q := by
  refine an_seg (B := pm_B) (F := []) (T := []) (S := []) (fun _ h => absurd h List.not_mem_nil) (k := 229) (d := 24) (cs := [136]) 9 128 11 [(0, 0, 9), (1, 0, 1023), (2, 0, 9), (3, 0, 1), (4, 0, 1023), (5, 0, 10), (6, (-2000000000), 2000000000), (7, 0, 1023), (8, 0, 0), (9, 1, 2147483647), (10, 0, 0)] [] [(2, 93, 0), (0, 0, 0), (0, 1, 0), (0, 2, 0), (0, 3, 0), (0, 4, 0), (0, 5, 0), (0, 6, 0), (0, 7, 0), (0, 8, 0), (0, 9, 0), (0, 10, 0), (5, 0, 0)] [] [(136, [(2, 93, 0), (0, 0, 0), (0, 1, 0), (0, 2, 0), (0, 3, 0), (0, 4, 0), (0, 5, 0), (0, 6, 0), (0, 7, 0), (0, 8, 0), (0, 9, 0), (0, 10, 0), (5, 0, 0)], [(0, 5, 0), (2, 93, 0)], [(0, 0, 9), (1, 0, 1023), (2, 0, 9), (3, 1, 1), (4, 0, 1023), (5, 0, 10), (6, (-2000000000), 2000000000), (7, 0, 1023), (8, 0, 0), (9, 1, 2147483647), (10, 0, 0)], [], [], []),
    (9999, [], [(0, 11, 0)], [(0, 0, 9), (1, 0, 1023), (2, 0, 9), (3, 0, 0), (4, 0, 1023), (5, 0, 10), (6, (-2000000000), 2000000000), (7, 0, 1023), (8, 0, 0), (9, 1, 2147483647), (10, 0, 0), (11, (-2147483648), 2147483647)], [], [(9, (0, 6, 0), (0, 9, 0), 11)], [])] (by decide +kernel) (ρ0 := (fun s => [x0, x1, x2, x3, x4, x5, x6, x7, x8, x9, x10].getD s 0)) hB eF trivial ⟨rfl, ⟨rfl, ⟨rfl, ⟨rfl, ⟨rfl, ⟨rfl, ⟨rfl, ⟨rfl, ⟨rfl, ⟨rfl, ⟨rfl, ⟨rfl, ⟨hv12, trivial⟩⟩⟩⟩⟩⟩⟩⟩⟩⟩⟩⟩⟩ trivial ?_
  refine List.forall_mem_cons.mpr ⟨?_, List.forall_mem_cons.mpr ⟨?_, fun _ h => absurd h List.not_mem_nil⟩⟩
  · intro ρ τ Lc stc hx g1 g2 g3 g4 g5 g6 g7 g8
    have e0 : ρ 0 = x0 := hx 0 (by decide)
    have e1 : ρ 1 = x1 := hx 1 (by decide)
    have e2 : ρ 2 = x2 := hx 2 (by decide)
    have e3 : ρ 3 = x3 := hx 3 (by decide)
    have e4 : ρ 4 = x4 := hx 4 (by decide)
    have e5 : ρ 5 = x5 := hx 5 (by decide)
    have e6 : ρ 6 = x6 := hx 6 (by decide)
    have e7 : ρ 7 = x7 := hx 7 (by decide)
    have e8 : ρ 8 = x8 := hx 8 (by decide)
    have e9 : ρ 9 = x9 := hx 9 (by decide)
    have e10 : ρ 10 = x10 := hx 10 (by decide)
    subst e0
    subst e1
    subst e2
    subst e3
    subst e4
    subst e5
    subst e6
    subst e7
    subst e8
    subst e9
    subst e10
    have g7 := g7 (by decide)
    match Lc, stc, g7, g8 with
    | [v0, v1, v2, v3, v4, v5, v6, v7, v8, v9, v10, v11, v12], [w0, w1], ⟨hv0, hv1, hv2, hv3, hv4, hv5, hv6, hv7, hv8, hv9, hv10, hv11, hv12, _⟩, ⟨hw0, hw1, _⟩ =>
      cases hv0
      cases hv1
      cases hv2
      cases hv3
      cases hv4
      cases hv5
      cases hv6
      cases hv7
      cases hv8
      cases hv9
      cases hv10
      cases hv11
      cases hw0
      cases hw1
      exact l0 τ ρ v12 hv12 g1 g2 g3 g4 g5 g6
  · intro ρ τ Lc stc hx g1 g2 g3 g4 g5 g6 g7 g8
    have e0 : ρ 0 = x0 := hx 0 (by decide)
    have e1 : ρ 1 = x1 := hx 1 (by decide)
    have e2 : ρ 2 = x2 := hx 2 (by decide)
    have e3 : ρ 3 = x3 := hx 3 (by decide)
    have e4 : ρ 4 = x4 := hx 4 (by decide)
    have e5 : ρ 5 = x5 := hx 5 (by decide)
    have e6 : ρ 6 = x6 := hx 6 (by decide)
    have e7 : ρ 7 = x7 := hx 7 (by decide)
    have e8 : ρ 8 = x8 := hx 8 (by decide)
    have e9 : ρ 9 = x9 := hx 9 (by decide)
    have e10 : ρ 10 = x10 := hx 10 (by decide)
    subst e0
    subst e1
    subst e2
    subst e3
    subst e4
    subst e5
    subst e6
    subst e7
    subst e8
    subst e9
    subst e10
    match stc, g8 with
    | [_], ⟨h, _⟩ => cases h; exact l1 τ ρ g1 g2 g3 g4 g5 g6
set_option maxRecDepth 100000 in
theorem sq_m137 {σ : pm_S} {Q : Option Value → pm_S → Prop} (x0 x1 x2 x3 x4 x5 x6 x7 x8 x9 x10 x11 : Int) (v12 : Value) (hv12 : v12.category = 1) (hB : an_GB pm_B σ) (eF : (0 ≤ x0 ∧ x0 ≤ 9) ∧ (0 ≤ x1 ∧ x1 ≤ 1023) ∧ (0 ≤ x2 ∧ x2 ≤ 9) ∧ (0 ≤ x3 ∧ x3 ≤ 1) ∧ (0 ≤ x4 ∧ x4 ≤ 1023) ∧ (0 ≤ x5 ∧ x5 ≤ 10) ∧ ((-2000000000) ≤ x6 ∧ x6 ≤ 2000000000) ∧ (0 ≤ x7 ∧ x7 ≤ 1023) ∧ (0 ≤ x8 ∧ x8 ≤ 0) ∧ (1 ≤ x9 ∧ x9 ≤ 2147483647) ∧ (0 ≤ x10 ∧ x10 ≤ 0) ∧ (1 ≤ x11 ∧ x11 ≤ 3628800) ∧ True)
    (l0 : ∀ (τ : pm_S) (y : Nat → Int), an_GB pm_B τ → FQ [] σ τ → ((0 ≤ x0 ∧ x0 ≤ 9) ∧ (0 ≤ x1 ∧ x1 ≤ 1023) ∧ (0 ≤ x2 ∧ x2 ≤ 9) ∧ (0 ≤ x3 ∧ x3 ≤ 1) ∧ (0 ≤ x4 ∧ x4 ≤ 1023) ∧ (0 ≤ x5 ∧ x5 ≤ 10) ∧ ((-2000000000) ≤ x6 ∧ x6 ≤ 2000000000) ∧ (0 ≤ x7 ∧ x7 ≤ 1023) ∧ (0 ≤ x8 ∧ x8 ≤ 0) ∧ (1 ≤ x9 ∧ x9 ≤ 2147483647) ∧ (0 ≤ x10 ∧ x10 ≤ 0) ∧ (1 ≤ x11 ∧ x11 ≤ 3628800) ∧ (0 ≤ y 12 ∧ y 12 ≤ 3628800) ∧ True) → (True) → ((an_f 9 (Int32.ofInt (x11)) (Int32.ofInt (x9))).toInt = y 12 ∧ True) → (True) → Q (some (.int (Int32.ofInt (y 12)))) τ)
    : Ok 229 25 137 [.ref 93, .int (Int32.ofInt (x0)), .int (Int32.ofInt (x1)), .int (Int32.ofInt (x2)), .int (Int32.ofInt (x3)), .int (Int32.ofInt (x4)), .int (Int32.ofInt (x5)), .int (Int32.ofInt (x6)), .int (Int32.ofInt (x7)), .int (Int32.ofInt (x8)), .int (Int32.ofInt (x9)), .int (Int32.ofInt (x10)), v12] [.int (Int32.ofInt (x11))] σ Q := by
  refine an_seg (B := pm_B) (F := []) (T := []) (S := []) (fun _ h => absurd h List.not_mem_nil) (k := 229) (d := 24) (cs := []) 5 137 12 [(0, 0, 9), (1, 0, 1023), (2, 0, 9), (3, 0, 1), (4, 0, 1023), (5, 0, 10), (6, (-2000000000), 2000000000), (7, 0, 1023), (8, 0, 0), (9, 1, 2147483647), (10, 0, 0), (11, 1, 3628800)] [] [(2, 93, 0), (0, 0, 0), (0, 1, 0), (0, 2, 0), (0, 3, 0), (0, 4, 0), (0, 5, 0), (0, 6, 0), (0, 7, 0), (0, 8, 0), (0, 9, 0), (0, 10, 0), (5, 0, 0)] [(0, 11, 0)] [(9999, [], [(0, 12, 0)], [(0, 0, 9), (1, 0, 1023), (2, 0, 9), (3, 0, 1), (4, 0, 1023), (5, 0, 10), (6, (-2000000000), 2000000000), (7, 0, 1023), (8, 0, 0), (9, 1, 2147483647), (10, 0, 0), (11, 1, 3628800), (12, 0, 3628800)], [], [(9, (0, 11, 0), (0, 9, 0), 12)], [])] (by decide +kernel) (ρ0 := (fun s => [x0, x1, x2, x3, x4, x5, x6, x7, x8, x9, x10, x11].getD s 0)) hB eF trivial ⟨rfl, ⟨rfl, ⟨rfl, ⟨rfl, ⟨rfl, ⟨rfl, ⟨rfl, ⟨rfl, ⟨rfl, ⟨rfl, ⟨rfl, ⟨rfl, ⟨hv12, trivial⟩⟩⟩⟩⟩⟩⟩⟩⟩⟩⟩⟩⟩ ⟨rfl, trivial⟩ ?_
  refine List.forall_mem_cons.mpr ⟨?_, fun _ h => absurd h List.not_mem_nil⟩
  · intro ρ τ Lc stc hx g1 g2 g3 g4 g5 g6 g7 g8
    have e0 : ρ 0 = x0 := hx 0 (by decide)
    have e1 : ρ 1 = x1 := hx 1 (by decide)
    have e2 : ρ 2 = x2 := hx 2 (by decide)
    have e3 : ρ 3 = x3 := hx 3 (by decide)
    have e4 : ρ 4 = x4 := hx 4 (by decide)
    have e5 : ρ 5 = x5 := hx 5 (by decide)
    have e6 : ρ 6 = x6 := hx 6 (by decide)
    have e7 : ρ 7 = x7 := hx 7 (by decide)
    have e8 : ρ 8 = x8 := hx 8 (by decide)
    have e9 : ρ 9 = x9 := hx 9 (by decide)
    have e10 : ρ 10 = x10 := hx 10 (by decide)
    have e11 : ρ 11 = x11 := hx 11 (by decide)
    subst e0
    subst e1
    subst e2
    subst e3
    subst e4
    subst e5
    subst e6
    subst e7
    subst e8
    subst e9
    subst e10
    subst e11
    match stc, g8 with
    | [_], ⟨h, _⟩ => cases h; exact l0 τ ρ g1 g2 g3 g4 g5 g6
set_option maxRecDepth 100000 in
theorem sq_m0 {σ : pm_S} {Q : Option Value → pm_S → Prop} (x0 x1 x2 x3 x4 x5 : Int) (v5 : Value) (v6 : Value) (v7 : Value) (v8 : Value) (v9 : Value) (v10 : Value) (v11 : Value) (v12 : Value) (hv5 : v5.category = 1) (hv6 : v6.category = 1) (hv7 : v7.category = 1) (hv8 : v8.category = 1) (hv9 : v9.category = 1) (hv10 : v10.category = 1) (hv11 : v11.category = 1) (hv12 : v12.category = 1) (hB : an_GB pm_B σ) (eF : ((-2147483648) ≤ x0 ∧ x0 ≤ 2147483647) ∧ ((-2147483648) ≤ x1 ∧ x1 ≤ 2147483647) ∧ ((-2147483648) ≤ x2 ∧ x2 ≤ 2147483647) ∧ ((-2147483648) ≤ x3 ∧ x3 ≤ 2147483647) ∧ (0 ≤ x4 ∧ x4 ≤ 10) ∧ (0 ≤ x5 ∧ x5 ≤ 10) ∧ True) (eC : (σ.1 93 2).toInt = x4 ∧ (σ.1 93 5).toInt = x5 ∧ True)
    (l0 : ∀ (τ : pm_S) (y : Nat → Int) (v5 : Value) (v6 : Value) (v7 : Value) (v8 : Value) (v9 : Value) (v10 : Value) (v11 : Value) (v12 : Value), v5.category = 1 → v6.category = 1 → v7.category = 1 → v8.category = 1 → v9.category = 1 → v10.category = 1 → v11.category = 1 → v12.category = 1 → an_GB pm_B τ → FQ [(93, 0)] σ τ → (((-2147483648) ≤ x0 ∧ x0 ≤ 2147483647) ∧ ((-2147483648) ≤ x1 ∧ x1 ≤ 2147483647) ∧ ((-2147483648) ≤ x2 ∧ x2 ≤ 2147483647) ∧ ((-2147483648) ≤ x3 ∧ x3 ≤ 2147483647) ∧ (0 ≤ x4 ∧ x4 ≤ 10) ∧ (0 ≤ x5 ∧ x5 ≤ 10) ∧ True) → (True) → (True) → ((τ.1 93 2).toInt = x4 ∧ (τ.1 93 5).toInt = x5 ∧ True) → Ok 229 25 5 [.ref 93, .int (Int32.ofInt (x0)), .int (Int32.ofInt (x1)), .int (Int32.ofInt (x2)), .int (Int32.ofInt (x3)), v5, v6, v7, v8, v9, v10, v11, v12] [.int (Int32.ofInt (x0)), .ref 93] τ Q)
    : Ok 229 25 0 [.ref 93, .int (Int32.ofInt (x0)), .int (Int32.ofInt (x1)), .int (Int32.ofInt (x2)), .int (Int32.ofInt (x3)), v5, v6, v7, v8, v9, v10, v11, v12] [] σ Q := by
  refine an_seg (B := pm_B) (F := [(93, 0)]) (T := []) (S := []) (fun _ h => absurd h List.not_mem_nil) (k := 229) (d := 24) (cs := [5]) 7 0 6 [(0, (-2147483648), 2147483647), (1, (-2147483648), 2147483647), (2, (-2147483648), 2147483647), (3, (-2147483648), 2147483647), (4, 0, 10), (5, 0, 10)] [(93, (1, 0, 2), (0, 4, 0)), (93, (1, 0, 5), (0, 5, 0))] [(2, 93, 0), (0, 0, 0), (0, 1, 0), (0, 2, 0), (0, 3, 0), (5, 0, 0), (5, 0, 0), (5, 0, 0), (5, 0, 0), (5, 0, 0), (5, 0, 0), (5, 0, 0), (5, 0, 0)] [] [(5, [(2, 93, 0), (0, 0, 0), (0, 1, 0), (0, 2, 0), (0, 3, 0), (5, 0, 0), (5, 0, 0), (5, 0, 0), (5, 0, 0), (5, 0, 0), (5, 0, 0), (5, 0, 0), (5, 0, 0)], [(0, 0, 0), (2, 93, 0)], [(0, (-2147483648), 2147483647), (1, (-2147483648), 2147483647), (2, (-2147483648), 2147483647), (3, (-2147483648), 2147483647), (4, 0, 10), (5, 0, 10)], [], [], [(93, (1, 0, 2), (0, 4, 0)), (93, (1, 0, 5), (0, 5, 0))])] (by decide +kernel) (ρ0 := (fun s => [x0, x1, x2, x3, x4, x5].getD s 0)) hB eF eC ⟨rfl, ⟨rfl, ⟨rfl, ⟨rfl, ⟨rfl, ⟨hv5, ⟨hv6, ⟨hv7, ⟨hv8, ⟨hv9, ⟨hv10, ⟨hv11, ⟨hv12, trivial⟩⟩⟩⟩⟩⟩⟩⟩⟩⟩⟩⟩⟩ trivial ?_
  refine List.forall_mem_cons.mpr ⟨?_, fun _ h => absurd h List.not_mem_nil⟩
  · intro ρ τ Lc stc hx g1 g2 g3 g4 g5 g6 g7 g8
    have e0 : ρ 0 = x0 := hx 0 (by decide)
    have e1 : ρ 1 = x1 := hx 1 (by decide)
    have e2 : ρ 2 = x2 := hx 2 (by decide)
    have e3 : ρ 3 = x3 := hx 3 (by decide)
    have e4 : ρ 4 = x4 := hx 4 (by decide)
    have e5 : ρ 5 = x5 := hx 5 (by decide)
    subst e0
    subst e1
    subst e2
    subst e3
    subst e4
    subst e5
    have g7 := g7 (by decide)
    match Lc, stc, g7, g8 with
    | [v0, v1, v2, v3, v4, v5, v6, v7, v8, v9, v10, v11, v12], [w0, w1], ⟨hv0, hv1, hv2, hv3, hv4, hv5, hv6, hv7, hv8, hv9, hv10, hv11, hv12, _⟩, ⟨hw0, hw1, _⟩ =>
      cases hv0
      cases hv1
      cases hv2
      cases hv3
      cases hv4
      cases hw0
      cases hw1
      exact l0 τ ρ v5 v6 v7 v8 v9 v10 v11 v12 hv5 hv6 hv7 hv8 hv9 hv10 hv11 hv12 g1 g2 g3 g4 g5 g6
set_option maxRecDepth 100000 in
theorem sq_m6n {σ : pm_S} {Q : Option Value → pm_S → Prop} (v1 : Value) (v2 : Value) (v3 : Value) (v4 : Value) (v5 : Value) (v6 : Value) (v7 : Value) (v8 : Value) (v9 : Value) (v10 : Value) (v11 : Value) (v12 : Value) (hv1 : v1.category = 1) (hv2 : v2.category = 1) (hv3 : v3.category = 1) (hv4 : v4.category = 1) (hv5 : v5.category = 1) (hv6 : v6.category = 1) (hv7 : v7.category = 1) (hv8 : v8.category = 1) (hv9 : v9.category = 1) (hv10 : v10.category = 1) (hv11 : v11.category = 1) (hv12 : v12.category = 1) (hB : an_GB pm_B σ)
    (l0 : ∀ (τ : pm_S) (y : Nat → Int), an_GB pm_B τ → FQ [] σ τ → (True) → (True) → (True) → (True) → Q (some (.int (Int32.ofInt (-1)))) τ)
    : Ok 229 25 6 [.ref 93, v1, v2, v3, v4, v5, v6, v7, v8, v9, v10, v11, v12] [.int (Int32.ofInt 0)] σ Q := by
  refine an_seg (B := pm_B) (F := []) (T := []) (S := []) (fun _ h => absurd h List.not_mem_nil) (k := 229) (d := 24) (cs := []) 5 6 0 [] [] [(2, 93, 0), (5, 0, 0), (5, 0, 0), (5, 0, 0), (5, 0, 0), (5, 0, 0), (5, 0, 0), (5, 0, 0), (5, 0, 0), (5, 0, 0), (5, 0, 0), (5, 0, 0), (5, 0, 0)] [(1, 0, 0)] [(9999, [], [(1, 0, (-1))], [], [], [], [])] (by decide +kernel) (ρ0 := (fun s => [].getD s 0)) hB trivial trivial ⟨rfl, ⟨hv1, ⟨hv2, ⟨hv3, ⟨hv4, ⟨hv5, ⟨hv6, ⟨hv7, ⟨hv8, ⟨hv9, ⟨hv10, ⟨hv11, ⟨hv12, trivial⟩⟩⟩⟩⟩⟩⟩⟩⟩⟩⟩⟩⟩ ⟨rfl, trivial⟩ ?_
  refine List.forall_mem_cons.mpr ⟨?_, fun _ h => absurd h List.not_mem_nil⟩
  · intro ρ τ Lc stc hx g1 g2 g3 g4 g5 g6 g7 g8
    match stc, g8 with
    | [_], ⟨h, _⟩ => cases h; exact l0 τ ρ g1 g2 g3 g4 g5 g6
set_option maxRecDepth 100000 in
theorem sq_m6 {σ : pm_S} {Q : Option Value → pm_S → Prop} (x0 x1 x2 x3 x4 : Int) (v5 : Value) (v6 : Value) (v7 : Value) (v8 : Value) (v9 : Value) (v10 : Value) (v11 : Value) (v12 : Value) (hv5 : v5.category = 1) (hv6 : v6.category = 1) (hv7 : v7.category = 1) (hv8 : v8.category = 1) (hv9 : v9.category = 1) (hv10 : v10.category = 1) (hv11 : v11.category = 1) (hv12 : v12.category = 1) (hB : an_GB pm_B σ) (eF : (0 ≤ x0 ∧ x0 ≤ 9) ∧ ((-2147483648) ≤ x1 ∧ x1 ≤ 2147483647) ∧ ((-2147483648) ≤ x2 ∧ x2 ≤ 2147483647) ∧ ((-2147483648) ≤ x3 ∧ x3 ≤ 2147483647) ∧ (0 ≤ x4 ∧ x4 ≤ 10) ∧ True) (eC : (σ.1 93 5).toInt = x4 ∧ True)
    (l0 : ∀ (τ : pm_S) (y : Nat → Int) (v5 : Value) (v6 : Value) (v7 : Value) (v8 : Value) (v9 : Value) (v10 : Value) (v11 : Value) (v12 : Value), v5.category = 1 → v6.category = 1 → v7.category = 1 → v8.category = 1 → v9.category = 1 → v10.category = 1 → v11.category = 1 → v12.category = 1 → an_GB pm_B τ → FQ [] σ τ → ((0 ≤ x0 ∧ x0 ≤ 9) ∧ ((-2147483648) ≤ x1 ∧ x1 ≤ 2147483647) ∧ ((-2147483648) ≤ x2 ∧ x2 ≤ 2147483647) ∧ ((-2147483648) ≤ x3 ∧ x3 ≤ 2147483647) ∧ (0 ≤ x4 ∧ x4 ≤ 10) ∧ (1 ≤ y 5 ∧ y 5 ≤ 1024) ∧ True) → (True) → ((an_f 6 (Int32.ofInt (1)) (Int32.ofInt (x4))).toInt = y 5 ∧ True) → ((τ.1 93 5).toInt = x4 ∧ True) → Ok 229 25 16 [.ref 93, .int (Int32.ofInt (x0)), .int (Int32.ofInt (x1)), .int (Int32.ofInt (x2)), .int (Int32.ofInt (x3)), v5, v6, v7, v8, v9, v10, v11, v12] [.int (Int32.ofInt (y 5 + (-1))), .int (Int32.ofInt 1), .int (Int32.ofInt (x1)), .ref 93] τ Q)
    : Ok 229 25 6 [.ref 93, .int (Int32.ofInt (x0)), .int (Int32.ofInt (x1)), .int (Int32.ofInt (x2)), .int (Int32.ofInt (x3)), v5, v6, v7, v8, v9, v10, v11, v12] [.int (Int32.ofInt 1)] σ Q := by
  refine an_seg (B := pm_B) (F := []) (T := []) (S := []) (fun _ h => absurd h List.not_mem_nil) (k := 229) (d := 24) (cs := [16]) 12 6 5 [(0, 0, 9), (1, (-2147483648), 2147483647), (2, (-2147483648), 2147483647), (3, (-2147483648), 2147483647), (4, 0, 10)] [(93, (1, 0, 5), (0, 4, 0))] [(2, 93, 0), (0, 0, 0), (0, 1, 0), (0, 2, 0), (0, 3, 0), (5, 0, 0), (5, 0, 0), (5, 0, 0), (5, 0, 0), (5, 0, 0), (5, 0, 0), (5, 0, 0), (5, 0, 0)] [(1, 0, 1)] [(16, [(2, 93, 0), (0, 0, 0), (0, 1, 0), (0, 2, 0), (0, 3, 0), (5, 0, 0), (5, 0, 0), (5, 0, 0), (5, 0, 0), (5, 0, 0), (5, 0, 0), (5, 0, 0), (5, 0, 0)], [(0, 5, (-1)), (1, 0, 1), (0, 1, 0), (2, 93, 0)], [(0, 0, 9), (1, (-2147483648), 2147483647), (2, (-2147483648), 2147483647), (3, (-2147483648), 2147483647), (4, 0, 10), (5, 1, 1024)], [], [(6, (1, 0, 1), (0, 4, 0), 5)], [(93, (1, 0, 5), (0, 4, 0))])] (by decide +kernel) (ρ0 := (fun s => [x0, x1, x2, x3, x4].getD s 0)) hB eF eC ⟨rfl, ⟨rfl, ⟨rfl, ⟨rfl, ⟨rfl, ⟨hv5, ⟨hv6, ⟨hv7, ⟨hv8, ⟨hv9, ⟨hv10, ⟨hv11, ⟨hv12, trivial⟩⟩⟩⟩⟩⟩⟩⟩⟩⟩⟩⟩⟩ ⟨rfl, trivial⟩ ?_
  refine List.forall_mem_cons.mpr ⟨?_, fun _ h => absurd h List.not_mem_nil⟩
  · intro ρ τ Lc stc hx g1 g2 g3 g4 g5 g6 g7 g8
    have e0 : ρ 0 = x0 := hx 0 (by decide)
    have e1 : ρ 1 = x1 := hx 1 (by decide)
    have e2 : ρ 2 = x2 := hx 2 (by decide)
    have e3 : ρ 3 = x3 := hx 3 (by decide)
    have e4 : ρ 4 = x4 := hx 4 (by decide)
    subst e0
    subst e1
    subst e2
    subst e3
    subst e4
    have g7 := g7 (by decide)
    match Lc, stc, g7, g8 with
    | [v0, v1, v2, v3, v4, v5, v6, v7, v8, v9, v10, v11, v12], [w0, w1, w2, w3], ⟨hv0, hv1, hv2, hv3, hv4, hv5, hv6, hv7, hv8, hv9, hv10, hv11, hv12, _⟩, ⟨hw0, hw1, hw2, hw3, _⟩ =>
      cases hv0
      cases hv1
      cases hv2
      cases hv3
      cases hv4
      cases hw0
      cases hw1
      cases hw2
      cases hw3
      exact l0 τ ρ v5 v6 v7 v8 v9 v10 v11 v12 hv5 hv6 hv7 hv8 hv9 hv10 hv11 hv12 g1 g2 g3 g4 g5 g6
set_option maxRecDepth 100000 in
theorem sq_m17n {σ : pm_S} {Q : Option Value → pm_S → Prop} (v1 : Value) (v2 : Value) (v3 : Value) (v4 : Value) (v5 : Value) (v6 : Value) (v7 : Value) (v8 : Value) (v9 : Value) (v10 : Value) (v11 : Value) (v12 : Value) (hv1 : v1.category = 1) (hv2 : v2.category = 1) (hv3 : v3.category = 1) (hv4 : v4.category = 1) (hv5 : v5.category = 1) (hv6 : v6.category = 1) (hv7 : v7.category = 1) (hv8 : v8.category = 1) (hv9 : v9.category = 1) (hv10 : v10.category = 1) (hv11 : v11.category = 1) (hv12 : v12.category = 1) (hB : an_GB pm_B σ)
    (l0 : ∀ (τ : pm_S) (y : Nat → Int), an_GB pm_B τ → FQ [] σ τ → (True) → (True) → (True) → (True) → Q (some (.int (Int32.ofInt (-1)))) τ)
    : Ok 229 25 17 [.ref 93, v1, v2, v3, v4, v5, v6, v7, v8, v9, v10, v11, v12] [.int (Int32.ofInt 0)] σ Q := by
  refine an_seg (B := pm_B) (F := []) (T := []) (S := []) (fun _ h => absurd h List.not_mem_nil) (k := 229) (d := 24) (cs := []) 5 17 0 [] [] [(2, 93, 0), (5, 0, 0), (5, 0, 0), (5, 0, 0), (5, 0, 0), (5, 0, 0), (5, 0, 0), (5, 0, 0), (5, 0, 0), (5, 0, 0), (5, 0, 0), (5, 0, 0), (5, 0, 0)] [(1, 0, 0)] [(9999, [], [(1, 0, (-1))], [], [], [], [])] (by decide +kernel) (ρ0 := (fun s => [].getD s 0)) hB trivial trivial ⟨rfl, ⟨hv1, ⟨hv2, ⟨hv3, ⟨hv4, ⟨hv5, ⟨hv6, ⟨hv7, ⟨hv8, ⟨hv9, ⟨hv10, ⟨hv11, ⟨hv12, trivial⟩⟩⟩⟩⟩⟩⟩⟩⟩⟩⟩⟩⟩ ⟨rfl, trivial⟩ ?_
  refine List.forall_mem_cons.mpr ⟨?_, fun _ h => absurd h List.not_mem_nil⟩
  · intro ρ τ Lc stc hx g1 g2 g3 g4 g5 g6 g7 g8
    match stc, g8 with
    | [_], ⟨h, _⟩ => cases h; exact l0 τ ρ g1 g2 g3 g4 g5 g6
set_option maxRecDepth 100000 in
theorem sq_m17 {σ : pm_S} {Q : Option Value → pm_S → Prop} (x0 x1 x2 x3 : Int) (v5 : Value) (v6 : Value) (v7 : Value) (v8 : Value) (v9 : Value) (v10 : Value) (v11 : Value) (v12 : Value) (hv5 : v5.category = 1) (hv6 : v6.category = 1) (hv7 : v7.category = 1) (hv8 : v8.category = 1) (hv9 : v9.category = 1) (hv10 : v10.category = 1) (hv11 : v11.category = 1) (hv12 : v12.category = 1) (hB : an_GB pm_B σ) (eF : (0 ≤ x0 ∧ x0 ≤ 9) ∧ (1 ≤ x1 ∧ x1 ≤ 1023) ∧ ((-2147483648) ≤ x2 ∧ x2 ≤ 2147483647) ∧ ((-2147483648) ≤ x3 ∧ x3 ≤ 2147483647) ∧ True)
    (l0 : ∀ (τ : pm_S) (y : Nat → Int), an_GB pm_B τ → FQ [] σ τ → ((0 ≤ x0 ∧ x0 ≤ 9) ∧ (1 ≤ x1 ∧ x1 ≤ 1023) ∧ ((-2147483648) ≤ x2 ∧ x2 ≤ 2147483647) ∧ ((-2147483648) ≤ x3 ∧ x3 ≤ 2147483647) ∧ (7 ≤ y 4 ∧ y 4 ≤ 10) ∧ True) → (True) → ((an_f 16 (Int32.ofInt (x1)) (Int32.ofInt (0))).toInt = y 4 ∧ True) → (True) → Q (some (.int (Int32.ofInt (-1)))) τ)
    (l1 : ∀ (τ : pm_S) (y : Nat → Int) (v5 : Value) (v6 : Value) (v7 : Value) (v8 : Value) (v9 : Value) (v10 : Value) (v11 : Value) (v12 : Value), v5.category = 1 → v6.category = 1 → v7.category = 1 → v8.category = 1 → v9.category = 1 → v10.category = 1 → v11.category = 1 → v12.category = 1 → an_GB pm_B τ → FQ [] σ τ → ((0 ≤ x0 ∧ x0 ≤ 9) ∧ (1 ≤ x1 ∧ x1 ≤ 1023) ∧ ((-2147483648) ≤ x2 ∧ x2 ≤ 2147483647) ∧ ((-2147483648) ≤ x3 ∧ x3 ≤ 2147483647) ∧ (0 ≤ y 4 ∧ y 4 ≤ 6) ∧ True) → (True) → ((an_f 16 (Int32.ofInt (x1)) (Int32.ofInt (0))).toInt = y 4 ∧ True) → (True) → Ok 229 25 25 [.ref 93, .int (Int32.ofInt (x0)), .int (Int32.ofInt (x1)), .int (Int32.ofInt (x2)), .int (Int32.ofInt (x3)), v5, v6, v7, v8, v9, v10, v11, v12] [.int (Int32.ofInt (x2)), .ref 93] τ Q)
    : Ok 229 25 17 [.ref 93, .int (Int32.ofInt (x0)), .int (Int32.ofInt (x1)), .int (Int32.ofInt (x2)), .int (Int32.ofInt (x3)), v5, v6, v7, v8, v9, v10, v11, v12] [.int (Int32.ofInt 1)] σ Q := by
  refine an_seg (B := pm_B) (F := []) (T := []) (S := []) (fun _ h => absurd h List.not_mem_nil) (k := 229) (d := 24) (cs := [25]) 10 17 4 [(0, 0, 9), (1, 1, 1023), (2, (-2147483648), 2147483647), (3, (-2147483648), 2147483647)] [] [(2, 93, 0), (0, 0, 0), (0, 1, 0), (0, 2, 0), (0, 3, 0), (5, 0, 0), (5, 0, 0), (5, 0, 0), (5, 0, 0), (5, 0, 0), (5, 0, 0), (5, 0, 0), (5, 0, 0)] [(1, 0, 1)] [(9999, [], [(1, 0, (-1))], [(0, 0, 9), (1, 1, 1023), (2, (-2147483648), 2147483647), (3, (-2147483648), 2147483647), (4, 7, 10)], [], [(16, (0, 1, 0), (1, 0, 0), 4)], []),
    (25, [(2, 93, 0), (0, 0, 0), (0, 1, 0), (0, 2, 0), (0, 3, 0), (5, 0, 0), (5, 0, 0), (5, 0, 0), (5, 0, 0), (5, 0, 0), (5, 0, 0), (5, 0, 0), (5, 0, 0)], [(0, 2, 0), (2, 93, 0)], [(0, 0, 9), (1, 1, 1023), (2, (-2147483648), 2147483647), (3, (-2147483648), 2147483647), (4, 0, 6)], [], [(16, (0, 1, 0), (1, 0, 0), 4)], [])] (by decide +kernel) (ρ0 := (fun s => [x0, x1, x2, x3].getD s 0)) hB eF trivial ⟨rfl, ⟨rfl, ⟨rfl, ⟨rfl, ⟨rfl, ⟨hv5, ⟨hv6, ⟨hv7, ⟨hv8, ⟨hv9, ⟨hv10, ⟨hv11, ⟨hv12, trivial⟩⟩⟩⟩⟩⟩⟩⟩⟩⟩⟩⟩⟩ ⟨rfl, trivial⟩ ?_
  refine List.forall_mem_cons.mpr ⟨?_, List.forall_mem_cons.mpr ⟨?_, fun _ h => absurd h List.not_mem_nil⟩⟩
  · intro ρ τ Lc stc hx g1 g2 g3 g4 g5 g6 g7 g8
    have e0 : ρ 0 = x0 := hx 0 (by decide)
    have e1 : ρ 1 = x1 := hx 1 (by decide)
    have e2 : ρ 2 = x2 := hx 2 (by decide)
    have e3 : ρ 3 = x3 := hx 3 (by decide)
    subst e0
    subst e1
    subst e2
    subst e3
    match stc, g8 with
    | [_], ⟨h, _⟩ => cases h; exact l0 τ ρ g1 g2 g3 g4 g5 g6
  · intro ρ τ Lc stc hx g1 g2 g3 g4 g5 g6 g7 g8
    have e0 : ρ 0 = x0 := hx 0 (by decide)
    have e1 : ρ 1 = x1 := hx 1 (by decide)
    have e2 : ρ 2 = x2 := hx 2 (by decide)
    have e3 : ρ 3 = x3 := hx 3 (by decide)
    subst e0
    subst e1
    subst e2
    subst e3
    have g7 := g7 (by decide)
    match Lc, stc, g7, g8 with
    | [v0, v1, v2, v3, v4, v5, v6, v7, v8, v9, v10, v11, v12], [w0, w1], ⟨hv0, hv1, hv2, hv3, hv4, hv5, hv6, hv7, hv8, hv9, hv10, hv11, hv12, _⟩, ⟨hw0, hw1, _⟩ =>
      cases hv0
      cases hv1
      cases hv2
      cases hv3
      cases hv4
      cases hw0
      cases hw1
      exact l1 τ ρ v5 v6 v7 v8 v9 v10 v11 v12 hv5 hv6 hv7 hv8 hv9 hv10 hv11 hv12 g1 g2 g3 g4 g5 g6
set_option maxRecDepth 100000 in
theorem sq_m26n {σ : pm_S} {Q : Option Value → pm_S → Prop} (v1 : Value) (v2 : Value) (v3 : Value) (v4 : Value) (v5 : Value) (v6 : Value) (v7 : Value) (v8 : Value) (v9 : Value) (v10 : Value) (v11 : Value) (v12 : Value) (hv1 : v1.category = 1) (hv2 : v2.category = 1) (hv3 : v3.category = 1) (hv4 : v4.category = 1) (hv5 : v5.category = 1) (hv6 : v6.category = 1) (hv7 : v7.category = 1) (hv8 : v8.category = 1) (hv9 : v9.category = 1) (hv10 : v10.category = 1) (hv11 : v11.category = 1) (hv12 : v12.category = 1) (hB : an_GB pm_B σ)
    (l0 : ∀ (τ : pm_S) (y : Nat → Int), an_GB pm_B τ → FQ [] σ τ → (True) → (True) → (True) → (True) → Q (some (.int (Int32.ofInt (-1)))) τ)
    : Ok 229 25 26 [.ref 93, v1, v2, v3, v4, v5, v6, v7, v8, v9, v10, v11, v12] [.int (Int32.ofInt 0)] σ Q := by
  refine an_seg (B := pm_B) (F := []) (T := []) (S := []) (fun _ h => absurd h List.not_mem_nil) (k := 229) (d := 24) (cs := []) 5 26 0 [] [] [(2, 93, 0), (5, 0, 0), (5, 0, 0), (5, 0, 0), (5, 0, 0), (5, 0, 0), (5, 0, 0), (5, 0, 0), (5, 0, 0), (5, 0, 0), (5, 0, 0), (5, 0, 0), (5, 0, 0)] [(1, 0, 0)] [(9999, [], [(1, 0, (-1))], [], [], [], [])] (by decide +kernel) (ρ0 := (fun s => [].getD s 0)) hB trivial trivial ⟨rfl, ⟨hv1, ⟨hv2, ⟨hv3, ⟨hv4, ⟨hv5, ⟨hv6, ⟨hv7, ⟨hv8, ⟨hv9, ⟨hv10, ⟨hv11, ⟨hv12, trivial⟩⟩⟩⟩⟩⟩⟩⟩⟩⟩⟩⟩⟩ ⟨rfl, trivial⟩ ?_
  refine List.forall_mem_cons.mpr ⟨?_, fun _ h => absurd h List.not_mem_nil⟩
  · intro ρ τ Lc stc hx g1 g2 g3 g4 g5 g6 g7 g8
    match stc, g8 with
    | [_], ⟨h, _⟩ => cases h; exact l0 τ ρ g1 g2 g3 g4 g5 g6
set_option maxRecDepth 100000 in
theorem sq_m26 {σ : pm_S} {Q : Option Value → pm_S → Prop} (x0 x1 x2 x3 : Int) (v5 : Value) (v6 : Value) (v7 : Value) (v8 : Value) (v9 : Value) (v10 : Value) (v11 : Value) (v12 : Value) (hv5 : v5.category = 1) (hv6 : v6.category = 1) (hv7 : v7.category = 1) (hv8 : v8.category = 1) (hv9 : v9.category = 1) (hv10 : v10.category = 1) (hv11 : v11.category = 1) (hv12 : v12.category = 1) (hB : an_GB pm_B σ) (eF : (0 ≤ x0 ∧ x0 ≤ 9) ∧ (1 ≤ x1 ∧ x1 ≤ 1023) ∧ (0 ≤ x2 ∧ x2 ≤ 9) ∧ ((-2147483648) ≤ x3 ∧ x3 ≤ 2147483647) ∧ True)
    (l0 : ∀ (τ : pm_S) (y : Nat → Int), an_GB pm_B τ → FQ [] σ τ → ((0 ≤ x0 ∧ x0 ≤ 9) ∧ (1 ≤ x1 ∧ x1 ≤ 1023) ∧ (0 ≤ x2 ∧ x2 ≤ 9) ∧ ((-2147483648) ≤ x3 ∧ x3 ≤ 2147483647) ∧ (0 ≤ y 4 ∧ y 4 ≤ 1023) ∧ (0 ≤ y 5 ∧ y 5 ≤ 0) ∧ True) → (y 5 ≤ y 4 + 0 ∧ True) → ((an_f 7 (Int32.ofInt (x1)) (Int32.ofInt (x2))).toInt = y 4 ∧ (an_f 3 (Int32.ofInt (y 4)) (Int32.ofInt (1))).toInt = y 5 ∧ True) → (True) → Q (some (.int (Int32.ofInt (-1)))) τ)
    (l1 : ∀ (τ : pm_S) (y : Nat → Int), an_GB pm_B τ → FQ [] σ τ → ((0 ≤ x0 ∧ x0 ≤ 9) ∧ (1 ≤ x1 ∧ x1 ≤ 1023) ∧ (0 ≤ x2 ∧ x2 ≤ 9) ∧ ((-2147483648) ≤ x3 ∧ x3 ≤ (-1)) ∧ (0 ≤ y 4 ∧ y 4 ≤ 1023) ∧ (1 ≤ y 5 ∧ y 5 ≤ 1) ∧ True) → (y 5 ≤ y 4 + 0 ∧ True) → ((an_f 7 (Int32.ofInt (x1)) (Int32.ofInt (x2))).toInt = y 4 ∧ (an_f 3 (Int32.ofInt (y 4)) (Int32.ofInt (1))).toInt = y 5 ∧ True) → (True) → Q (some (.int (Int32.ofInt (-1)))) τ)
    (l2 : ∀ (τ : pm_S) (y : Nat → Int), an_GB pm_B τ → FQ [] σ τ → ((0 ≤ x0 ∧ x0 ≤ 9) ∧ (1 ≤ x1 ∧ x1 ≤ 1023) ∧ (0 ≤ x2 ∧ x2 ≤ 9) ∧ (2 ≤ x3 ∧ x3 ≤ 2147483647) ∧ (0 ≤ y 4 ∧ y 4 ≤ 1023) ∧ (1 ≤ y 5 ∧ y 5 ≤ 1) ∧ True) → (y 5 ≤ y 4 + 0 ∧ True) → ((an_f 7 (Int32.ofInt (x1)) (Int32.ofInt (x2))).toInt = y 4 ∧ (an_f 3 (Int32.ofInt (y 4)) (Int32.ofInt (1))).toInt = y 5 ∧ True) → (True) → Q (some (.int (Int32.ofInt (-1)))) τ)
    (l3 : ∀ (τ : pm_S) (y : Nat → Int) (v10 : Value) (v11 : Value) (v12 : Value), v10.category = 1 → v11.category = 1 → v12.category = 1 → an_GB pm_B τ → FQ [] σ τ → ((0 ≤ x0 ∧ x0 ≤ 9) ∧ (1 ≤ x1 ∧ x1 ≤ 1023) ∧ (0 ≤ x2 ∧ x2 ≤ 9) ∧ (0 ≤ x3 ∧ x3 ≤ 1) ∧ (0 ≤ y 4 ∧ y 4 ≤ 1023) ∧ (1 ≤ y 5 ∧ y 5 ≤ 1) ∧ (1 ≤ y 6 ∧ y 6 ≤ 512) ∧ ((-513) ≤ y 7 ∧ y 7 ≤ (-2)) ∧ (0 ≤ y 8 ∧ y 8 ≤ 1023) ∧ (0 ≤ y 9 ∧ y 9 ≤ 10) ∧ True) → (y 8 ≤ x1 + 0 ∧ y 5 ≤ y 4 + 0 ∧ True) → ((an_f 7 (Int32.ofInt (x1)) (Int32.ofInt (x2))).toInt = y 4 ∧ (an_f 3 (Int32.ofInt (y 4)) (Int32.ofInt (1))).toInt = y 5 ∧ (an_f 6 (Int32.ofInt (1)) (Int32.ofInt (x2))).toInt = y 6 ∧ (an_f 5 (Int32.ofInt (y 6)) (Int32.ofInt ((-1)))).toInt = y 7 ∧ (an_f 3 (Int32.ofInt (x1)) (Int32.ofInt (y 7))).toInt = y 8 ∧ (an_f 16 (Int32.ofInt (x1)) (Int32.ofInt (0))).toInt = y 9 ∧ True) → (True) → Ok 229 25 59 [.ref 93, .int (Int32.ofInt (x0)), .int (Int32.ofInt (x1)), .int (Int32.ofInt (x2)), .int (Int32.ofInt (x3)), .int (Int32.ofInt (y 8)), .int (Int32.ofInt (y 9)), .int (Int32.ofInt 0), .int (Int32.ofInt (y 8)), .int (Int32.ofInt 1), v10, v11, v12] [] τ Q)
    : Ok 229 25 26 [.ref 93, .int (Int32.ofInt (x0)), .int (Int32.ofInt (x1)), .int (Int32.ofInt (x2)), .int (Int32.ofInt (x3)), v5, v6, v7, v8, v9, v10, v11, v12] [.int (Int32.ofInt 1)] σ Q := by
  refine an_seg (B := pm_B) (F := []) (T := []) (S := []) (fun _ h => absurd h List.not_mem_nil) (k := 229) (d := 24) (cs := [59]) 42 26 4 [(0, 0, 9), (1, 1, 1023), (2, 0, 9), (3, (-2147483648), 2147483647)] [] [(2, 93, 0), (0, 0, 0), (0, 1, 0), (0, 2, 0), (0, 3, 0), (5, 0, 0), (5, 0, 0), (5, 0, 0), (5, 0, 0), (5, 0, 0), (5, 0, 0), (5, 0, 0), (5, 0, 0)] [(1, 0, 1)] [(9999, [], [(1, 0, (-1))], [(0, 0, 9), (1, 1, 1023), (2, 0, 9), (3, (-2147483648), 2147483647), (4, 0, 1023), (5, 0, 0)], [(1, 5, 4, 0)], [(7, (0, 1, 0), (0, 2, 0), 4), (3, (0, 4, 0), (1, 0, 1), 5)], []),
    (9999, [], [(1, 0, (-1))], [(0, 0, 9), (1, 1, 1023), (2, 0, 9), (3, (-2147483648), (-1)), (4, 0, 1023), (5, 1, 1)], [(1, 5, 4, 0)], [(7, (0, 1, 0), (0, 2, 0), 4), (3, (0, 4, 0), (1, 0, 1), 5)], []),
    (9999, [], [(1, 0, (-1))], [(0, 0, 9), (1, 1, 1023), (2, 0, 9), (3, 2, 2147483647), (4, 0, 1023), (5, 1, 1)], [(1, 5, 4, 0)], [(7, (0, 1, 0), (0, 2, 0), 4), (3, (0, 4, 0), (1, 0, 1), 5)], []),
    (59, [(2, 93, 0), (0, 0, 0), (0, 1, 0), (0, 2, 0), (0, 3, 0), (0, 8, 0), (0, 9, 0), (1, 0, 0), (0, 8, 0), (1, 0, 1), (5, 0, 0), (5, 0, 0), (5, 0, 0)], [], [(0, 0, 9), (1, 1, 1023), (2, 0, 9), (3, 0, 1), (4, 0, 1023), (5, 1, 1), (6, 1, 512), (7, (-513), (-2)), (8, 0, 1023), (9, 0, 10)], [(1, 8, 1, 0), (1, 5, 4, 0)], [(7, (0, 1, 0), (0, 2, 0), 4), (3, (0, 4, 0), (1, 0, 1), 5), (6, (1, 0, 1), (0, 2, 0), 6), (5, (0, 6, 0), (1, 0, (-1)), 7), (3, (0, 1, 0), (0, 7, 0), 8), (16, (0, 1, 0), (1, 0, 0), 9)], [])] (by decide +kernel) (ρ0 := (fun s => [x0, x1, x2, x3].getD s 0)) hB eF trivial ⟨rfl, ⟨rfl, ⟨rfl, ⟨rfl, ⟨rfl, ⟨hv5, ⟨hv6, ⟨hv7, ⟨hv8, ⟨hv9, ⟨hv10, ⟨hv11, ⟨hv12, trivial⟩⟩⟩⟩⟩⟩⟩⟩⟩⟩⟩⟩⟩ ⟨rfl, trivial⟩ ?_
  refine List.forall_mem_cons.mpr ⟨?_, List.forall_mem_cons.mpr ⟨?_, List.forall_mem_cons.mpr ⟨?_, List.forall_mem_cons.mpr ⟨?_, fun _ h => absurd h List.not_mem_nil⟩⟩⟩⟩
  · intro ρ τ Lc stc hx g1 g2 g3 g4 g5 g6 g7 g8
    have e0 : ρ 0 = x0 := hx 0 (by decide)
    have e1 : ρ 1 = x1 := hx 1 (by decide)
    have e2 : ρ 2 = x2 := hx 2 (by decide)
    have e3 : ρ 3 = x3 := hx 3 (by decide)
    subst e0
    subst e1
    subst e2
    subst e3
    match stc, g8 with
    | [_], ⟨h, _⟩ => cases h; exact l0 τ ρ g1 g2 g3 g4 g5 g6
  · intro ρ τ Lc stc hx g1 g2 g3 g4 g5 g6 g7 g8
    have e0 : ρ 0 = x0 := hx 0 (by decide)
    have e1 : ρ 1 = x1 := hx 1 (by decide)
    have e2 : ρ 2 = x2 := hx 2 (by decide)
    have e3 : ρ 3 = x3 := hx 3 (by decide)
    subst e0
    subst e1
    subst e2
    subst e3
    match stc, g8 with
    | [_], ⟨h, _⟩ => cases h; exact l1 τ ρ g1 g2 g3 g4 g5 g6
  · intro ρ τ Lc stc hx g1 g2 g3 g4 g5 g6 g7 g8
    have e0 : ρ 0 = x0 := hx 0 (by decide)
    have e1 : ρ 1 = x1 := hx 1 (by decide)
    have e2 : ρ 2 = x2 := hx 2 (by decide)
    have e3 : ρ 3 = x3 := hx 3 (by decide)
    subst e0
    subst e1
    subst e2
    subst e3
    match stc, g8 with
    | [_], ⟨h, _⟩ => cases h; exact l2 τ ρ g1 g2 g3 g4 g5 g6
  · intro ρ τ Lc stc hx g1 g2 g3 g4 g5 g6 g7 g8
    have e0 : ρ 0 = x0 := hx 0 (by decide)
    have e1 : ρ 1 = x1 := hx 1 (by decide)
    have e2 : ρ 2 = x2 := hx 2 (by decide)
    have e3 : ρ 3 = x3 := hx 3 (by decide)
    subst e0
    subst e1
    subst e2
    subst e3
    have g7 := g7 (by decide)
    match Lc, stc, g7, g8 with
    | [v0, v1, v2, v3, v4, v5, v6, v7, v8, v9, v10, v11, v12], [], ⟨hv0, hv1, hv2, hv3, hv4, hv5, hv6, hv7, hv8, hv9, hv10, hv11, hv12, _⟩, _ =>
      cases hv0
      cases hv1
      cases hv2
      cases hv3
      cases hv4
      cases hv5
      cases hv6
      cases hv7
      cases hv8
      cases hv9
      exact l3 τ ρ v10 v11 v12 hv10 hv11 hv12 g1 g2 g3 g4 g5 g6
