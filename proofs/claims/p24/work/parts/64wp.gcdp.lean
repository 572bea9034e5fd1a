/-! shares: gcd, pieces -/
set_option maxRecDepth 100000 in
theorem sz_g0 {σ : pm_S} {Q : Option Value → pm_S → Prop} (x0 x1 : Int) (v2 : Value) (v3 : Value) (v4 : Value) (v5 : Value) (hv2 : v2.category = 1) (hv3 : v3.category = 1) (hv4 : v4.category = 1) (hv5 : v5.category = 1) (hB : an_GB pm_B σ) (eF : (0 ≤ x0 ∧ x0 ≤ 2147483647) ∧ (0 ≤ x1 ∧ x1 ≤ 4000000) ∧ True)
    (l0 : ∀ (τ : pm_S) (y : Nat → Int) (v5 : Value), v5.category = 1 → an_GB pm_B τ → FQ [] σ τ → ((0 ≤ x0 ∧ x0 ≤ 2147483647) ∧ (0 ≤ x1 ∧ x1 ≤ 4000000) ∧ True) → (True) → (True) → (True) → Ok 113 9 6 [.int (Int32.ofInt (x0)), .int (Int32.ofInt (x1)), .int (Int32.ofInt (x0)), .int (Int32.ofInt (x1)), .int (Int32.ofInt 0), v5] [] τ Q)
    : Ok 113 9 0 [.int (Int32.ofInt (x0)), .int (Int32.ofInt (x1)), v2, v3, v4, v5] [] σ Q := by
  refine an_seg (B := pm_B) (F := []) (T := []) (S := []) (fun _ h => absurd h List.not_mem_nil) (k := 113) (d := 8) (cs := [6]) 8 0 2 [(0, 0, 2147483647), (1, 0, 4000000)] [] [(0, 0, 0), (0, 1, 0), (5, 0, 0), (5, 0, 0), (5, 0, 0), (5, 0, 0)] [] [(6, [(0, 0, 0), (0, 1, 0), (0, 0, 0), (0, 1, 0), (1, 0, 0), (5, 0, 0)], [], [(0, 0, 2147483647), (1, 0, 4000000)], [], [], [])] (by decide +kernel) (ρ0 := (fun s => [x0, x1].getD s 0)) hB eF trivial ⟨rfl, ⟨rfl, ⟨hv2, ⟨hv3, ⟨hv4, ⟨hv5, trivial⟩⟩⟩⟩⟩⟩ trivial ?_
  refine List.forall_mem_cons.mpr ⟨?_, fun _ h => absurd h List.not_mem_nil⟩
  · intro ρ τ Lc stc hx g1 g2 g3 g4 g5 g6 g7 g8
    have e0 : ρ 0 = x0 := hx 0 (by decide)
    have e1 : ρ 1 = x1 := hx 1 (by decide)
    subst e0
    subst e1
    have g7 := g7 (by decide)
    match Lc, stc, g7, g8 with
    | [v0, v1, v2, v3, v4, v5], [], ⟨hv0, hv1, hv2, hv3, hv4, hv5, _⟩, _ =>
      cases hv0
      cases hv1
      cases hv2
      cases hv3
      cases hv4
      exact l0 τ ρ v5 hv5 g1 g2 g3 g4 g5 g6
set_option maxRecDepth 100000 in
theorem sz_g6 {σ : pm_S} {Q : Option Value → pm_S → Prop} (x0 x1 x2 x3 x4 : Int) (v5 : Value) (hv5 : v5.category = 1) (hB : an_GB pm_B σ) (eF : (0 ≤ x0 ∧ x0 ≤ 2147483647) ∧ (0 ≤ x1 ∧ x1 ≤ 4000000) ∧ (0 ≤ x2 ∧ x2 ≤ 2147483647) ∧ (0 ≤ x3 ∧ x3 ≤ 4000000) ∧ (0 ≤ x4 ∧ x4 ≤ 100) ∧ True)
    (l0 : ∀ (τ : pm_S) (y : Nat → Int), an_GB pm_B τ → FQ [] σ τ → ((0 ≤ x0 ∧ x0 ≤ 2147483647) ∧ (0 ≤ x1 ∧ x1 ≤ 4000000) ∧ (0 ≤ x2 ∧ x2 ≤ 2147483647) ∧ (0 ≤ x3 ∧ x3 ≤ 4000000) ∧ (100 ≤ x4 ∧ x4 ≤ 100) ∧ True) → (True) → (True) → (True) → Q (some (.int (Int32.ofInt (x2)))) τ)
    (l1 : ∀ (τ : pm_S) (y : Nat → Int), an_GB pm_B τ → FQ [] σ τ → ((0 ≤ x0 ∧ x0 ≤ 2147483647) ∧ (0 ≤ x1 ∧ x1 ≤ 4000000) ∧ (0 ≤ x2 ∧ x2 ≤ 2147483647) ∧ (0 ≤ x3 ∧ x3 ≤ 0) ∧ (0 ≤ x4 ∧ x4 ≤ 99) ∧ True) → (True) → (True) → (True) → Q (some (.int (Int32.ofInt (x2)))) τ)
    (l2 : ∀ (τ : pm_S) (y : Nat → Int), an_GB pm_B τ → FQ [] σ τ → ((0 ≤ x0 ∧ x0 ≤ 2147483647) ∧ (0 ≤ x1 ∧ x1 ≤ 4000000) ∧ (0 ≤ x2 ∧ x2 ≤ 2147483647) ∧ (1 ≤ x3 ∧ x3 ≤ 4000000) ∧ (0 ≤ x4 ∧ x4 ≤ 99) ∧ (0 ≤ y 5 ∧ y 5 ≤ 3999999) ∧ True) → (y 5 ≤ x3 + (-1) ∧ (y 5).natAbs < (x3).natAbs ∧ True) → ((an_f 10 (Int32.ofInt (x2)) (Int32.ofInt (x3))).toInt = y 5 ∧ True) → (True) → Ok 113 9 6 [.int (Int32.ofInt (x0)), .int (Int32.ofInt (x1)), .int (Int32.ofInt (x3)), .int (Int32.ofInt (y 5)), .int (Int32.ofInt (x4 + 1)), .int (Int32.ofInt (y 5))] [] τ Q)
    : Ok 113 9 6 [.int (Int32.ofInt (x0)), .int (Int32.ofInt (x1)), .int (Int32.ofInt (x2)), .int (Int32.ofInt (x3)), .int (Int32.ofInt (x4)), v5] [] σ Q := by
  refine an_seg (B := pm_B) (F := []) (T := []) (S := []) (fun _ h => absurd h List.not_mem_nil) (k := 113) (d := 8) (cs := [6]) 17 6 5 [(0, 0, 2147483647), (1, 0, 4000000), (2, 0, 2147483647), (3, 0, 4000000), (4, 0, 100)] [] [(0, 0, 0), (0, 1, 0), (0, 2, 0), (0, 3, 0), (0, 4, 0), (5, 0, 0)] [] [(9999, [], [(0, 2, 0)], [(0, 0, 2147483647), (1, 0, 4000000), (2, 0, 2147483647), (3, 0, 4000000), (4, 100, 100)], [], [], []),
    (9999, [], [(0, 2, 0)], [(0, 0, 2147483647), (1, 0, 4000000), (2, 0, 2147483647), (3, 0, 0), (4, 0, 99)], [], [], []),
    (6, [(0, 0, 0), (0, 1, 0), (0, 3, 0), (0, 5, 0), (0, 4, 1), (0, 5, 0)], [], [(0, 0, 2147483647), (1, 0, 4000000), (2, 0, 2147483647), (3, 1, 4000000), (4, 0, 99), (5, 0, 3999999)], [(1, 5, 3, (-1)), (2, 5, 3, 0)], [(10, (0, 2, 0), (0, 3, 0), 5)], [])] (by decide +kernel) (ρ0 := (fun s => [x0, x1, x2, x3, x4].getD s 0)) hB eF trivial ⟨rfl, ⟨rfl, ⟨rfl, ⟨rfl, ⟨rfl, ⟨hv5, trivial⟩⟩⟩⟩⟩⟩ trivial ?_
  refine List.forall_mem_cons.mpr ⟨?_, List.forall_mem_cons.mpr ⟨?_, List.forall_mem_cons.mpr ⟨?_, fun _ h => absurd h List.not_mem_nil⟩⟩⟩
  · intro ρ τ Lc stc hx g1 g2 g3 g4 g5 g6 g7 g8
    have e0 : ρ 0 = x0 := hx 0 (by decide)
    have e1 : ρ 1 = x1 := hx 1 (by decide)
    have e2 : ρ 2 = x2 := hx 2 (by decide)
    have e3 : ρ 3 = x3 := hx 3 (by decide)
    have e4 : ρ 4 = x4 := hx 4 (by decide)
    subst e0
    subst e1
    subst e2
    subst e3
    subst e4
    match stc, g8 with
    | [_], ⟨h, _⟩ => cases h; exact l0 τ ρ g1 g2 g3 g4 g5 g6
  · intro ρ τ Lc stc hx g1 g2 g3 g4 g5 g6 g7 g8
    have e0 : ρ 0 = x0 := hx 0 (by decide)
    have e1 : ρ 1 = x1 := hx 1 (by decide)
    have e2 : ρ 2 = x2 := hx 2 (by decide)
    have e3 : ρ 3 = x3 := hx 3 (by decide)
    have e4 : ρ 4 = x4 := hx 4 (by decide)
    subst e0
    subst e1
    subst e2
    subst e3
    subst e4
    match stc, g8 with
    | [_], ⟨h, _⟩ => cases h; exact l1 τ ρ g1 g2 g3 g4 g5 g6
  · intro ρ τ Lc stc hx g1 g2 g3 g4 g5 g6 g7 g8
    have e0 : ρ 0 = x0 := hx 0 (by decide)
    have e1 : ρ 1 = x1 := hx 1 (by decide)
    have e2 : ρ 2 = x2 := hx 2 (by decide)
    have e3 : ρ 3 = x3 := hx 3 (by decide)
    have e4 : ρ 4 = x4 := hx 4 (by decide)
    subst e0
    subst e1
    subst e2
    subst e3
    subst e4
    have g7 := g7 (by decide)
    match Lc, stc, g7, g8 with
    | [v0, v1, v2, v3, v4, v5], [], ⟨hv0, hv1, hv2, hv3, hv4, hv5, _⟩, _ =>
      cases hv0
      cases hv1
      cases hv2
      cases hv3
      cases hv4
      cases hv5
      exact l2 τ ρ  g1 g2 g3 g4 g5 g6
set_option maxRecDepth 100000 in
theorem sz_m106 {σ : pm_S} {Q : Option Value → pm_S → Prop} (x0 x1 x2 x3 x4 x5 x6 x7 x8 : Int) (v10 : Value) (v11 : Value) (v12 : Value) (hv10 : v10.category = 1) (hv11 : v11.category = 1) (hv12 : v12.category = 1) (hB : an_GB pm_B σ) (eF : (0 ≤ x0 ∧ x0 ≤ 9) ∧ (0 ≤ x1 ∧ x1 ≤ 1023) ∧ (0 ≤ x2 ∧ x2 ≤ 9) ∧ (0 ≤ x3 ∧ x3 ≤ 1) ∧ (0 ≤ x4 ∧ x4 ≤ 1023) ∧ (0 ≤ x5 ∧ x5 ≤ 10) ∧ ((-2000000000) ≤ x6 ∧ x6 ≤ 2000000000) ∧ (0 ≤ x7 ∧ x7 ≤ 1023) ∧ (0 ≤ x8 ∧ x8 ≤ 0) ∧ True)
    (l0 : ∀ (τ : pm_S) (y : Nat → Int) (v11 : Value) (v12 : Value), v11.category = 1 → v12.category = 1 → an_GB pm_B τ → FQ [] σ τ → ((0 ≤ x0 ∧ x0 ≤ 9) ∧ (0 ≤ x1 ∧ x1 ≤ 1023) ∧ (0 ≤ x2 ∧ x2 ≤ 9) ∧ (0 ≤ x3 ∧ x3 ≤ 1) ∧ (0 ≤ x4 ∧ x4 ≤ 1023) ∧ (0 ≤ x5 ∧ x5 ≤ 10) ∧ (0 ≤ x6 ∧ x6 ≤ 2000000000) ∧ (0 ≤ x7 ∧ x7 ≤ 1023) ∧ (0 ≤ x8 ∧ x8 ≤ 0) ∧ True) → (True) → (True) → (True) → Ok 229 25 115 [.ref 93, .int (Int32.ofInt (x0)), .int (Int32.ofInt (x1)), .int (Int32.ofInt (x2)), .int (Int32.ofInt (x3)), .int (Int32.ofInt (x4)), .int (Int32.ofInt (x5)), .int (Int32.ofInt (x6)), .int (Int32.ofInt (x7)), .int (Int32.ofInt (x8)), .int (Int32.ofInt (x6)), v11, v12] [.int (Int32.ofInt (x5)), .ref 93] τ Q)
    (l1 : ∀ (τ : pm_S) (y : Nat → Int) (v11 : Value) (v12 : Value), v11.category = 1 → v12.category = 1 → an_GB pm_B τ → FQ [] σ τ → ((0 ≤ x0 ∧ x0 ≤ 9) ∧ (0 ≤ x1 ∧ x1 ≤ 1023) ∧ (0 ≤ x2 ∧ x2 ≤ 9) ∧ (0 ≤ x3 ∧ x3 ≤ 1) ∧ (0 ≤ x4 ∧ x4 ≤ 1023) ∧ (0 ≤ x5 ∧ x5 ≤ 10) ∧ ((-2000000000) ≤ x6 ∧ x6 ≤ (-1)) ∧ (0 ≤ x7 ∧ x7 ≤ 1023) ∧ (0 ≤ x8 ∧ x8 ≤ 0) ∧ (1 ≤ y 9 ∧ y 9 ≤ 2000000000) ∧ True) → (True) → ((an_f 15 (Int32.ofInt (x6)) (Int32.ofInt (0))).toInt = y 9 ∧ True) → (True) → Ok 229 25 115 [.ref 93, .int (Int32.ofInt (x0)), .int (Int32.ofInt (x1)), .int (Int32.ofInt (x2)), .int (Int32.ofInt (x3)), .int (Int32.ofInt (x4)), .int (Int32.ofInt (x5)), .int (Int32.ofInt (x6)), .int (Int32.ofInt (x7)), .int (Int32.ofInt (x8)), .int (Int32.ofInt (y 9)), v11, v12] [.int (Int32.ofInt (x5)), .ref 93] τ Q)
    : Ok 229 25 106 [.ref 93, .int (Int32.ofInt (x0)), .int (Int32.ofInt (x1)), .int (Int32.ofInt (x2)), .int (Int32.ofInt (x3)), .int (Int32.ofInt (x4)), .int (Int32.ofInt (x5)), .int (Int32.ofInt (x6)), .int (Int32.ofInt (x7)), .int (Int32.ofInt (x8)), v10, v11, v12] [] σ Q := by
  refine an_seg (B := pm_B) (F := []) (T := []) (S := []) (fun _ h => absurd h List.not_mem_nil) (k := 229) (d := 24) (cs := [115]) 10 106 9 [(0, 0, 9), (1, 0, 1023), (2, 0, 9), (3, 0, 1), (4, 0, 1023), (5, 0, 10), (6, (-2000000000), 2000000000), (7, 0, 1023), (8, 0, 0)] [] [(2, 93, 0), (0, 0, 0), (0, 1, 0), (0, 2, 0), (0, 3, 0), (0, 4, 0), (0, 5, 0), (0, 6, 0), (0, 7, 0), (0, 8, 0), (5, 0, 0), (5, 0, 0), (5, 0, 0)] [] [(115, [(2, 93, 0), (0, 0, 0), (0, 1, 0), (0, 2, 0), (0, 3, 0), (0, 4, 0), (0, 5, 0), (0, 6, 0), (0, 7, 0), (0, 8, 0), (0, 6, 0), (5, 0, 0), (5, 0, 0)], [(0, 5, 0), (2, 93, 0)], [(0, 0, 9), (1, 0, 1023), (2, 0, 9), (3, 0, 1), (4, 0, 1023), (5, 0, 10), (6, 0, 2000000000), (7, 0, 1023), (8, 0, 0)], [], [], []),
    (115, [(2, 93, 0), (0, 0, 0), (0, 1, 0), (0, 2, 0), (0, 3, 0), (0, 4, 0), (0, 5, 0), (0, 6, 0), (0, 7, 0), (0, 8, 0), (0, 9, 0), (5, 0, 0), (5, 0, 0)], [(0, 5, 0), (2, 93, 0)], [(0, 0, 9), (1, 0, 1023), (2, 0, 9), (3, 0, 1), (4, 0, 1023), (5, 0, 10), (6, (-2000000000), (-1)), (7, 0, 1023), (8, 0, 0), (9, 1, 2000000000)], [], [(15, (0, 6, 0), (1, 0, 0), 9)], [])] (by decide +kernel) (ρ0 := (fun s => [x0, x1, x2, x3, x4, x5, x6, x7, x8].getD s 0)) hB eF trivial ⟨rfl, ⟨rfl, ⟨rfl, ⟨rfl, ⟨rfl, ⟨rfl, ⟨rfl, ⟨rfl, ⟨rfl, ⟨rfl, ⟨hv10, ⟨hv11, ⟨hv12, trivial⟩⟩⟩⟩⟩⟩⟩⟩⟩⟩⟩⟩⟩ trivial ?_
  refine List.forall_mem_cons.mpr ⟨?_, List.forall_mem_cons.mpr ⟨?_, fun _ h => absurd h List.not_mem_nil⟩⟩
  · intro ρ τ Lc stc hx g1 g2 g3 g4 g5 g6 g7 g8
    have e0 : ρ 0 = x0 := hx 0 (by decide)
    have e1 : ρ 1 = x1 := hx 1 (by decide)
    have e2 : ρ 2 = x2 := hx 2 (by decide)
    have e3 : ρ 3 = x3 := hx 3 (by decide)
    have e4 : ρ 4 = x4 := hx 4 (by decide)
    have e5 : ρ 5 = x5 := hx 5 (by decide)
    have e6 : ρ 6 = x6 := hx 6 (by decide)
    have e7 : ρ 7 = x7 := hx 7 (by decide)
    have e8 : ρ 8 = x8 := hx 8 (by decide)
    subst e0
    subst e1
    subst e2
    subst e3
    subst e4
    subst e5
    subst e6
    subst e7
    subst e8
    have g7 := g7 (by decide)
    match Lc, stc, g7, g8 with
    | [v0, v1, v2, v3, v4, v5, v6, v7, v8, v9, v10, v11, v12], [w0, w1], ⟨hv0, hv1, hv2, hv3, hv4, hv5, hv6, hv7, hv8, hv9, hv10, hv11, hv12, _⟩, ⟨hw0, hw1, _⟩ =>
      cases hv0
      cases hv1
      cases hv2
      cases hv3
      cases hv4
      cases hv5
      cases hv6
      cases hv7
      cases hv8
      cases hv9
      cases hv10
      cases hw0
      cases hw1
      exact l0 τ ρ v11 v12 hv11 hv12 g1 g2 g3 g4 g5 g6
  · intro ρ τ Lc stc hx g1 g2 g3 g4 g5 g6 g7 g8
    have e0 : ρ 0 = x0 := hx 0 (by decide)
    have e1 : ρ 1 = x1 := hx 1 (by decide)
    have e2 : ρ 2 = x2 := hx 2 (by decide)
    have e3 : ρ 3 = x3 := hx 3 (by decide)
    have e4 : ρ 4 = x4 := hx 4 (by decide)
    have e5 : ρ 5 = x5 := hx 5 (by decide)
    have e6 : ρ 6 = x6 := hx 6 (by decide)
    have e7 : ρ 7 = x7 := hx 7 (by decide)
    have e8 : ρ 8 = x8 := hx 8 (by decide)
    subst e0
    subst e1
    subst e2
    subst e3
    subst e4
    subst e5
    subst e6
    subst e7
    subst e8
    have g7 := g7 (by decide)
    match Lc, stc, g7, g8 with
    | [v0, v1, v2, v3, v4, v5, v6, v7, v8, v9, v10, v11, v12], [w0, w1], ⟨hv0, hv1, hv2, hv3, hv4, hv5, hv6, hv7, hv8, hv9, hv10, hv11, hv12, _⟩, ⟨hw0, hw1, _⟩ =>
      cases hv0
      cases hv1
      cases hv2
      cases hv3
      cases hv4
      cases hv5
      cases hv6
      cases hv7
      cases hv8
      cases hv9
      cases hv10
      cases hw0
      cases hw1
      exact l1 τ ρ v11 v12 hv11 hv12 g1 g2 g3 g4 g5 g6
set_option maxRecDepth 100000 in
theorem sz_m116 {σ : pm_S} {Q : Option Value → pm_S → Prop} (x0 x1 x2 x3 x4 x5 x6 x7 x8 x9 x10 : Int) (v11 : Value) (v12 : Value) (hv11 : v11.category = 1) (hv12 : v12.category = 1) (hB : an_GB pm_B σ) (eF : (0 ≤ x0 ∧ x0 ≤ 9) ∧ (0 ≤ x1 ∧ x1 ≤ 1023) ∧ (0 ≤ x2 ∧ x2 ≤ 9) ∧ (0 ≤ x3 ∧ x3 ≤ 1) ∧ (0 ≤ x4 ∧ x4 ≤ 1023) ∧ (0 ≤ x5 ∧ x5 ≤ 10) ∧ ((-2000000000) ≤ x6 ∧ x6 ≤ 2000000000) ∧ (0 ≤ x7 ∧ x7 ≤ 1023) ∧ (0 ≤ x8 ∧ x8 ≤ 0) ∧ (0 ≤ x9 ∧ x9 ≤ 2147483647) ∧ (0 ≤ x10 ∧ x10 ≤ 4000000) ∧ True)
    (l0 : ∀ (τ : pm_S) (y : Nat → Int) (v12 : Value), v12.category = 1 → an_GB pm_B τ → FQ [] σ τ → ((0 ≤ x0 ∧ x0 ≤ 9) ∧ (0 ≤ x1 ∧ x1 ≤ 1023) ∧ (0 ≤ x2 ∧ x2 ≤ 9) ∧ (0 ≤ x3 ∧ x3 ≤ 1) ∧ (0 ≤ x4 ∧ x4 ≤ 1023) ∧ (0 ≤ x5 ∧ x5 ≤ 10) ∧ ((-2000000000) ≤ x6 ∧ x6 ≤ 2000000000) ∧ (0 ≤ x7 ∧ x7 ≤ 1023) ∧ (0 ≤ x8 ∧ x8 ≤ 0) ∧ (0 ≤ x9 ∧ x9 ≤ 2147483647) ∧ (0 ≤ x10 ∧ x10 ≤ 4000000) ∧ True) → (True) → (True) → (True) → Ok 229 25 117 [.ref 93, .int (Int32.ofInt (x0)), .int (Int32.ofInt (x1)), .int (Int32.ofInt (x2)), .int (Int32.ofInt (x3)), .int (Int32.ofInt (x4)), .int (Int32.ofInt (x5)), .int (Int32.ofInt (x6)), .int (Int32.ofInt (x7)), .int (Int32.ofInt (x8)), .int (Int32.ofInt (x9)), .int (Int32.ofInt (x10)), v12] [] τ Q)
    : Ok 229 25 116 [.ref 93, .int (Int32.ofInt (x0)), .int (Int32.ofInt (x1)), .int (Int32.ofInt (x2)), .int (Int32.ofInt (x3)), .int (Int32.ofInt (x4)), .int (Int32.ofInt (x5)), .int (Int32.ofInt (x6)), .int (Int32.ofInt (x7)), .int (Int32.ofInt (x8)), .int (Int32.ofInt (x9)), v11, v12] [.int (Int32.ofInt (x10))] σ Q := by
  refine an_seg (B := pm_B) (F := []) (T := []) (S := []) (fun _ h => absurd h List.not_mem_nil) (k := 229) (d := 24) (cs := [117]) 3 116 11 [(0, 0, 9), (1, 0, 1023), (2, 0, 9), (3, 0, 1), (4, 0, 1023), (5, 0, 10), (6, (-2000000000), 2000000000), (7, 0, 1023), (8, 0, 0), (9, 0, 2147483647), (10, 0, 4000000)] [] [(2, 93, 0), (0, 0, 0), (0, 1, 0), (0, 2, 0), (0, 3, 0), (0, 4, 0), (0, 5, 0), (0, 6, 0), (0, 7, 0), (0, 8, 0), (0, 9, 0), (5, 0, 0), (5, 0, 0)] [(0, 10, 0)] [(117, [(2, 93, 0), (0, 0, 0), (0, 1, 0), (0, 2, 0), (0, 3, 0), (0, 4, 0), (0, 5, 0), (0, 6, 0), (0, 7, 0), (0, 8, 0), (0, 9, 0), (0, 10, 0), (5, 0, 0)], [], [(0, 0, 9), (1, 0, 1023), (2, 0, 9), (3, 0, 1), (4, 0, 1023), (5, 0, 10), (6, (-2000000000), 2000000000), (7, 0, 1023), (8, 0, 0), (9, 0, 2147483647), (10, 0, 4000000)], [], [], [])] (by decide +kernel) (ρ0 := (fun s => [x0, x1, x2, x3, x4, x5, x6, x7, x8, x9, x10].getD s 0)) hB eF trivial ⟨rfl, ⟨rfl, ⟨rfl, ⟨rfl, ⟨rfl, ⟨rfl, ⟨rfl, ⟨rfl, ⟨rfl, ⟨rfl, ⟨rfl, ⟨hv11, ⟨hv12, trivial⟩⟩⟩⟩⟩⟩⟩⟩⟩⟩⟩⟩⟩ ⟨rfl, trivial⟩ ?_
  refine List.forall_mem_cons.mpr ⟨?_, fun _ h => absurd h List.not_mem_nil⟩
  · intro ρ τ Lc stc hx g1 g2 g3 g4 g5 g6 g7 g8
    have e0 : ρ 0 = x0 := hx 0 (by decide)
    have e1 : ρ 1 = x1 := hx 1 (by decide)
    have e2 : ρ 2 = x2 := hx 2 (by decide)
    have e3 : ρ 3 = x3 := hx 3 (by decide)
    have e4 : ρ 4 = x4 := hx 4 (by decide)
    have e5 : ρ 5 = x5 := hx 5 (by decide)
    have e6 : ρ 6 = x6 := hx 6 (by decide)
    have e7 : ρ 7 = x7 := hx 7 (by decide)
    have e8 : ρ 8 = x8 := hx 8 (by decide)
    have e9 : ρ 9 = x9 := hx 9 (by decide)
    have e10 : ρ 10 = x10 := hx 10 (by decide)
    subst e0
    subst e1
    subst e2
    subst e3
    subst e4
    subst e5
    subst e6
    subst e7
    subst e8
    subst e9
    subst e10
    have g7 := g7 (by decide)
    match Lc, stc, g7, g8 with
    | [v0, v1, v2, v3, v4, v5, v6, v7, v8, v9, v10, v11, v12], [], ⟨hv0, hv1, hv2, hv3, hv4, hv5, hv6, hv7, hv8, hv9, hv10, hv11, hv12, _⟩, _ =>
      cases hv0
      cases hv1
      cases hv2
      cases hv3
      cases hv4
      cases hv5
      cases hv6
      cases hv7
      cases hv8
      cases hv9
      cases hv10
      cases hv11
      exact l0 τ ρ v12 hv12 g1 g2 g3 g4 g5 g6
set_option maxRecDepth 100000 in
theorem sz_m117 {σ : pm_S} {Q : Option Value → pm_S → Prop} (x0 x1 x2 x3 x4 x5 x6 x7 x8 x9 x10 : Int) (v12 : Value) (hv12 : v12.category = 1) (hB : an_GB pm_B σ) (eF : (0 ≤ x0 ∧ x0 ≤ 9) ∧ (0 ≤ x1 ∧ x1 ≤ 1023) ∧ (0 ≤ x2 ∧ x2 ≤ 9) ∧ (0 ≤ x3 ∧ x3 ≤ 1) ∧ (0 ≤ x4 ∧ x4 ≤ 1023) ∧ (0 ≤ x5 ∧ x5 ≤ 10) ∧ ((-2000000000) ≤ x6 ∧ x6 ≤ 2000000000) ∧ (0 ≤ x7 ∧ x7 ≤ 1023) ∧ (0 ≤ x8 ∧ x8 ≤ 0) ∧ (0 ≤ x9 ∧ x9 ≤ 2147483647) ∧ (0 ≤ x10 ∧ x10 ≤ 4000000) ∧ True)
    (l0 : ∀ (τ : pm_S) (y : Nat → Int) (v12 : Value), v12.category = 1 → an_GB pm_B τ → FQ [] σ τ → ((0 ≤ x0 ∧ x0 ≤ 9) ∧ (0 ≤ x1 ∧ x1 ≤ 1023) ∧ (0 ≤ x2 ∧ x2 ≤ 9) ∧ (0 ≤ x3 ∧ x3 ≤ 1) ∧ (0 ≤ x4 ∧ x4 ≤ 1023) ∧ (0 ≤ x5 ∧ x5 ≤ 10) ∧ ((-2000000000) ≤ x6 ∧ x6 ≤ 2000000000) ∧ (0 ≤ x7 ∧ x7 ≤ 1023) ∧ (0 ≤ x8 ∧ x8 ≤ 0) ∧ (0 ≤ x9 ∧ x9 ≤ 2147483647) ∧ (0 ≤ x10 ∧ x10 ≤ 0) ∧ True) → (True) → (True) → (True) → Ok 229 25 128 [.ref 93, .int (Int32.ofInt (x0)), .int (Int32.ofInt (x1)), .int (Int32.ofInt (x2)), .int (Int32.ofInt (x3)), .int (Int32.ofInt (x4)), .int (Int32.ofInt (x5)), .int (Int32.ofInt (x6)), .int (Int32.ofInt (x7)), .int (Int32.ofInt (x8)), .int (Int32.ofInt (x9)), .int (Int32.ofInt (x10)), v12] [] τ Q)
    (l1 : ∀ (τ : pm_S) (y : Nat → Int), an_GB pm_B τ → FQ [] σ τ → ((0 ≤ x0 ∧ x0 ≤ 9) ∧ (0 ≤ x1 ∧ x1 ≤ 1023) ∧ (0 ≤ x2 ∧ x2 ≤ 9) ∧ (0 ≤ x3 ∧ x3 ≤ 1) ∧ (0 ≤ x4 ∧ x4 ≤ 1023) ∧ (0 ≤ x5 ∧ x5 ≤ 10) ∧ ((-2000000000) ≤ x6 ∧ x6 ≤ 2000000000) ∧ (0 ≤ x7 ∧ x7 ≤ 1023) ∧ (0 ≤ x8 ∧ x8 ≤ 0) ∧ (0 ≤ x9 ∧ x9 ≤ 2147483647) ∧ (1 ≤ x10 ∧ x10 ≤ 4000000) ∧ (0 ≤ y 11 ∧ y 11 ≤ 3999999) ∧ True) → (y 11 ≤ x10 + (-1) ∧ (y 11).natAbs < (x10).natAbs ∧ True) → ((an_f 10 (Int32.ofInt (x9)) (Int32.ofInt (x10))).toInt = y 11 ∧ True) → (True) → Ok 229 25 117 [.ref 93, .int (Int32.ofInt (x0)), .int (Int32.ofInt (x1)), .int (Int32.ofInt (x2)), .int (Int32.ofInt (x3)), .int (Int32.ofInt (x4)), .int (Int32.ofInt (x5)), .int (Int32.ofInt (x6)), .int (Int32.ofInt (x7)), .int (Int32.ofInt (x8)), .int (Int32.ofInt (x10)), .int (Int32.ofInt (y 11)), .int (Int32.ofInt (y 11))] [] τ Q)
    : Ok 229 25 117 [.ref 93, .int (Int32.ofInt (x0)), .int (Int32.ofInt (x1)), .int (Int32.ofInt (x2)), .int (Int32.ofInt (x3)), .int (Int32.ofInt (x4)), .int (Int32.ofInt (x5)), .int (Int32.ofInt (x6)), .int (Int32.ofInt (x7)), .int (Int32.ofInt (x8)), .int (Int32.ofInt (x9)), .int (Int32.ofInt (x10)), v12] [] σ Q := by
  refine an_seg (B := pm_B) (F := []) (T := []) (S := []) (fun _ h => absurd h List.not_mem_nil) (k := 229) (d := 24) (cs := [117, 128]) 13 117 11 [(0, 0, 9), (1, 0, 1023), (2, 0, 9), (3, 0, 1), (4, 0, 1023), (5, 0, 10), (6, (-2000000000), 2000000000), (7, 0, 1023), (8, 0, 0), (9, 0, 2147483647), (10, 0, 4000000)] [] [(2, 93, 0), (0, 0, 0), (0, 1, 0), (0, 2, 0), (0, 3, 0), (0, 4, 0), (0, 5, 0), (0, 6, 0), (0, 7, 0), (0, 8, 0), (0, 9, 0), (0, 10, 0), (5, 0, 0)] [] [(128, [(2, 93, 0), (0, 0, 0), (0, 1, 0), (0, 2, 0), (0, 3, 0), (0, 4, 0), (0, 5, 0), (0, 6, 0), (0, 7, 0), (0, 8, 0), (0, 9, 0), (0, 10, 0), (5, 0, 0)], [], [(0, 0, 9), (1, 0, 1023), (2, 0, 9), (3, 0, 1), (4, 0, 1023), (5, 0, 10), (6, (-2000000000), 2000000000), (7, 0, 1023), (8, 0, 0), (9, 0, 2147483647), (10, 0, 0)], [], [], []),
    (117, [(2, 93, 0), (0, 0, 0), (0, 1, 0), (0, 2, 0), (0, 3, 0), (0, 4, 0), (0, 5, 0), (0, 6, 0), (0, 7, 0), (0, 8, 0), (0, 10, 0), (0, 11, 0), (0, 11, 0)], [], [(0, 0, 9), (1, 0, 1023), (2, 0, 9), (3, 0, 1), (4, 0, 1023), (5, 0, 10), (6, (-2000000000), 2000000000), (7, 0, 1023), (8, 0, 0), (9, 0, 2147483647), (10, 1, 4000000), (11, 0, 3999999)], [(1, 11, 10, (-1)), (2, 11, 10, 0)], [(10, (0, 9, 0), (0, 10, 0), 11)], [])] (by decide +kernel) (ρ0 := (fun s => [x0, x1, x2, x3, x4, x5, x6, x7, x8, x9, x10].getD s 0)) hB eF trivial ⟨rfl, ⟨rfl, ⟨rfl, ⟨rfl, ⟨rfl, ⟨rfl, ⟨rfl, ⟨rfl, ⟨rfl, ⟨rfl, ⟨rfl, ⟨rfl, ⟨hv12, trivial⟩⟩⟩⟩⟩⟩⟩⟩⟩⟩⟩⟩⟩ trivial ?_
  refine List.forall_mem_cons.mpr ⟨?_, List.forall_mem_cons.mpr ⟨?_, fun _ h => absurd h List.not_mem_nil⟩⟩
  · intro ρ τ Lc stc hx g1 g2 g3 g4 g5 g6 g7 g8
    have e0 : ρ 0 = x0 := hx 0 (by decide)
    have e1 : ρ 1 = x1 := hx 1 (by decide)
    have e2 : ρ 2 = x2 := hx 2 (by decide)
    have e3 : ρ 3 = x3 := hx 3 (by decide)
    have e4 : ρ 4 = x4 := hx 4 (by decide)
    have e5 : ρ 5 = x5 := hx 5 (by decide)
    have e6 : ρ 6 = x6 := hx 6 (by decide)
    have e7 : ρ 7 = x7 := hx 7 (by decide)
    have e8 : ρ 8 = x8 := hx 8 (by decide)
    have e9 : ρ 9 = x9 := hx 9 (by decide)
    have e10 : ρ 10 = x10 := hx 10 (by decide)
    subst e0
    subst e1
    subst e2
    subst e3
    subst e4
    subst e5
    subst e6
    subst e7
    subst e8
    subst e9
    subst e10
    have g7 := g7 (by decide)
    match Lc, stc, g7, g8 with
    | [v0, v1, v2, v3, v4, v5, v6, v7, v8, v9, v10, v11, v12], [], ⟨hv0, hv1, hv2, hv3, hv4, hv5, hv6, hv7, hv8, hv9, hv10, hv11, hv12, _⟩, _ =>
      cases hv0
      cases hv1
      cases hv2
      cases hv3
      cases hv4
      cases hv5
      cases hv6
      cases hv7
      cases hv8
      cases hv9
      cases hv10
      cases hv11
      exact l0 τ ρ v12 hv12 g1 g2 g3 g4 g5 g6
  · intro ρ τ Lc stc hx g1 g2 g3 g4 g5 g6 g7 g8
    have e0 : ρ 0 = x0 := hx 0 (by decide)
    have e1 : ρ 1 = x1 := hx 1 (by decide)
    have e2 : ρ 2 = x2 := hx 2 (by decide)
    have e3 : ρ 3 = x3 := hx 3 (by decide)
    have e4 : ρ 4 = x4 := hx 4 (by decide)
    have e5 : ρ 5 = x5 := hx 5 (by decide)
    have e6 : ρ 6 = x6 := hx 6 (by decide)
    have e7 : ρ 7 = x7 := hx 7 (by decide)
    have e8 : ρ 8 = x8 := hx 8 (by decide)
    have e9 : ρ 9 = x9 := hx 9 (by decide)
    have e10 : ρ 10 = x10 := hx 10 (by decide)
    subst e0
    subst e1
    subst e2
    subst e3
    subst e4
    subst e5
    subst e6
    subst e7
    subst e8
    subst e9
    subst e10
    have g7 := g7 (by decide)
    match Lc, stc, g7, g8 with
    | [v0, v1, v2, v3, v4, v5, v6, v7, v8, v9, v10, v11, v12], [], ⟨hv0, hv1, hv2, hv3, hv4, hv5, hv6, hv7, hv8, hv9, hv10, hv11, hv12, _⟩, _ =>
      cases hv0
      cases hv1
      cases hv2
      cases hv3
      cases hv4
      cases hv5
      cases hv6
      cases hv7
      cases hv8
      cases hv9
      cases hv10
      cases hv11
      cases hv12
      exact l1 τ ρ  g1 g2 g3 g4 g5 g6
