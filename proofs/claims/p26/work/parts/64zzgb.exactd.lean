/-! debt exactly -/
set_option maxRecDepth 100000 in
theorem zxc_debt_s0 {σ : pm_S} {Q : Option Value → pm_S → Prop} (x0 x1 x2 x3 x4 x5 x6 x7 : Int) (v5 : Value) (hv5 : v5.category = 1) (hB : an_GB pm_B σ) (eF : ((-2147483648) ≤ x0 ∧ x0 ≤ 2147483647) ∧ ((-2147483648) ≤ x1 ∧ x1 ≤ 2147483647) ∧ ((-2147483648) ≤ x2 ∧ x2 ≤ 2147483647) ∧ ((-2147483648) ≤ x3 ∧ x3 ≤ 2147483647) ∧ (0 ≤ x4 ∧ x4 ≤ 10) ∧ (0 ≤ x5 ∧ x5 ≤ 10) ∧ (0 ≤ x6 ∧ x6 ≤ 30) ∧ ((-2147483648) ≤ x7 ∧ x7 ≤ 2147483647) ∧ True) (eC : (σ.1 3 0).toInt = x4 ∧ (σ.1 7 0).toInt = x5 ∧ (σ.1 13 0).toInt = x6 ∧ (σ.1 1 1).toInt = x7 ∧ True)
    (l0 : ∀ (τ : pm_S) (y : Nat → Int) (v5 : Value), v5.category = 1 → an_GB pm_B τ → FQ [(13, 0)] σ τ → (((-2147483648) ≤ x0 ∧ x0 ≤ 2147483647) ∧ ((-2147483648) ≤ x1 ∧ x1 ≤ 2147483647) ∧ ((-2147483648) ≤ x2 ∧ x2 ≤ 2147483647) ∧ ((-2147483648) ≤ x3 ∧ x3 ≤ 2147483647) ∧ (0 ≤ x4 ∧ x4 ≤ 10) ∧ (0 ≤ x5 ∧ x5 ≤ 10) ∧ (0 ≤ x6 ∧ x6 ≤ 30) ∧ ((-2147483648) ≤ x7 ∧ x7 ≤ 2147483647) ∧ True) → (True) → (True) → ((τ.1 1 1).toInt = x7 ∧ (τ.1 3 0).toInt = x4 ∧ (τ.1 7 0).toInt = x5 ∧ (τ.1 13 0).toInt = x6 ∧ True) → Ok 132 23 4 [.ref 0, .int (Int32.ofInt (x0)), .int (Int32.ofInt (x1)), .int (Int32.ofInt (x2)), .int (Int32.ofInt (x3)), v5] [.int (Int32.ofInt (x0)), .ref 7] τ Q)
    : Ok 132 23 0 [.ref 0, .int (Int32.ofInt (x0)), .int (Int32.ofInt (x1)), .int (Int32.ofInt (x2)), .int (Int32.ofInt (x3)), v5] [] σ Q := by
  refine an_seg (B := pm_B) (F := [(13, 0)]) (T := []) (S := []) (fun _ h => absurd h List.not_mem_nil) (k := 132) (d := 22) (cs := [4, 10, 16, 34]) 6 0 8 [(0, (-2147483648), 2147483647), (1, (-2147483648), 2147483647), (2, (-2147483648), 2147483647), (3, (-2147483648), 2147483647), (4, 0, 10), (5, 0, 10), (6, 0, 30), (7, (-2147483648), 2147483647)] [(3, (1, 0, 0), (0, 4, 0)), (7, (1, 0, 0), (0, 5, 0)), (13, (1, 0, 0), (0, 6, 0)), (1, (1, 0, 1), (0, 7, 0))] [(2, 0, 0), (0, 0, 0), (0, 1, 0), (0, 2, 0), (0, 3, 0), (5, 0, 0)] [] [(4, [(2, 0, 0), (0, 0, 0), (0, 1, 0), (0, 2, 0), (0, 3, 0), (5, 0, 0)], [(0, 0, 0), (2, 7, 0)], [(0, (-2147483648), 2147483647), (1, (-2147483648), 2147483647), (2, (-2147483648), 2147483647), (3, (-2147483648), 2147483647), (4, 0, 10), (5, 0, 10), (6, 0, 30), (7, (-2147483648), 2147483647)], [], [], [(1, (1, 0, 1), (0, 7, 0)), (3, (1, 0, 0), (0, 4, 0)), (7, (1, 0, 0), (0, 5, 0)), (13, (1, 0, 0), (0, 6, 0))])] (by decide +kernel) (ρ0 := (fun s => [x0, x1, x2, x3, x4, x5, x6, x7].getD s 0)) hB eF eC ⟨rfl, ⟨rfl, ⟨rfl, ⟨rfl, ⟨rfl, ⟨hv5, trivial⟩⟩⟩⟩⟩⟩ trivial ?_
  refine List.forall_mem_cons.mpr ⟨?_, fun _ h => absurd h List.not_mem_nil⟩
  · intro ρ τ Lc stc hx g1 g2 g3 g4 g5 g6 g7 g8
    have e0 : ρ 0 = x0 := hx 0 (by decide)
    have e1 : ρ 1 = x1 := hx 1 (by decide)
    have e2 : ρ 2 = x2 := hx 2 (by decide)
    have e3 : ρ 3 = x3 := hx 3 (by decide)
    have e4 : ρ 4 = x4 := hx 4 (by decide)
    have e5 : ρ 5 = x5 := hx 5 (by decide)
    have e6 : ρ 6 = x6 := hx 6 (by decide)
    have e7 : ρ 7 = x7 := hx 7 (by decide)
    subst e0
    subst e1
    subst e2
    subst e3
    subst e4
    subst e5
    subst e6
    subst e7
    have g7 := g7 (by decide)
    match Lc, stc, g7, g8 with
    | [v0, v1, v2, v3, v4, v5], [w0, w1], ⟨hv0, hv1, hv2, hv3, hv4, hv5, _⟩, ⟨hw0, hw1, _⟩ =>
      cases hv0
      cases hv1
      cases hv2
      cases hv3
      cases hv4
      cases hw0
      cases hw1
      exact l0 τ ρ v5 hv5 g1 g2 g3 g4 g5 g6
set_option maxRecDepth 100000 in
theorem zxc_debt_s1 {σ : pm_S} {Q : Option Value → pm_S → Prop} (x0 x1 x2 x3 x4 x5 x6 x7 : Int) (v5 : Value) (hv5 : v5.category = 1) (hB : an_GB pm_B σ) (eF : ((-2147483648) ≤ x0 ∧ x0 ≤ 2147483647) ∧ ((-2147483648) ≤ x1 ∧ x1 ≤ 2147483647) ∧ ((-2147483648) ≤ x2 ∧ x2 ≤ 2147483647) ∧ ((-2147483648) ≤ x3 ∧ x3 ≤ 2147483647) ∧ (0 ≤ x4 ∧ x4 ≤ 10) ∧ (0 ≤ x5 ∧ x5 ≤ 10) ∧ (0 ≤ x6 ∧ x6 ≤ 30) ∧ ((-2147483648) ≤ x7 ∧ x7 ≤ 2147483647) ∧ True) (eC : (σ.1 3 0).toInt = x4 ∧ (σ.1 7 0).toInt = x5 ∧ (σ.1 13 0).toInt = x6 ∧ (σ.1 1 1).toInt = x7 ∧ True)
    (l0 : ∀ (τ : pm_S) (y : Nat → Int), an_GB pm_B τ → FQ [(13, 0)] σ τ → (((-2147483648) ≤ x0 ∧ x0 ≤ 2147483647) ∧ ((-2147483648) ≤ x1 ∧ x1 ≤ 2147483647) ∧ ((-2147483648) ≤ x2 ∧ x2 ≤ 2147483647) ∧ ((-2147483648) ≤ x3 ∧ x3 ≤ 2147483647) ∧ (0 ≤ x4 ∧ x4 ≤ 10) ∧ (0 ≤ x5 ∧ x5 ≤ 10) ∧ (0 ≤ x6 ∧ x6 ≤ 30) ∧ ((-2147483648) ≤ x7 ∧ x7 ≤ 2147483647) ∧ True) → (True) → (True) → ((τ.1 1 1).toInt = x7 ∧ (τ.1 3 0).toInt = x4 ∧ (τ.1 7 0).toInt = x5 ∧ (τ.1 13 0).toInt = x6 ∧ True) → Q (some (.int (Int32.ofInt (-1)))) τ)
    : Ok 132 23 5 [.ref 0, .int (Int32.ofInt (x0)), .int (Int32.ofInt (x1)), .int (Int32.ofInt (x2)), .int (Int32.ofInt (x3)), v5] [.int (Int32.ofInt 0)] σ Q := by
  refine an_seg (B := pm_B) (F := [(13, 0)]) (T := []) (S := []) (fun _ h => absurd h List.not_mem_nil) (k := 132) (d := 22) (cs := [4, 10, 16, 34]) 9 5 8 [(0, (-2147483648), 2147483647), (1, (-2147483648), 2147483647), (2, (-2147483648), 2147483647), (3, (-2147483648), 2147483647), (4, 0, 10), (5, 0, 10), (6, 0, 30), (7, (-2147483648), 2147483647)] [(3, (1, 0, 0), (0, 4, 0)), (7, (1, 0, 0), (0, 5, 0)), (13, (1, 0, 0), (0, 6, 0)), (1, (1, 0, 1), (0, 7, 0))] [(2, 0, 0), (0, 0, 0), (0, 1, 0), (0, 2, 0), (0, 3, 0), (5, 0, 0)] [(1, 0, 0)] [(9999, [], [(1, 0, (-1))], [(0, (-2147483648), 2147483647), (1, (-2147483648), 2147483647), (2, (-2147483648), 2147483647), (3, (-2147483648), 2147483647), (4, 0, 10), (5, 0, 10), (6, 0, 30), (7, (-2147483648), 2147483647)], [], [], [(1, (1, 0, 1), (0, 7, 0)), (3, (1, 0, 0), (0, 4, 0)), (7, (1, 0, 0), (0, 5, 0)), (13, (1, 0, 0), (0, 6, 0))])] (by decide +kernel) (ρ0 := (fun s => [x0, x1, x2, x3, x4, x5, x6, x7].getD s 0)) hB eF eC ⟨rfl, ⟨rfl, ⟨rfl, ⟨rfl, ⟨rfl, ⟨hv5, trivial⟩⟩⟩⟩⟩⟩ ⟨rfl, trivial⟩ ?_
  refine List.forall_mem_cons.mpr ⟨?_, fun _ h => absurd h List.not_mem_nil⟩
  · intro ρ τ Lc stc hx g1 g2 g3 g4 g5 g6 g7 g8
    have e0 : ρ 0 = x0 := hx 0 (by decide)
    have e1 : ρ 1 = x1 := hx 1 (by decide)
    have e2 : ρ 2 = x2 := hx 2 (by decide)
    have e3 : ρ 3 = x3 := hx 3 (by decide)
    have e4 : ρ 4 = x4 := hx 4 (by decide)
    have e5 : ρ 5 = x5 := hx 5 (by decide)
    have e6 : ρ 6 = x6 := hx 6 (by decide)
    have e7 : ρ 7 = x7 := hx 7 (by decide)
    subst e0
    subst e1
    subst e2
    subst e3
    subst e4
    subst e5
    subst e6
    subst e7
    match stc, g8 with
    | [_], ⟨h, _⟩ => cases h; exact l0 τ ρ g1 g2 g3 g4 g5 g6
set_option maxRecDepth 100000 in
theorem zxc_debt_s2 {σ : pm_S} {Q : Option Value → pm_S → Prop} (x0 x1 x2 x3 x4 x5 x6 x7 : Int) (v5 : Value) (hv5 : v5.category = 1) (hB : an_GB pm_B σ) (eF : (0 ≤ x0 ∧ x0 ≤ 9) ∧ ((-2147483648) ≤ x1 ∧ x1 ≤ 2147483647) ∧ ((-2147483648) ≤ x2 ∧ x2 ≤ 2147483647) ∧ ((-2147483648) ≤ x3 ∧ x3 ≤ 2147483647) ∧ (0 ≤ x4 ∧ x4 ≤ 10) ∧ (0 ≤ x5 ∧ x5 ≤ 10) ∧ (0 ≤ x6 ∧ x6 ≤ 30) ∧ ((-2147483648) ≤ x7 ∧ x7 ≤ 2147483647) ∧ True) (eC : (σ.1 3 0).toInt = x4 ∧ (σ.1 7 0).toInt = x5 ∧ (σ.1 13 0).toInt = x6 ∧ (σ.1 1 1).toInt = x7 ∧ True)
    (l0 : ∀ (τ : pm_S) (y : Nat → Int) (v5 : Value), v5.category = 1 → an_GB pm_B τ → FQ [(13, 0)] σ τ → ((0 ≤ x0 ∧ x0 ≤ 9) ∧ ((-2147483648) ≤ x1 ∧ x1 ≤ 2147483647) ∧ ((-2147483648) ≤ x2 ∧ x2 ≤ 2147483647) ∧ ((-2147483648) ≤ x3 ∧ x3 ≤ 2147483647) ∧ (0 ≤ x4 ∧ x4 ≤ 10) ∧ (0 ≤ x5 ∧ x5 ≤ 10) ∧ (0 ≤ x6 ∧ x6 ≤ 30) ∧ ((-2147483648) ≤ x7 ∧ x7 ≤ 2147483647) ∧ True) → (True) → (True) → ((τ.1 1 1).toInt = x7 ∧ (τ.1 3 0).toInt = x4 ∧ (τ.1 7 0).toInt = x5 ∧ (τ.1 13 0).toInt = x6 ∧ True) → Ok 132 23 10 [.ref 0, .int (Int32.ofInt (x0)), .int (Int32.ofInt (x1)), .int (Int32.ofInt (x2)), .int (Int32.ofInt (x3)), v5] [.int (Int32.ofInt (x1)), .ref 7] τ Q)
    : Ok 132 23 5 [.ref 0, .int (Int32.ofInt (x0)), .int (Int32.ofInt (x1)), .int (Int32.ofInt (x2)), .int (Int32.ofInt (x3)), v5] [.int (Int32.ofInt 1)] σ Q := by
  refine an_seg (B := pm_B) (F := [(13, 0)]) (T := []) (S := []) (fun _ h => absurd h List.not_mem_nil) (k := 132) (d := 22) (cs := [4, 10, 16, 34]) 7 5 8 [(0, 0, 9), (1, (-2147483648), 2147483647), (2, (-2147483648), 2147483647), (3, (-2147483648), 2147483647), (4, 0, 10), (5, 0, 10), (6, 0, 30), (7, (-2147483648), 2147483647)] [(3, (1, 0, 0), (0, 4, 0)), (7, (1, 0, 0), (0, 5, 0)), (13, (1, 0, 0), (0, 6, 0)), (1, (1, 0, 1), (0, 7, 0))] [(2, 0, 0), (0, 0, 0), (0, 1, 0), (0, 2, 0), (0, 3, 0), (5, 0, 0)] [(1, 0, 1)] [(10, [(2, 0, 0), (0, 0, 0), (0, 1, 0), (0, 2, 0), (0, 3, 0), (5, 0, 0)], [(0, 1, 0), (2, 7, 0)], [(0, 0, 9), (1, (-2147483648), 2147483647), (2, (-2147483648), 2147483647), (3, (-2147483648), 2147483647), (4, 0, 10), (5, 0, 10), (6, 0, 30), (7, (-2147483648), 2147483647)], [], [], [(1, (1, 0, 1), (0, 7, 0)), (3, (1, 0, 0), (0, 4, 0)), (7, (1, 0, 0), (0, 5, 0)), (13, (1, 0, 0), (0, 6, 0))])] (by decide +kernel) (ρ0 := (fun s => [x0, x1, x2, x3, x4, x5, x6, x7].getD s 0)) hB eF eC ⟨rfl, ⟨rfl, ⟨rfl, ⟨rfl, ⟨rfl, ⟨hv5, trivial⟩⟩⟩⟩⟩⟩ ⟨rfl, trivial⟩ ?_
  refine List.forall_mem_cons.mpr ⟨?_, fun _ h => absurd h List.not_mem_nil⟩
  · intro ρ τ Lc stc hx g1 g2 g3 g4 g5 g6 g7 g8
    have e0 : ρ 0 = x0 := hx 0 (by decide)
    have e1 : ρ 1 = x1 := hx 1 (by decide)
    have e2 : ρ 2 = x2 := hx 2 (by decide)
    have e3 : ρ 3 = x3 := hx 3 (by decide)
    have e4 : ρ 4 = x4 := hx 4 (by decide)
    have e5 : ρ 5 = x5 := hx 5 (by decide)
    have e6 : ρ 6 = x6 := hx 6 (by decide)
    have e7 : ρ 7 = x7 := hx 7 (by decide)
    subst e0
    subst e1
    subst e2
    subst e3
    subst e4
    subst e5
    subst e6
    subst e7
    have g7 := g7 (by decide)
    match Lc, stc, g7, g8 with
    | [v0, v1, v2, v3, v4, v5], [w0, w1], ⟨hv0, hv1, hv2, hv3, hv4, hv5, _⟩, ⟨hw0, hw1, _⟩ =>
      cases hv0
      cases hv1
      cases hv2
      cases hv3
      cases hv4
      cases hw0
      cases hw1
      exact l0 τ ρ v5 hv5 g1 g2 g3 g4 g5 g6
set_option maxRecDepth 100000 in
theorem zxc_debt_s3 {σ : pm_S} {Q : Option Value → pm_S → Prop} (x0 x1 x2 x3 x4 x5 x6 x7 : Int) (v5 : Value) (hv5 : v5.category = 1) (hB : an_GB pm_B σ) (eF : (0 ≤ x0 ∧ x0 ≤ 9) ∧ ((-2147483648) ≤ x1 ∧ x1 ≤ 2147483647) ∧ ((-2147483648) ≤ x2 ∧ x2 ≤ 2147483647) ∧ ((-2147483648) ≤ x3 ∧ x3 ≤ 2147483647) ∧ (0 ≤ x4 ∧ x4 ≤ 10) ∧ (0 ≤ x5 ∧ x5 ≤ 10) ∧ (0 ≤ x6 ∧ x6 ≤ 30) ∧ ((-2147483648) ≤ x7 ∧ x7 ≤ 2147483647) ∧ True) (eC : (σ.1 3 0).toInt = x4 ∧ (σ.1 7 0).toInt = x5 ∧ (σ.1 13 0).toInt = x6 ∧ (σ.1 1 1).toInt = x7 ∧ True)
    (l0 : ∀ (τ : pm_S) (y : Nat → Int), an_GB pm_B τ → FQ [(13, 0)] σ τ → ((0 ≤ x0 ∧ x0 ≤ 9) ∧ ((-2147483648) ≤ x1 ∧ x1 ≤ 2147483647) ∧ ((-2147483648) ≤ x2 ∧ x2 ≤ 2147483647) ∧ ((-2147483648) ≤ x3 ∧ x3 ≤ 2147483647) ∧ (0 ≤ x4 ∧ x4 ≤ 10) ∧ (0 ≤ x5 ∧ x5 ≤ 10) ∧ (0 ≤ x6 ∧ x6 ≤ 30) ∧ ((-2147483648) ≤ x7 ∧ x7 ≤ 2147483647) ∧ True) → (True) → (True) → ((τ.1 1 1).toInt = x7 ∧ (τ.1 3 0).toInt = x4 ∧ (τ.1 7 0).toInt = x5 ∧ (τ.1 13 0).toInt = x6 ∧ True) → Q (some (.int (Int32.ofInt (-1)))) τ)
    : Ok 132 23 11 [.ref 0, .int (Int32.ofInt (x0)), .int (Int32.ofInt (x1)), .int (Int32.ofInt (x2)), .int (Int32.ofInt (x3)), v5] [.int (Int32.ofInt 0)] σ Q := by
  refine an_seg (B := pm_B) (F := [(13, 0)]) (T := []) (S := []) (fun _ h => absurd h List.not_mem_nil) (k := 132) (d := 22) (cs := [4, 10, 16, 34]) 9 11 8 [(0, 0, 9), (1, (-2147483648), 2147483647), (2, (-2147483648), 2147483647), (3, (-2147483648), 2147483647), (4, 0, 10), (5, 0, 10), (6, 0, 30), (7, (-2147483648), 2147483647)] [(3, (1, 0, 0), (0, 4, 0)), (7, (1, 0, 0), (0, 5, 0)), (13, (1, 0, 0), (0, 6, 0)), (1, (1, 0, 1), (0, 7, 0))] [(2, 0, 0), (0, 0, 0), (0, 1, 0), (0, 2, 0), (0, 3, 0), (5, 0, 0)] [(1, 0, 0)] [(9999, [], [(1, 0, (-1))], [(0, 0, 9), (1, (-2147483648), 2147483647), (2, (-2147483648), 2147483647), (3, (-2147483648), 2147483647), (4, 0, 10), (5, 0, 10), (6, 0, 30), (7, (-2147483648), 2147483647)], [], [], [(1, (1, 0, 1), (0, 7, 0)), (3, (1, 0, 0), (0, 4, 0)), (7, (1, 0, 0), (0, 5, 0)), (13, (1, 0, 0), (0, 6, 0))])] (by decide +kernel) (ρ0 := (fun s => [x0, x1, x2, x3, x4, x5, x6, x7].getD s 0)) hB eF eC ⟨rfl, ⟨rfl, ⟨rfl, ⟨rfl, ⟨rfl, ⟨hv5, trivial⟩⟩⟩⟩⟩⟩ ⟨rfl, trivial⟩ ?_
  refine List.forall_mem_cons.mpr ⟨?_, fun _ h => absurd h List.not_mem_nil⟩
  · intro ρ τ Lc stc hx g1 g2 g3 g4 g5 g6 g7 g8
    have e0 : ρ 0 = x0 := hx 0 (by decide)
    have e1 : ρ 1 = x1 := hx 1 (by decide)
    have e2 : ρ 2 = x2 := hx 2 (by decide)
    have e3 : ρ 3 = x3 := hx 3 (by decide)
    have e4 : ρ 4 = x4 := hx 4 (by decide)
    have e5 : ρ 5 = x5 := hx 5 (by decide)
    have e6 : ρ 6 = x6 := hx 6 (by decide)
    have e7 : ρ 7 = x7 := hx 7 (by decide)
    subst e0
    subst e1
    subst e2
    subst e3
    subst e4
    subst e5
    subst e6
    subst e7
    match stc, g8 with
    | [_], ⟨h, _⟩ => cases h; exact l0 τ ρ g1 g2 g3 g4 g5 g6
set_option maxRecDepth 100000 in
theorem zxc_debt_s4 {σ : pm_S} {Q : Option Value → pm_S → Prop} (x0 x1 x2 x3 x4 x5 x6 x7 : Int) (v5 : Value) (hv5 : v5.category = 1) (hB : an_GB pm_B σ) (eF : (0 ≤ x0 ∧ x0 ≤ 9) ∧ (0 ≤ x1 ∧ x1 ≤ 9) ∧ ((-2147483648) ≤ x2 ∧ x2 ≤ 2147483647) ∧ ((-2147483648) ≤ x3 ∧ x3 ≤ 2147483647) ∧ (0 ≤ x4 ∧ x4 ≤ 10) ∧ (0 ≤ x5 ∧ x5 ≤ 10) ∧ (0 ≤ x6 ∧ x6 ≤ 30) ∧ ((-2147483648) ≤ x7 ∧ x7 ≤ 2147483647) ∧ True) (eC : (σ.1 3 0).toInt = x4 ∧ (σ.1 7 0).toInt = x5 ∧ (σ.1 13 0).toInt = x6 ∧ (σ.1 1 1).toInt = x7 ∧ True)
    (l0 : ∀ (τ : pm_S) (y : Nat → Int) (v5 : Value), v5.category = 1 → an_GB pm_B τ → FQ [(13, 0)] σ τ → ((0 ≤ x0 ∧ x0 ≤ 9) ∧ (0 ≤ x1 ∧ x1 ≤ 9) ∧ ((-2147483648) ≤ x2 ∧ x2 ≤ 2147483647) ∧ ((-2147483648) ≤ x3 ∧ x3 ≤ 2147483647) ∧ (0 ≤ x4 ∧ x4 ≤ 10) ∧ (0 ≤ x5 ∧ x5 ≤ 10) ∧ (0 ≤ x6 ∧ x6 ≤ 30) ∧ ((-2147483648) ≤ x7 ∧ x7 ≤ 2147483647) ∧ True) → (True) → (True) → ((τ.1 1 1).toInt = x7 ∧ (τ.1 3 0).toInt = x4 ∧ (τ.1 7 0).toInt = x5 ∧ (τ.1 13 0).toInt = x6 ∧ True) → Ok 132 23 16 [.ref 0, .int (Int32.ofInt (x0)), .int (Int32.ofInt (x1)), .int (Int32.ofInt (x2)), .int (Int32.ofInt (x3)), v5] [.int (Int32.ofInt (x3)), .ref 3] τ Q)
    : Ok 132 23 11 [.ref 0, .int (Int32.ofInt (x0)), .int (Int32.ofInt (x1)), .int (Int32.ofInt (x2)), .int (Int32.ofInt (x3)), v5] [.int (Int32.ofInt 1)] σ Q := by
  refine an_seg (B := pm_B) (F := [(13, 0)]) (T := []) (S := []) (fun _ h => absurd h List.not_mem_nil) (k := 132) (d := 22) (cs := [4, 10, 16, 34]) 7 11 8 [(0, 0, 9), (1, 0, 9), (2, (-2147483648), 2147483647), (3, (-2147483648), 2147483647), (4, 0, 10), (5, 0, 10), (6, 0, 30), (7, (-2147483648), 2147483647)] [(3, (1, 0, 0), (0, 4, 0)), (7, (1, 0, 0), (0, 5, 0)), (13, (1, 0, 0), (0, 6, 0)), (1, (1, 0, 1), (0, 7, 0))] [(2, 0, 0), (0, 0, 0), (0, 1, 0), (0, 2, 0), (0, 3, 0), (5, 0, 0)] [(1, 0, 1)] [(16, [(2, 0, 0), (0, 0, 0), (0, 1, 0), (0, 2, 0), (0, 3, 0), (5, 0, 0)], [(0, 3, 0), (2, 3, 0)], [(0, 0, 9), (1, 0, 9), (2, (-2147483648), 2147483647), (3, (-2147483648), 2147483647), (4, 0, 10), (5, 0, 10), (6, 0, 30), (7, (-2147483648), 2147483647)], [], [], [(1, (1, 0, 1), (0, 7, 0)), (3, (1, 0, 0), (0, 4, 0)), (7, (1, 0, 0), (0, 5, 0)), (13, (1, 0, 0), (0, 6, 0))])] (by decide +kernel) (ρ0 := (fun s => [x0, x1, x2, x3, x4, x5, x6, x7].getD s 0)) hB eF eC ⟨rfl, ⟨rfl, ⟨rfl, ⟨rfl, ⟨rfl, ⟨hv5, trivial⟩⟩⟩⟩⟩⟩ ⟨rfl, trivial⟩ ?_
  refine List.forall_mem_cons.mpr ⟨?_, fun _ h => absurd h List.not_mem_nil⟩
  · intro ρ τ Lc stc hx g1 g2 g3 g4 g5 g6 g7 g8
    have e0 : ρ 0 = x0 := hx 0 (by decide)
    have e1 : ρ 1 = x1 := hx 1 (by decide)
    have e2 : ρ 2 = x2 := hx 2 (by decide)
    have e3 : ρ 3 = x3 := hx 3 (by decide)
    have e4 : ρ 4 = x4 := hx 4 (by decide)
    have e5 : ρ 5 = x5 := hx 5 (by decide)
    have e6 : ρ 6 = x6 := hx 6 (by decide)
    have e7 : ρ 7 = x7 := hx 7 (by decide)
    subst e0
    subst e1
    subst e2
    subst e3
    subst e4
    subst e5
    subst e6
    subst e7
    have g7 := g7 (by decide)
    match Lc, stc, g7, g8 with
    | [v0, v1, v2, v3, v4, v5], [w0, w1], ⟨hv0, hv1, hv2, hv3, hv4, hv5, _⟩, ⟨hw0, hw1, _⟩ =>
      cases hv0
      cases hv1
      cases hv2
      cases hv3
      cases hv4
      cases hw0
      cases hw1
      exact l0 τ ρ v5 hv5 g1 g2 g3 g4 g5 g6
set_option maxRecDepth 100000 in
theorem zxc_debt_s5 {σ : pm_S} {Q : Option Value → pm_S → Prop} (x0 x1 x2 x3 x4 x5 x6 x7 : Int) (v5 : Value) (hv5 : v5.category = 1) (hB : an_GB pm_B σ) (eF : (0 ≤ x0 ∧ x0 ≤ 9) ∧ (0 ≤ x1 ∧ x1 ≤ 9) ∧ ((-2147483648) ≤ x2 ∧ x2 ≤ 2147483647) ∧ ((-2147483648) ≤ x3 ∧ x3 ≤ 2147483647) ∧ (0 ≤ x4 ∧ x4 ≤ 10) ∧ (0 ≤ x5 ∧ x5 ≤ 10) ∧ (0 ≤ x6 ∧ x6 ≤ 30) ∧ ((-2147483648) ≤ x7 ∧ x7 ≤ 2147483647) ∧ True) (eC : (σ.1 3 0).toInt = x4 ∧ (σ.1 7 0).toInt = x5 ∧ (σ.1 13 0).toInt = x6 ∧ (σ.1 1 1).toInt = x7 ∧ True)
    (l0 : ∀ (τ : pm_S) (y : Nat → Int), an_GB pm_B τ → FQ [(13, 0)] σ τ → ((0 ≤ x0 ∧ x0 ≤ 9) ∧ (0 ≤ x1 ∧ x1 ≤ 9) ∧ ((-2147483648) ≤ x2 ∧ x2 ≤ 2147483647) ∧ ((-2147483648) ≤ x3 ∧ x3 ≤ 2147483647) ∧ (0 ≤ x4 ∧ x4 ≤ 10) ∧ (0 ≤ x5 ∧ x5 ≤ 10) ∧ (0 ≤ x6 ∧ x6 ≤ 30) ∧ ((-2147483648) ≤ x7 ∧ x7 ≤ 2147483647) ∧ True) → (True) → (True) → ((τ.1 1 1).toInt = x7 ∧ (τ.1 3 0).toInt = x4 ∧ (τ.1 7 0).toInt = x5 ∧ (τ.1 13 0).toInt = x6 ∧ True) → Q (some (.int (Int32.ofInt (-1)))) τ)
    : Ok 132 23 17 [.ref 0, .int (Int32.ofInt (x0)), .int (Int32.ofInt (x1)), .int (Int32.ofInt (x2)), .int (Int32.ofInt (x3)), v5] [.int (Int32.ofInt 0)] σ Q := by
  refine an_seg (B := pm_B) (F := [(13, 0)]) (T := []) (S := []) (fun _ h => absurd h List.not_mem_nil) (k := 132) (d := 22) (cs := [4, 10, 16, 34]) 9 17 8 [(0, 0, 9), (1, 0, 9), (2, (-2147483648), 2147483647), (3, (-2147483648), 2147483647), (4, 0, 10), (5, 0, 10), (6, 0, 30), (7, (-2147483648), 2147483647)] [(3, (1, 0, 0), (0, 4, 0)), (7, (1, 0, 0), (0, 5, 0)), (13, (1, 0, 0), (0, 6, 0)), (1, (1, 0, 1), (0, 7, 0))] [(2, 0, 0), (0, 0, 0), (0, 1, 0), (0, 2, 0), (0, 3, 0), (5, 0, 0)] [(1, 0, 0)] [(9999, [], [(1, 0, (-1))], [(0, 0, 9), (1, 0, 9), (2, (-2147483648), 2147483647), (3, (-2147483648), 2147483647), (4, 0, 10), (5, 0, 10), (6, 0, 30), (7, (-2147483648), 2147483647)], [], [], [(1, (1, 0, 1), (0, 7, 0)), (3, (1, 0, 0), (0, 4, 0)), (7, (1, 0, 0), (0, 5, 0)), (13, (1, 0, 0), (0, 6, 0))])] (by decide +kernel) (ρ0 := (fun s => [x0, x1, x2, x3, x4, x5, x6, x7].getD s 0)) hB eF eC ⟨rfl, ⟨rfl, ⟨rfl, ⟨rfl, ⟨rfl, ⟨hv5, trivial⟩⟩⟩⟩⟩⟩ ⟨rfl, trivial⟩ ?_
  refine List.forall_mem_cons.mpr ⟨?_, fun _ h => absurd h List.not_mem_nil⟩
  · intro ρ τ Lc stc hx g1 g2 g3 g4 g5 g6 g7 g8
    have e0 : ρ 0 = x0 := hx 0 (by decide)
    have e1 : ρ 1 = x1 := hx 1 (by decide)
    have e2 : ρ 2 = x2 := hx 2 (by decide)
    have e3 : ρ 3 = x3 := hx 3 (by decide)
    have e4 : ρ 4 = x4 := hx 4 (by decide)
    have e5 : ρ 5 = x5 := hx 5 (by decide)
    have e6 : ρ 6 = x6 := hx 6 (by decide)
    have e7 : ρ 7 = x7 := hx 7 (by decide)
    subst e0
    subst e1
    subst e2
    subst e3
    subst e4
    subst e5
    subst e6
    subst e7
    match stc, g8 with
    | [_], ⟨h, _⟩ => cases h; exact l0 τ ρ g1 g2 g3 g4 g5 g6
set_option maxRecDepth 100000 in
theorem zxc_debt_s6 {σ : pm_S} {Q : Option Value → pm_S → Prop} (x0 x1 x2 x3 x4 x5 x6 x7 : Int) (v5 : Value) (hv5 : v5.category = 1) (hB : an_GB pm_B σ) (eF : (0 ≤ x0 ∧ x0 ≤ 9) ∧ (0 ≤ x1 ∧ x1 ≤ 9) ∧ ((-2147483648) ≤ x2 ∧ x2 ≤ 2147483647) ∧ (0 ≤ x3 ∧ x3 ≤ 9) ∧ (0 ≤ x4 ∧ x4 ≤ 10) ∧ (0 ≤ x5 ∧ x5 ≤ 10) ∧ (0 ≤ x6 ∧ x6 ≤ 30) ∧ ((-2147483648) ≤ x7 ∧ x7 ≤ 2147483647) ∧ True) (eC : (σ.1 3 0).toInt = x4 ∧ (σ.1 7 0).toInt = x5 ∧ (σ.1 13 0).toInt = x6 ∧ (σ.1 1 1).toInt = x7 ∧ True)
    (l0 : ∀ (τ : pm_S) (y : Nat → Int), an_GB pm_B τ → FQ [(13, 0)] σ τ → ((0 ≤ x0 ∧ x0 ≤ 9) ∧ (0 ≤ x1 ∧ x1 ≤ 9) ∧ ((-2147483648) ≤ x2 ∧ x2 ≤ 2147483647) ∧ (0 ≤ x3 ∧ x3 ≤ 9) ∧ (0 ≤ x4 ∧ x4 ≤ 10) ∧ (0 ≤ x5 ∧ x5 ≤ 10) ∧ (0 ≤ x6 ∧ x6 ≤ 30) ∧ ((-2147483648) ≤ x7 ∧ x7 ≤ 2147483647) ∧ True) → (True) → (True) → ((τ.1 1 1).toInt = x7 ∧ (τ.1 3 0).toInt = x4 ∧ (τ.1 7 0).toInt = x5 ∧ (τ.1 13 0).toInt = x6 ∧ True) → Ok 132 23 34 [.ref 0, .int (Int32.ofInt (x0)), .int (Int32.ofInt (x1)), .int (Int32.ofInt (x2)), .int (Int32.ofInt (x3)), .int (Int32.ofInt 1)] [.int (Int32.ofInt (x7)), .int (Int32.ofInt (x3)), .int (Int32.ofInt (x2)), .int (Int32.ofInt (x1)), .int (Int32.ofInt (x0)), .ref 13] τ Q)
    : Ok 132 23 17 [.ref 0, .int (Int32.ofInt (x0)), .int (Int32.ofInt (x1)), .int (Int32.ofInt (x2)), .int (Int32.ofInt (x3)), v5] [.int (Int32.ofInt 1)] σ Q := by
  refine an_seg (B := pm_B) (F := [(13, 0)]) (T := []) (S := []) (fun _ h => absurd h List.not_mem_nil) (k := 132) (d := 22) (cs := [4, 10, 16, 34]) 18 17 8 [(0, 0, 9), (1, 0, 9), (2, (-2147483648), 2147483647), (3, 0, 9), (4, 0, 10), (5, 0, 10), (6, 0, 30), (7, (-2147483648), 2147483647)] [(3, (1, 0, 0), (0, 4, 0)), (7, (1, 0, 0), (0, 5, 0)), (13, (1, 0, 0), (0, 6, 0)), (1, (1, 0, 1), (0, 7, 0))] [(2, 0, 0), (0, 0, 0), (0, 1, 0), (0, 2, 0), (0, 3, 0), (5, 0, 0)] [(1, 0, 1)] [(34, [(2, 0, 0), (0, 0, 0), (0, 1, 0), (0, 2, 0), (0, 3, 0), (1, 0, 1)], [(0, 7, 0), (0, 3, 0), (0, 2, 0), (0, 1, 0), (0, 0, 0), (2, 13, 0)], [(0, 0, 9), (1, 0, 9), (2, (-2147483648), 2147483647), (3, 0, 9), (4, 0, 10), (5, 0, 10), (6, 0, 30), (7, (-2147483648), 2147483647)], [], [], [(1, (1, 0, 1), (0, 7, 0)), (3, (1, 0, 0), (0, 4, 0)), (7, (1, 0, 0), (0, 5, 0)), (13, (1, 0, 0), (0, 6, 0))])] (by decide +kernel) (ρ0 := (fun s => [x0, x1, x2, x3, x4, x5, x6, x7].getD s 0)) hB eF eC ⟨rfl, ⟨rfl, ⟨rfl, ⟨rfl, ⟨rfl, ⟨hv5, trivial⟩⟩⟩⟩⟩⟩ ⟨rfl, trivial⟩ ?_
  refine List.forall_mem_cons.mpr ⟨?_, fun _ h => absurd h List.not_mem_nil⟩
  · intro ρ τ Lc stc hx g1 g2 g3 g4 g5 g6 g7 g8
    have e0 : ρ 0 = x0 := hx 0 (by decide)
    have e1 : ρ 1 = x1 := hx 1 (by decide)
    have e2 : ρ 2 = x2 := hx 2 (by decide)
    have e3 : ρ 3 = x3 := hx 3 (by decide)
    have e4 : ρ 4 = x4 := hx 4 (by decide)
    have e5 : ρ 5 = x5 := hx 5 (by decide)
    have e6 : ρ 6 = x6 := hx 6 (by decide)
    have e7 : ρ 7 = x7 := hx 7 (by decide)
    subst e0
    subst e1
    subst e2
    subst e3
    subst e4
    subst e5
    subst e6
    subst e7
    have g7 := g7 (by decide)
    match Lc, stc, g7, g8 with
    | [v0, v1, v2, v3, v4, v5], [w0, w1, w2, w3, w4, w5], ⟨hv0, hv1, hv2, hv3, hv4, hv5, _⟩, ⟨hw0, hw1, hw2, hw3, hw4, hw5, _⟩ =>
      cases hv0
      cases hv1
      cases hv2
      cases hv3
      cases hv4
      cases hv5
      cases hw0
      cases hw1
      cases hw2
      cases hw3
      cases hw4
      cases hw5
      exact l0 τ ρ  g1 g2 g3 g4 g5 g6
set_option maxRecDepth 100000 in
theorem zxc_debt_s7 {σ : pm_S} {Q : Option Value → pm_S → Prop} (x0 x1 x2 x3 x4 x5 x6 x7 : Int)  (hB : an_GB pm_B σ) (eF : (0 ≤ x0 ∧ x0 ≤ 9) ∧ (0 ≤ x1 ∧ x1 ≤ 9) ∧ ((-2147483648) ≤ x2 ∧ x2 ≤ 2147483647) ∧ (0 ≤ x3 ∧ x3 ≤ 9) ∧ (0 ≤ x4 ∧ x4 ≤ 10) ∧ (0 ≤ x5 ∧ x5 ≤ 10) ∧ (0 ≤ x6 ∧ x6 ≤ 30) ∧ ((-2147483648) ≤ x7 ∧ x7 ≤ 2147483647) ∧ True) (eC : (σ.1 3 0).toInt = x4 ∧ (σ.1 7 0).toInt = x5 ∧ (σ.1 13 0).toInt = x6 ∧ (σ.1 1 1).toInt = x7 ∧ True)
    (l0 : ∀ (τ : pm_S) (y : Nat → Int), an_GB pm_B τ → FQ [(13, 0)] σ τ → ((0 ≤ x0 ∧ x0 ≤ 9) ∧ (0 ≤ x1 ∧ x1 ≤ 9) ∧ ((-2147483648) ≤ x2 ∧ x2 ≤ 2147483647) ∧ (0 ≤ x3 ∧ x3 ≤ 9) ∧ (0 ≤ x4 ∧ x4 ≤ 10) ∧ (0 ≤ x5 ∧ x5 ≤ 10) ∧ (0 ≤ x6 ∧ x6 ≤ 30) ∧ ((-2147483648) ≤ x7 ∧ x7 ≤ 2147483647) ∧ True) → (True) → (True) → ((τ.1 1 1).toInt = x7 ∧ (τ.1 3 0).toInt = x4 ∧ (τ.1 7 0).toInt = x5 ∧ (τ.1 13 0).toInt = x6 ∧ True) → Q (some (.int (Int32.ofInt (-1)))) τ)
    : Ok 132 23 35 [.ref 0, .int (Int32.ofInt (x0)), .int (Int32.ofInt (x1)), .int (Int32.ofInt (x2)), .int (Int32.ofInt (x3)), .int (Int32.ofInt 1)] [.int (Int32.ofInt (-1))] σ Q := by
  refine an_seg (B := pm_B) (F := [(13, 0)]) (T := []) (S := []) (fun _ h => absurd h List.not_mem_nil) (k := 132) (d := 22) (cs := [4, 10, 16, 34]) 4 35 8 [(0, 0, 9), (1, 0, 9), (2, (-2147483648), 2147483647), (3, 0, 9), (4, 0, 10), (5, 0, 10), (6, 0, 30), (7, (-2147483648), 2147483647)] [(3, (1, 0, 0), (0, 4, 0)), (7, (1, 0, 0), (0, 5, 0)), (13, (1, 0, 0), (0, 6, 0)), (1, (1, 0, 1), (0, 7, 0))] [(2, 0, 0), (0, 0, 0), (0, 1, 0), (0, 2, 0), (0, 3, 0), (1, 0, 1)] [(1, 0, (-1))] [(9999, [], [(1, 0, (-1))], [(0, 0, 9), (1, 0, 9), (2, (-2147483648), 2147483647), (3, 0, 9), (4, 0, 10), (5, 0, 10), (6, 0, 30), (7, (-2147483648), 2147483647)], [], [], [(1, (1, 0, 1), (0, 7, 0)), (3, (1, 0, 0), (0, 4, 0)), (7, (1, 0, 0), (0, 5, 0)), (13, (1, 0, 0), (0, 6, 0))])] (by decide +kernel) (ρ0 := (fun s => [x0, x1, x2, x3, x4, x5, x6, x7].getD s 0)) hB eF eC ⟨rfl, ⟨rfl, ⟨rfl, ⟨rfl, ⟨rfl, ⟨rfl, trivial⟩⟩⟩⟩⟩⟩ ⟨(by exact rfl), trivial⟩ ?_
  refine List.forall_mem_cons.mpr ⟨?_, fun _ h => absurd h List.not_mem_nil⟩
  · intro ρ τ Lc stc hx g1 g2 g3 g4 g5 g6 g7 g8
    have e0 : ρ 0 = x0 := hx 0 (by decide)
    have e1 : ρ 1 = x1 := hx 1 (by decide)
    have e2 : ρ 2 = x2 := hx 2 (by decide)
    have e3 : ρ 3 = x3 := hx 3 (by decide)
    have e4 : ρ 4 = x4 := hx 4 (by decide)
    have e5 : ρ 5 = x5 := hx 5 (by decide)
    have e6 : ρ 6 = x6 := hx 6 (by decide)
    have e7 : ρ 7 = x7 := hx 7 (by decide)
    subst e0
    subst e1
    subst e2
    subst e3
    subst e4
    subst e5
    subst e6
    subst e7
    match stc, g8 with
    | [_], ⟨h, _⟩ => cases h; exact l0 τ ρ g1 g2 g3 g4 g5 g6
set_option maxRecDepth 100000 in
theorem zxc_debt_s8 {σ : pm_S} {Q : Option Value → pm_S → Prop} (x0 x1 x2 x3 x4 x5 x6 x7 : Int)  (hB : an_GB pm_B σ) (eF : (0 ≤ x0 ∧ x0 ≤ 9) ∧ (0 ≤ x1 ∧ x1 ≤ 9) ∧ ((-2147483648) ≤ x2 ∧ x2 ≤ 2147483647) ∧ (0 ≤ x3 ∧ x3 ≤ 9) ∧ (0 ≤ x4 ∧ x4 ≤ 10) ∧ (0 ≤ x5 ∧ x5 ≤ 10) ∧ (0 ≤ x6 ∧ x6 ≤ 30) ∧ ((-2147483648) ≤ x7 ∧ x7 ≤ 2147483647) ∧ True) (eC : (σ.1 3 0).toInt = x4 ∧ (σ.1 7 0).toInt = x5 ∧ (σ.1 13 0).toInt = x6 + 1 ∧ (σ.1 1 1).toInt = x7 ∧ True)
    (l0 : ∀ (τ : pm_S) (y : Nat → Int), an_GB pm_B τ → FQ [(13, 0)] σ τ → ((0 ≤ x0 ∧ x0 ≤ 9) ∧ (0 ≤ x1 ∧ x1 ≤ 9) ∧ ((-2147483648) ≤ x2 ∧ x2 ≤ 2147483647) ∧ (0 ≤ x3 ∧ x3 ≤ 9) ∧ (0 ≤ x4 ∧ x4 ≤ 10) ∧ (0 ≤ x5 ∧ x5 ≤ 10) ∧ (0 ≤ x6 ∧ x6 ≤ 30) ∧ ((-2147483648) ≤ x7 ∧ x7 ≤ 2147483647) ∧ True) → (True) → (True) → ((τ.1 1 1).toInt = x7 ∧ (τ.1 3 0).toInt = x4 ∧ (τ.1 7 0).toInt = x5 ∧ (τ.1 13 0).toInt = x6 + 1 ∧ True) → Q (some (.int (Int32.ofInt (x6)))) τ)
    : Ok 132 23 35 [.ref 0, .int (Int32.ofInt (x0)), .int (Int32.ofInt (x1)), .int (Int32.ofInt (x2)), .int (Int32.ofInt (x3)), .int (Int32.ofInt 1)] [.int (Int32.ofInt (x6))] σ Q := by
  refine an_seg (B := pm_B) (F := [(13, 0)]) (T := []) (S := []) (fun _ h => absurd h List.not_mem_nil) (k := 132) (d := 22) (cs := [4, 10, 16, 34]) 4 35 8 [(0, 0, 9), (1, 0, 9), (2, (-2147483648), 2147483647), (3, 0, 9), (4, 0, 10), (5, 0, 10), (6, 0, 30), (7, (-2147483648), 2147483647)] [(3, (1, 0, 0), (0, 4, 0)), (7, (1, 0, 0), (0, 5, 0)), (13, (1, 0, 0), (0, 6, 1)), (1, (1, 0, 1), (0, 7, 0))] [(2, 0, 0), (0, 0, 0), (0, 1, 0), (0, 2, 0), (0, 3, 0), (1, 0, 1)] [(0, 6, 0)] [(9999, [], [(0, 6, 0)], [(0, 0, 9), (1, 0, 9), (2, (-2147483648), 2147483647), (3, 0, 9), (4, 0, 10), (5, 0, 10), (6, 0, 30), (7, (-2147483648), 2147483647)], [], [], [(1, (1, 0, 1), (0, 7, 0)), (3, (1, 0, 0), (0, 4, 0)), (7, (1, 0, 0), (0, 5, 0)), (13, (1, 0, 0), (0, 6, 1))])] (by decide +kernel) (ρ0 := (fun s => [x0, x1, x2, x3, x4, x5, x6, x7].getD s 0)) hB eF eC ⟨rfl, ⟨rfl, ⟨rfl, ⟨rfl, ⟨rfl, ⟨rfl, trivial⟩⟩⟩⟩⟩⟩ ⟨rfl, trivial⟩ ?_
  refine List.forall_mem_cons.mpr ⟨?_, fun _ h => absurd h List.not_mem_nil⟩
  · intro ρ τ Lc stc hx g1 g2 g3 g4 g5 g6 g7 g8
    have e0 : ρ 0 = x0 := hx 0 (by decide)
    have e1 : ρ 1 = x1 := hx 1 (by decide)
    have e2 : ρ 2 = x2 := hx 2 (by decide)
    have e3 : ρ 3 = x3 := hx 3 (by decide)
    have e4 : ρ 4 = x4 := hx 4 (by decide)
    have e5 : ρ 5 = x5 := hx 5 (by decide)
    have e6 : ρ 6 = x6 := hx 6 (by decide)
    have e7 : ρ 7 = x7 := hx 7 (by decide)
    subst e0
    subst e1
    subst e2
    subst e3
    subst e4
    subst e5
    subst e6
    subst e7
    match stc, g8 with
    | [_], ⟨h, _⟩ => cases h; exact l0 τ ρ g1 g2 g3 g4 g5 g6
set_option maxRecDepth 20000 in
set_option maxHeartbeats 6000000 in
theorem zxc_debt {σ : pm_S} (x0 x1 x2 x3 x4 x5 x6 x7 : Int) (hB : an_GB pm_B σ) (g0 : (-2147483648) ≤ x0 ∧ x0 ≤ 2147483647) (g1 : (-2147483648) ≤ x1 ∧ x1 ≤ 2147483647) (g2 : (-2147483648) ≤ x2 ∧ x2 ≤ 2147483647) (g3 : (-2147483648) ≤ x3 ∧ x3 ≤ 2147483647) (g4 : 0 ≤ x4 ∧ x4 ≤ 10) (g5 : 0 ≤ x5 ∧ x5 ≤ 10) (g6 : 0 ≤ x6 ∧ x6 ≤ 30) (g7 : (-2147483648) ≤ x7 ∧ x7 ≤ 2147483647) (e0 : (σ.1 3 0).toInt = x4) (e1 : (σ.1 7 0).toInt = x5) (e2 : (σ.1 13 0).toInt = x6) (e3 : (σ.1 1 1).toInt = x7) : Sp 132 23 [.ref 0, .int (Int32.ofInt (x0)), .int (Int32.ofInt (x1)), .int (Int32.ofInt (x2)), .int (Int32.ofInt (x3))] σ (fun r τ => an_GB pm_B τ ∧ ((¬ (0 ≤ x0 ∧ x0 < x5 ∧ 0 ≤ x1 ∧ x1 < x5 ∧ x0 ≠ x1 ∧ 1 ≤ x2 ∧ x2 ≤ 9999 ∧ 0 ≤ x3 ∧ x3 < x4 ∧ x6 ≤ 29) ∧ r = some (.int (Int32.ofInt (-1))) ∧ (τ.1 13 0).toInt = x6 ∧ puF [(13, 0)] [] σ τ) ∨ ((0 ≤ x0 ∧ x0 < x5 ∧ 0 ≤ x1 ∧ x1 < x5 ∧ x0 ≠ x1 ∧ 1 ≤ x2 ∧ x2 ≤ 9999 ∧ 0 ≤ x3 ∧ x3 < x4 ∧ x6 ≤ 29) ∧ r = some (.int (Int32.ofInt (x6))) ∧ (τ.1 13 0).toInt = x6 + 1 ∧ puF [(13, 0)] [(20, (x6).toNat, Int32.ofInt (0)), (19, (x6).toNat, Int32.ofInt (-1)), (18, (x6).toNat, Int32.ofInt (x7)), (17, (x6).toNat, Int32.ofInt (x3)), (16, (x6).toNat, Int32.ofInt (x2)), (15, (x6).toNat, Int32.ofInt (x1)), (14, (x6).toNat, Int32.ofInt (x0))] σ τ))) := by
  refine Sp.at rfl rfl ?_
  refine zxc_debt_s0 x0 x1 x2 x3 x4 x5 x6 x7 _ rfl hB ⟨g0, g1, g2, g3, g4, g5, g6, g7, trivial⟩ ⟨e0, e1, e2, e3, trivial⟩ ?_
  · intro τ1 y1 v5_1 hv5_1 hB1 hF1 f1 rr1 _ c1
    obtain ⟨f1_0, f1_1, f1_2, f1_3, f1_4, f1_5, f1_6, f1_7, -⟩ := f1
    obtain ⟨c1_0, c1_1, c1_2, c1_3, -⟩ := c1
    have hG1 : puF [(13, 0)] [] σ τ1 := puF.fq rfl (puF.rf _ _) hF1
    refine Ok.cv rfl rfl rfl rfl rfl rfl rfl ?_
    refine (x_h61 (x0) (x5) hB1 (by omega) c1_2).use (by decide) (fun r2 τ2 q2 => ?_)
    obtain ⟨hB2, hF2, ⟨q2, rfl, d2⟩ | ⟨q2, rfl, d2⟩⟩ := q2
    · have hG2 : puF [(13, 0)] [] σ τ2 := puF.fq rfl hG1 hF2
      have e2_3_0 : (τ2.1 3 0).toInt = x4 := (congrArg Int32.toInt (show τ2.1 3 0 = τ1.1 3 0 from hF2 3 0 rfl)).trans c1_1
      have e2_7_0 : (τ2.1 7 0).toInt = x5 := (congrArg Int32.toInt (show τ2.1 7 0 = τ1.1 7 0 from hF2 7 0 rfl)).trans c1_2
      have e2_13_0 : (τ2.1 13 0).toInt = x6 := (congrArg Int32.toInt (show τ2.1 13 0 = τ1.1 13 0 from hF2 13 0 rfl)).trans c1_3
      have e2_1_1 : (τ2.1 1 1).toInt = x7 := (congrArg Int32.toInt (show τ2.1 1 1 = τ1.1 1 1 from hF2 1 1 rfl)).trans c1_0
      refine zxc_debt_s1 x0 x1 x2 x3 x4 x5 x6 x7 _ hv5_1 hB2 ⟨f1_0, f1_1, f1_2, f1_3, f1_4, f1_5, f1_6, f1_7, trivial⟩ ⟨e2_3_0, e2_7_0, e2_13_0, e2_1_1, trivial⟩ ?_
      · intro τ3 y3  hB3 hF3 f3 rr3 _ c3
        obtain ⟨f3_0, f3_1, f3_2, f3_3, f3_4, f3_5, f3_6, f3_7, -⟩ := f3
        clear f1_0 f1_1 f1_2 f1_3 f1_4 f1_5 f1_6 f1_7 e2_3_0 e2_7_0 e2_13_0 e2_1_1
        obtain ⟨c3_0, c3_1, c3_2, c3_3, -⟩ := c3
        have hG3 : puF [(13, 0)] [] σ τ3 := puF.fq rfl hG2 hF3
        exact ⟨hB3, Or.inl ⟨by omega, rfl, c3_3, hG3⟩⟩
    · have hG2 : puF [(13, 0)] [] σ τ2 := puF.fq rfl hG1 hF2
      have e2_3_0 : (τ2.1 3 0).toInt = x4 := (congrArg Int32.toInt (show τ2.1 3 0 = τ1.1 3 0 from hF2 3 0 rfl)).trans c1_1
      have e2_7_0 : (τ2.1 7 0).toInt = x5 := (congrArg Int32.toInt (show τ2.1 7 0 = τ1.1 7 0 from hF2 7 0 rfl)).trans c1_2
      have e2_13_0 : (τ2.1 13 0).toInt = x6 := (congrArg Int32.toInt (show τ2.1 13 0 = τ1.1 13 0 from hF2 13 0 rfl)).trans c1_3
      have e2_1_1 : (τ2.1 1 1).toInt = x7 := (congrArg Int32.toInt (show τ2.1 1 1 = τ1.1 1 1 from hF2 1 1 rfl)).trans c1_0
      refine zxc_debt_s2 x0 x1 x2 x3 x4 x5 x6 x7 _ hv5_1 hB2 ⟨by omega, f1_1, f1_2, f1_3, f1_4, f1_5, f1_6, f1_7, trivial⟩ ⟨e2_3_0, e2_7_0, e2_13_0, e2_1_1, trivial⟩ ?_
      · intro τ4 y4 v5_4 hv5_4 hB4 hF4 f4 rr4 _ c4
        obtain ⟨f4_0, f4_1, f4_2, f4_3, f4_4, f4_5, f4_6, f4_7, -⟩ := f4
        clear f1_0 f1_1 f1_2 f1_3 f1_4 f1_5 f1_6 f1_7 e2_3_0 e2_7_0 e2_13_0 e2_1_1
        obtain ⟨c4_0, c4_1, c4_2, c4_3, -⟩ := c4
        have hG4 : puF [(13, 0)] [] σ τ4 := puF.fq rfl hG2 hF4
        refine Ok.cv rfl rfl rfl rfl rfl rfl rfl ?_
        refine (x_h61 (x1) (x5) hB4 (by omega) c4_2).use (by decide) (fun r5 τ5 q5 => ?_)
        obtain ⟨hB5, hF5, ⟨q5, rfl, d5⟩ | ⟨q5, rfl, d5⟩⟩ := q5
        · have hG5 : puF [(13, 0)] [] σ τ5 := puF.fq rfl hG4 hF5
          have e5_3_0 : (τ5.1 3 0).toInt = x4 := (congrArg Int32.toInt (show τ5.1 3 0 = τ4.1 3 0 from hF5 3 0 rfl)).trans c4_1
          have e5_7_0 : (τ5.1 7 0).toInt = x5 := (congrArg Int32.toInt (show τ5.1 7 0 = τ4.1 7 0 from hF5 7 0 rfl)).trans c4_2
          have e5_13_0 : (τ5.1 13 0).toInt = x6 := (congrArg Int32.toInt (show τ5.1 13 0 = τ4.1 13 0 from hF5 13 0 rfl)).trans c4_3
          have e5_1_1 : (τ5.1 1 1).toInt = x7 := (congrArg Int32.toInt (show τ5.1 1 1 = τ4.1 1 1 from hF5 1 1 rfl)).trans c4_0
          refine zxc_debt_s3 x0 x1 x2 x3 x4 x5 x6 x7 _ hv5_4 hB5 ⟨f4_0, f4_1, f4_2, f4_3, f4_4, f4_5, f4_6, f4_7, trivial⟩ ⟨e5_3_0, e5_7_0, e5_13_0, e5_1_1, trivial⟩ ?_
          · intro τ6 y6  hB6 hF6 f6 rr6 _ c6
            obtain ⟨f6_0, f6_1, f6_2, f6_3, f6_4, f6_5, f6_6, f6_7, -⟩ := f6
            clear f4_0 f4_1 f4_2 f4_3 f4_4 f4_5 f4_6 f4_7 e5_3_0 e5_7_0 e5_13_0 e5_1_1
            obtain ⟨c6_0, c6_1, c6_2, c6_3, -⟩ := c6
            have hG6 : puF [(13, 0)] [] σ τ6 := puF.fq rfl hG5 hF6
            exact ⟨hB6, Or.inl ⟨by omega, rfl, c6_3, hG6⟩⟩
        · have hG5 : puF [(13, 0)] [] σ τ5 := puF.fq rfl hG4 hF5
          have e5_3_0 : (τ5.1 3 0).toInt = x4 := (congrArg Int32.toInt (show τ5.1 3 0 = τ4.1 3 0 from hF5 3 0 rfl)).trans c4_1
          have e5_7_0 : (τ5.1 7 0).toInt = x5 := (congrArg Int32.toInt (show τ5.1 7 0 = τ4.1 7 0 from hF5 7 0 rfl)).trans c4_2
          have e5_13_0 : (τ5.1 13 0).toInt = x6 := (congrArg Int32.toInt (show τ5.1 13 0 = τ4.1 13 0 from hF5 13 0 rfl)).trans c4_3
          have e5_1_1 : (τ5.1 1 1).toInt = x7 := (congrArg Int32.toInt (show τ5.1 1 1 = τ4.1 1 1 from hF5 1 1 rfl)).trans c4_0
          refine zxc_debt_s4 x0 x1 x2 x3 x4 x5 x6 x7 _ hv5_4 hB5 ⟨f4_0, by omega, f4_2, f4_3, f4_4, f4_5, f4_6, f4_7, trivial⟩ ⟨e5_3_0, e5_7_0, e5_13_0, e5_1_1, trivial⟩ ?_
          · intro τ7 y7 v5_7 hv5_7 hB7 hF7 f7 rr7 _ c7
            obtain ⟨f7_0, f7_1, f7_2, f7_3, f7_4, f7_5, f7_6, f7_7, -⟩ := f7
            clear f4_0 f4_1 f4_2 f4_3 f4_4 f4_5 f4_6 f4_7 e5_3_0 e5_7_0 e5_13_0 e5_1_1
            obtain ⟨c7_0, c7_1, c7_2, c7_3, -⟩ := c7
            have hG7 : puF [(13, 0)] [] σ τ7 := puF.fq rfl hG5 hF7
            refine Ok.cv rfl rfl rfl rfl rfl rfl rfl ?_
            refine (x_h82 (x3) (x4) hB7 (by omega) c7_1).use (by decide) (fun r8 τ8 q8 => ?_)
            obtain ⟨hB8, hF8, ⟨q8, rfl, d8⟩ | ⟨q8, rfl, d8⟩⟩ := q8
            · have hG8 : puF [(13, 0)] [] σ τ8 := puF.fq rfl hG7 hF8
              have e8_3_0 : (τ8.1 3 0).toInt = x4 := (congrArg Int32.toInt (show τ8.1 3 0 = τ7.1 3 0 from hF8 3 0 rfl)).trans c7_1
              have e8_7_0 : (τ8.1 7 0).toInt = x5 := (congrArg Int32.toInt (show τ8.1 7 0 = τ7.1 7 0 from hF8 7 0 rfl)).trans c7_2
              have e8_13_0 : (τ8.1 13 0).toInt = x6 := (congrArg Int32.toInt (show τ8.1 13 0 = τ7.1 13 0 from hF8 13 0 rfl)).trans c7_3
              have e8_1_1 : (τ8.1 1 1).toInt = x7 := (congrArg Int32.toInt (show τ8.1 1 1 = τ7.1 1 1 from hF8 1 1 rfl)).trans c7_0
              refine zxc_debt_s5 x0 x1 x2 x3 x4 x5 x6 x7 _ hv5_7 hB8 ⟨f7_0, f7_1, f7_2, f7_3, f7_4, f7_5, f7_6, f7_7, trivial⟩ ⟨e8_3_0, e8_7_0, e8_13_0, e8_1_1, trivial⟩ ?_
              · intro τ9 y9  hB9 hF9 f9 rr9 _ c9
                obtain ⟨f9_0, f9_1, f9_2, f9_3, f9_4, f9_5, f9_6, f9_7, -⟩ := f9
                clear f7_0 f7_1 f7_2 f7_3 f7_4 f7_5 f7_6 f7_7 e8_3_0 e8_7_0 e8_13_0 e8_1_1
                obtain ⟨c9_0, c9_1, c9_2, c9_3, -⟩ := c9
                have hG9 : puF [(13, 0)] [] σ τ9 := puF.fq rfl hG8 hF9
                exact ⟨hB9, Or.inl ⟨by omega, rfl, c9_3, hG9⟩⟩
            · have hG8 : puF [(13, 0)] [] σ τ8 := puF.fq rfl hG7 hF8
              have e8_3_0 : (τ8.1 3 0).toInt = x4 := (congrArg Int32.toInt (show τ8.1 3 0 = τ7.1 3 0 from hF8 3 0 rfl)).trans c7_1
              have e8_7_0 : (τ8.1 7 0).toInt = x5 := (congrArg Int32.toInt (show τ8.1 7 0 = τ7.1 7 0 from hF8 7 0 rfl)).trans c7_2
              have e8_13_0 : (τ8.1 13 0).toInt = x6 := (congrArg Int32.toInt (show τ8.1 13 0 = τ7.1 13 0 from hF8 13 0 rfl)).trans c7_3
              have e8_1_1 : (τ8.1 1 1).toInt = x7 := (congrArg Int32.toInt (show τ8.1 1 1 = τ7.1 1 1 from hF8 1 1 rfl)).trans c7_0
              refine zxc_debt_s6 x0 x1 x2 x3 x4 x5 x6 x7 _ hv5_7 hB8 ⟨f7_0, f7_1, f7_2, by omega, f7_4, f7_5, f7_6, f7_7, trivial⟩ ⟨e8_3_0, e8_7_0, e8_13_0, e8_1_1, trivial⟩ ?_
              · intro τ10 y10  hB10 hF10 f10 rr10 _ c10
                obtain ⟨f10_0, f10_1, f10_2, f10_3, f10_4, f10_5, f10_6, f10_7, -⟩ := f10
                clear f7_0 f7_1 f7_2 f7_3 f7_4 f7_5 f7_6 f7_7 e8_3_0 e8_7_0 e8_13_0 e8_1_1
                obtain ⟨c10_0, c10_1, c10_2, c10_3, -⟩ := c10
                have hG10 : puF [(13, 0)] [] σ τ10 := puF.fq rfl hG8 hF10
                refine Ok.cv rfl rfl rfl rfl rfl rfl rfl ?_
                refine (zx_dadd x0 x1 x2 x3 x4 x5 x6 x7 hB10 (by omega) (by omega) (by omega) (by omega) (by omega) (by omega) (by omega) (by omega) c10_3).use (by decide) (fun r11 τ11 q11 => ?_)
                obtain ⟨hB11, ⟨q11, rfl, d11, hF11⟩ | ⟨q11, rfl, d11, hF11⟩⟩ := q11
                · have hG11 : puF [(13, 0)] [] σ τ11 := puF.tr hG10 (puF.up rfl hF11)
                  have e11_3_0 : (τ11.1 3 0).toInt = x4 := (congrArg Int32.toInt (show τ11.1 3 0 = τ10.1 3 0 from hF11 3 0 rfl)).trans c10_1
                  have e11_7_0 : (τ11.1 7 0).toInt = x5 := (congrArg Int32.toInt (show τ11.1 7 0 = τ10.1 7 0 from hF11 7 0 rfl)).trans c10_2
                  have e11_1_1 : (τ11.1 1 1).toInt = x7 := (congrArg Int32.toInt (show τ11.1 1 1 = τ10.1 1 1 from hF11 1 1 rfl)).trans c10_0
                  refine zxc_debt_s7 x0 x1 x2 x3 x4 x5 x6 x7 hB11 ⟨f10_0, f10_1, f10_2, f10_3, f10_4, f10_5, f10_6, f10_7, trivial⟩ ⟨e11_3_0, e11_7_0, d11, e11_1_1, trivial⟩ ?_
                  · intro τ12 y12  hB12 hF12 f12 rr12 _ c12
                    obtain ⟨f12_0, f12_1, f12_2, f12_3, f12_4, f12_5, f12_6, f12_7, -⟩ := f12
                    clear f10_0 f10_1 f10_2 f10_3 f10_4 f10_5 f10_6 f10_7 e11_3_0 e11_7_0 e11_1_1
                    obtain ⟨c12_0, c12_1, c12_2, c12_3, -⟩ := c12
                    have hG12 : puF [(13, 0)] [] σ τ12 := puF.fq rfl hG11 hF12
                    exact ⟨hB12, Or.inl ⟨by omega, rfl, c12_3, hG12⟩⟩
                · have hG11 : puF [(13, 0)] [(20, (x6).toNat, Int32.ofInt (0)), (19, (x6).toNat, Int32.ofInt (-1)), (18, (x6).toNat, Int32.ofInt (x7)), (17, (x6).toNat, Int32.ofInt (x3)), (16, (x6).toNat, Int32.ofInt (x2)), (15, (x6).toNat, Int32.ofInt (x1)), (14, (x6).toNat, Int32.ofInt (x0))] σ τ11 := puF.tr hG10 (puF.up rfl hF11)
                  have e11_3_0 : (τ11.1 3 0).toInt = x4 := (congrArg Int32.toInt (show τ11.1 3 0 = τ10.1 3 0 from hF11 3 0 rfl)).trans c10_1
                  have e11_7_0 : (τ11.1 7 0).toInt = x5 := (congrArg Int32.toInt (show τ11.1 7 0 = τ10.1 7 0 from hF11 7 0 rfl)).trans c10_2
                  have e11_1_1 : (τ11.1 1 1).toInt = x7 := (congrArg Int32.toInt (show τ11.1 1 1 = τ10.1 1 1 from hF11 1 1 rfl)).trans c10_0
                  refine zxc_debt_s8 x0 x1 x2 x3 x4 x5 x6 x7 hB11 ⟨f10_0, f10_1, f10_2, f10_3, f10_4, f10_5, f10_6, f10_7, trivial⟩ ⟨e11_3_0, e11_7_0, d11, e11_1_1, trivial⟩ ?_
                  · intro τ13 y13  hB13 hF13 f13 rr13 _ c13
                    obtain ⟨f13_0, f13_1, f13_2, f13_3, f13_4, f13_5, f13_6, f13_7, -⟩ := f13
                    clear f10_0 f10_1 f10_2 f10_3 f10_4 f10_5 f10_6 f10_7 e11_3_0 e11_7_0 e11_1_1
                    obtain ⟨c13_0, c13_1, c13_2, c13_3, -⟩ := c13
                    have hG13 : puF [(13, 0)] [(20, (x6).toNat, Int32.ofInt (0)), (19, (x6).toNat, Int32.ofInt (-1)), (18, (x6).toNat, Int32.ofInt (x7)), (17, (x6).toNat, Int32.ofInt (x3)), (16, (x6).toNat, Int32.ofInt (x2)), (15, (x6).toNat, Int32.ofInt (x1)), (14, (x6).toNat, Int32.ofInt (x0))] σ τ13 := puF.fq rfl hG11 hF13
                    exact ⟨hB13, Or.inr ⟨by omega, rfl, c13_3, hG13⟩⟩
