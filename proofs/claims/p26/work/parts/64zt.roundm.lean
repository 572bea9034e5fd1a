/-! rounds, the model: pieces -/
set_option maxRecDepth 100000 in
theorem tf_b0 {σ : pm_S} {Q : Option Value → pm_S → Prop} (x0 x1 x2 x3 x4 : Int) (v5 : Value) (hv5 : v5.category = 1) (hB : an_GB pm_B σ) (eF : (0 ≤ x0 ∧ x0 ≤ 29) ∧ (0 ≤ x1 ∧ x1 ≤ 9) ∧ (0 ≤ x2 ∧ x2 ≤ 9) ∧ (2 ≤ x3 ∧ x3 ≤ 10) ∧ ((-2147483648) ≤ x4 ∧ x4 ≤ 2147483647) ∧ True) (eC : (σ.1 107 (x0).toNat).toInt = x4 ∧ True)
    (l0 : ∀ (τ : pm_S) (y : Nat → Int), an_GB pm_B τ → FQ [] σ τ → ((0 ≤ x0 ∧ x0 ≤ 29) ∧ (0 ≤ x1 ∧ x1 ≤ 9) ∧ (0 ≤ x2 ∧ x2 ≤ 9) ∧ (2 ≤ x3 ∧ x3 ≤ 10) ∧ ((-2147483648) ≤ x4 ∧ x4 ≤ 2147483647) ∧ True) → (x4 ≠ 0 ∧ True) → (True) → ((τ.1 107 (x0).toNat).toInt = x4 ∧ True) → Q (some (.int (Int32.ofInt 0))) τ)
    (l1 : ∀ (τ : pm_S) (y : Nat → Int) (v5 : Value), v5.category = 1 → an_GB pm_B τ → FQ [] σ τ → ((0 ≤ x0 ∧ x0 ≤ 29) ∧ (0 ≤ x1 ∧ x1 ≤ 9) ∧ (0 ≤ x2 ∧ x2 ≤ 9) ∧ (2 ≤ x3 ∧ x3 ≤ 10) ∧ (0 ≤ x4 ∧ x4 ≤ 0) ∧ True) → (True) → (True) → ((τ.1 107 (x0).toNat).toInt = x4 ∧ True) → Ok 205 4 7 [.ref 93, .int (Int32.ofInt (x0)), .int (Int32.ofInt (x1)), .int (Int32.ofInt (x2)), .int (Int32.ofInt (x3)), v5] [.int (Int32.ofInt (x2)), .int (Int32.ofInt (x0)), .ref 93] τ Q)
    : Ok 205 4 0 [.ref 93, .int (Int32.ofInt (x0)), .int (Int32.ofInt (x1)), .int (Int32.ofInt (x2)), .int (Int32.ofInt (x3)), v5] [] σ Q := by
  refine an_seg (B := pm_B) (F := []) (T := [107]) (S := []) (fun _ h => absurd h List.not_mem_nil) (k := 205) (d := 3) (cs := [7]) 17 0 5 [(0, 0, 29), (1, 0, 9), (2, 0, 9), (3, 2, 10), (4, (-2147483648), 2147483647)] [(107, (0, 0, 0), (0, 4, 0))] [(2, 93, 0), (0, 0, 0), (0, 1, 0), (0, 2, 0), (0, 3, 0), (5, 0, 0)] [] [(9999, [], [(1, 0, 0)], [(0, 0, 29), (1, 0, 9), (2, 0, 9), (3, 2, 10), (4, (-2147483648), 2147483647)], [(3, 4, 4, 0)], [], [(107, (0, 0, 0), (0, 4, 0))]),
    (7, [(2, 93, 0), (0, 0, 0), (0, 1, 0), (0, 2, 0), (0, 3, 0), (5, 0, 0)], [(0, 2, 0), (0, 0, 0), (2, 93, 0)], [(0, 0, 29), (1, 0, 9), (2, 0, 9), (3, 2, 10), (4, 0, 0)], [], [], [(107, (0, 0, 0), (0, 4, 0))])] (by decide +kernel) (ρ0 := (fun s => [x0, x1, x2, x3, x4].getD s 0)) hB eF eC ⟨rfl, ⟨rfl, ⟨rfl, ⟨rfl, ⟨rfl, ⟨hv5, trivial⟩⟩⟩⟩⟩⟩ trivial ?_
  refine List.forall_mem_cons.mpr ⟨?_, List.forall_mem_cons.mpr ⟨?_, fun _ h => absurd h List.not_mem_nil⟩⟩
  · intro ρ τ Lc stc hx g1 g2 g3 g4 g5 g6 g7 g8
    have e0 : ρ 0 = x0 := hx 0 (by decide)
    have e1 : ρ 1 = x1 := hx 1 (by decide)
    have e2 : ρ 2 = x2 := hx 2 (by decide)
    have e3 : ρ 3 = x3 := hx 3 (by decide)
    have e4 : ρ 4 = x4 := hx 4 (by decide)
    subst e0
    subst e1
    subst e2
    subst e3
    subst e4
    match stc, g8 with
    | [_], ⟨h, _⟩ => cases h; exact l0 τ ρ g1 g2 g3 g4 g5 g6
  · intro ρ τ Lc stc hx g1 g2 g3 g4 g5 g6 g7 g8
    have e0 : ρ 0 = x0 := hx 0 (by decide)
    have e1 : ρ 1 = x1 := hx 1 (by decide)
    have e2 : ρ 2 = x2 := hx 2 (by decide)
    have e3 : ρ 3 = x3 := hx 3 (by decide)
    have e4 : ρ 4 = x4 := hx 4 (by decide)
    subst e0
    subst e1
    subst e2
    subst e3
    subst e4
    have g7 := g7 (by decide)
    match Lc, stc, g7, g8 with
    | [v0, v1, v2, v3, v4, v5], [w0, w1, w2], ⟨hv0, hv1, hv2, hv3, hv4, hv5, _⟩, ⟨hw0, hw1, hw2, _⟩ =>
      cases hv0
      cases hv1
      cases hv2
      cases hv3
      cases hv4
      cases hw0
      cases hw1
      cases hw2
      exact l1 τ ρ v5 hv5 g1 g2 g3 g4 g5 g6
set_option maxRecDepth 100000 in
theorem tf_b8z {σ : pm_S} {Q : Option Value → pm_S → Prop} (x0 x1 x2 x3 : Int) (v5 : Value) (hv5 : v5.category = 1) (hB : an_GB pm_B σ) (eF : (0 ≤ x0 ∧ x0 ≤ 29) ∧ (0 ≤ x1 ∧ x1 ≤ 9) ∧ (2 ≤ x2 ∧ x2 ≤ 10) ∧ (0 ≤ x3 ∧ x3 ≤ 1) ∧ True)
    (l0 : ∀ (τ : pm_S) (y : Nat → Int), an_GB pm_B τ → FQ [] σ τ → ((0 ≤ x0 ∧ x0 ≤ 29) ∧ (0 ≤ x1 ∧ x1 ≤ 9) ∧ (2 ≤ x2 ∧ x2 ≤ 10) ∧ (1 ≤ x3 ∧ x3 ≤ 1) ∧ True) → (True) → (True) → (True) → Q (some (.int (Int32.ofInt 1))) τ)
    (l1 : ∀ (τ : pm_S) (y : Nat → Int), an_GB pm_B τ → FQ [] σ τ → ((0 ≤ x0 ∧ x0 ≤ 29) ∧ (0 ≤ x1 ∧ x1 ≤ 9) ∧ (2 ≤ x2 ∧ x2 ≤ 10) ∧ (0 ≤ x3 ∧ x3 ≤ 0) ∧ True) → (True) → (True) → (True) → Q (some (.int (Int32.ofInt 0))) τ)
    : Ok 205 4 8 [.ref 93, .int (Int32.ofInt (x0)), .int (Int32.ofInt 0), .int (Int32.ofInt (x1)), .int (Int32.ofInt (x2)), v5] [.int (Int32.ofInt (x3))] σ Q := by
  refine an_seg (B := pm_B) (F := []) (T := []) (S := []) (fun _ h => absurd h List.not_mem_nil) (k := 205) (d := 3) (cs := []) 7 8 4 [(0, 0, 29), (1, 0, 9), (2, 2, 10), (3, 0, 1)] [] [(2, 93, 0), (0, 0, 0), (1, 0, 0), (0, 1, 0), (0, 2, 0), (5, 0, 0)] [(0, 3, 0)] [(9999, [], [(1, 0, 1)], [(0, 0, 29), (1, 0, 9), (2, 2, 10), (3, 1, 1)], [], [], []),
    (9999, [], [(1, 0, 0)], [(0, 0, 29), (1, 0, 9), (2, 2, 10), (3, 0, 0)], [], [], [])] (by decide +kernel) (ρ0 := (fun s => [x0, x1, x2, x3].getD s 0)) hB eF trivial ⟨rfl, ⟨rfl, ⟨rfl, ⟨rfl, ⟨rfl, ⟨hv5, trivial⟩⟩⟩⟩⟩⟩ ⟨rfl, trivial⟩ ?_
  refine List.forall_mem_cons.mpr ⟨?_, List.forall_mem_cons.mpr ⟨?_, fun _ h => absurd h List.not_mem_nil⟩⟩
  · intro ρ τ Lc stc hx g1 g2 g3 g4 g5 g6 g7 g8
    have e0 : ρ 0 = x0 := hx 0 (by decide)
    have e1 : ρ 1 = x1 := hx 1 (by decide)
    have e2 : ρ 2 = x2 := hx 2 (by decide)
    have e3 : ρ 3 = x3 := hx 3 (by decide)
    subst e0
    subst e1
    subst e2
    subst e3
    match stc, g8 with
    | [_], ⟨h, _⟩ => cases h; exact l0 τ ρ g1 g2 g3 g4 g5 g6
  · intro ρ τ Lc stc hx g1 g2 g3 g4 g5 g6 g7 g8
    have e0 : ρ 0 = x0 := hx 0 (by decide)
    have e1 : ρ 1 = x1 := hx 1 (by decide)
    have e2 : ρ 2 = x2 := hx 2 (by decide)
    have e3 : ρ 3 = x3 := hx 3 (by decide)
    subst e0
    subst e1
    subst e2
    subst e3
    match stc, g8 with
    | [_], ⟨h, _⟩ => cases h; exact l1 τ ρ g1 g2 g3 g4 g5 g6
set_option maxRecDepth 100000 in
theorem tf_b8 {σ : pm_S} {Q : Option Value → pm_S → Prop} (x0 x1 x2 x3 x4 x5 x6 x7 : Int) (v5 : Value) (hv5 : v5.category = 1) (hB : an_GB pm_B σ) (eF : (0 ≤ x0 ∧ x0 ≤ 29) ∧ (1 ≤ x1 ∧ x1 ≤ 9) ∧ (0 ≤ x2 ∧ x2 ≤ 9) ∧ (2 ≤ x3 ∧ x3 ≤ 10) ∧ (0 ≤ x4 ∧ x4 ≤ 1) ∧ (0 ≤ x5 ∧ x5 ≤ 9) ∧ (0 ≤ x6 ∧ x6 ≤ 29) ∧ (0 ≤ x7 ∧ x7 ≤ 9) ∧ True) (eC : (σ.1 101 (x0).toNat).toInt = x5 ∧ (σ.1 124 (x1 + (-1)).toNat).toInt = x6 ∧ (σ.1 102 (x6).toNat).toInt = x7 ∧ True)
    (l0 : ∀ (τ : pm_S) (y : Nat → Int) (v5 : Value), v5.category = 1 → an_GB pm_B τ → FQ [] σ τ → ((0 ≤ x0 ∧ x0 ≤ 29) ∧ (1 ≤ x1 ∧ x1 ≤ 9) ∧ (0 ≤ x2 ∧ x2 ≤ 9) ∧ (2 ≤ x3 ∧ x3 ≤ 10) ∧ (1 ≤ x4 ∧ x4 ≤ 1) ∧ (0 ≤ x5 ∧ x5 ≤ 9) ∧ (0 ≤ x6 ∧ x6 ≤ 29) ∧ (0 ≤ x7 ∧ x7 ≤ 9) ∧ True) → (x1 ≠ 0 ∧ True) → (True) → ((τ.1 101 (x0).toNat).toInt = x5 ∧ (τ.1 102 (x6).toNat).toInt = x7 ∧ (τ.1 124 (x1 + (-1)).toNat).toInt = x6 ∧ True) → Ok 205 4 28 [.ref 93, .int (Int32.ofInt (x0)), .int (Int32.ofInt (x1)), .int (Int32.ofInt (x2)), .int (Int32.ofInt (x3)), v5] [.int (Int32.ofInt (x7)), .int (Int32.ofInt (x5))] τ Q)
    (l1 : ∀ (τ : pm_S) (y : Nat → Int), an_GB pm_B τ → FQ [] σ τ → ((0 ≤ x0 ∧ x0 ≤ 29) ∧ (1 ≤ x1 ∧ x1 ≤ 9) ∧ (0 ≤ x2 ∧ x2 ≤ 9) ∧ (2 ≤ x3 ∧ x3 ≤ 10) ∧ (0 ≤ x4 ∧ x4 ≤ 0) ∧ (0 ≤ x5 ∧ x5 ≤ 9) ∧ (0 ≤ x6 ∧ x6 ≤ 29) ∧ (0 ≤ x7 ∧ x7 ≤ 9) ∧ True) → (True) → (True) → ((τ.1 101 (x0).toNat).toInt = x5 ∧ (τ.1 102 (x6).toNat).toInt = x7 ∧ (τ.1 124 (x1 + (-1)).toNat).toInt = x6 ∧ True) → Q (some (.int (Int32.ofInt 0))) τ)
    : Ok 205 4 8 [.ref 93, .int (Int32.ofInt (x0)), .int (Int32.ofInt (x1)), .int (Int32.ofInt (x2)), .int (Int32.ofInt (x3)), v5] [.int (Int32.ofInt (x4))] σ Q := by
  refine an_seg (B := pm_B) (F := []) (T := [101, 102, 124]) (S := []) (fun _ h => absurd h List.not_mem_nil) (k := 205) (d := 3) (cs := [28]) 18 8 8 [(0, 0, 29), (1, 1, 9), (2, 0, 9), (3, 2, 10), (4, 0, 1), (5, 0, 9), (6, 0, 29), (7, 0, 9)] [(101, (0, 0, 0), (0, 5, 0)), (124, (0, 1, (-1)), (0, 6, 0)), (102, (0, 6, 0), (0, 7, 0))] [(2, 93, 0), (0, 0, 0), (0, 1, 0), (0, 2, 0), (0, 3, 0), (5, 0, 0)] [(0, 4, 0)] [(28, [(2, 93, 0), (0, 0, 0), (0, 1, 0), (0, 2, 0), (0, 3, 0), (5, 0, 0)], [(0, 7, 0), (0, 5, 0)], [(0, 0, 29), (1, 1, 9), (2, 0, 9), (3, 2, 10), (4, 1, 1), (5, 0, 9), (6, 0, 29), (7, 0, 9)], [(3, 1, 1, 0)], [], [(101, (0, 0, 0), (0, 5, 0)), (102, (0, 6, 0), (0, 7, 0)), (124, (0, 1, (-1)), (0, 6, 0))]),
    (9999, [], [(1, 0, 0)], [(0, 0, 29), (1, 1, 9), (2, 0, 9), (3, 2, 10), (4, 0, 0), (5, 0, 9), (6, 0, 29), (7, 0, 9)], [], [], [(101, (0, 0, 0), (0, 5, 0)), (102, (0, 6, 0), (0, 7, 0)), (124, (0, 1, (-1)), (0, 6, 0))])] (by decide +kernel) (ρ0 := (fun s => [x0, x1, x2, x3, x4, x5, x6, x7].getD s 0)) hB eF eC ⟨rfl, ⟨rfl, ⟨rfl, ⟨rfl, ⟨rfl, ⟨hv5, trivial⟩⟩⟩⟩⟩⟩ ⟨rfl, trivial⟩ ?_
  refine List.forall_mem_cons.mpr ⟨?_, List.forall_mem_cons.mpr ⟨?_, fun _ h => absurd h List.not_mem_nil⟩⟩
  · intro ρ τ Lc stc hx g1 g2 g3 g4 g5 g6 g7 g8
    have e0 : ρ 0 = x0 := hx 0 (by decide)
    have e1 : ρ 1 = x1 := hx 1 (by decide)
    have e2 : ρ 2 = x2 := hx 2 (by decide)
    have e3 : ρ 3 = x3 := hx 3 (by decide)
    have e4 : ρ 4 = x4 := hx 4 (by decide)
    have e5 : ρ 5 = x5 := hx 5 (by decide)
    have e6 : ρ 6 = x6 := hx 6 (by decide)
    have e7 : ρ 7 = x7 := hx 7 (by decide)
    subst e0
    subst e1
    subst e2
    subst e3
    subst e4
    subst e5
    subst e6
    subst e7
    have g7 := g7 (by decide)
    match Lc, stc, g7, g8 with
    | [v0, v1, v2, v3, v4, v5], [w0, w1], ⟨hv0, hv1, hv2, hv3, hv4, hv5, _⟩, ⟨hw0, hw1, _⟩ =>
      cases hv0
      cases hv1
      cases hv2
      cases hv3
      cases hv4
      cases hw0
      cases hw1
      exact l0 τ ρ v5 hv5 g1 g2 g3 g4 g5 g6
  · intro ρ τ Lc stc hx g1 g2 g3 g4 g5 g6 g7 g8
    have e0 : ρ 0 = x0 := hx 0 (by decide)
    have e1 : ρ 1 = x1 := hx 1 (by decide)
    have e2 : ρ 2 = x2 := hx 2 (by decide)
    have e3 : ρ 3 = x3 := hx 3 (by decide)
    have e4 : ρ 4 = x4 := hx 4 (by decide)
    have e5 : ρ 5 = x5 := hx 5 (by decide)
    have e6 : ρ 6 = x6 := hx 6 (by decide)
    have e7 : ρ 7 = x7 := hx 7 (by decide)
    subst e0
    subst e1
    subst e2
    subst e3
    subst e4
    subst e5
    subst e6
    subst e7
    match stc, g8 with
    | [_], ⟨h, _⟩ => cases h; exact l1 τ ρ g1 g2 g3 g4 g5 g6
set_option maxRecDepth 100000 in
theorem tf_b29 {σ : pm_S} {Q : Option Value → pm_S → Prop} (x0 x1 x2 x3 : Int) (v5 : Value) (hv5 : v5.category = 1) (hB : an_GB pm_B σ) (eF : (0 ≤ x0 ∧ x0 ≤ 29) ∧ (1 ≤ x1 ∧ x1 ≤ 9) ∧ (0 ≤ x2 ∧ x2 ≤ 9) ∧ (2 ≤ x3 ∧ x3 ≤ 10) ∧ True)
    (l0 : ∀ (τ : pm_S) (y : Nat → Int), an_GB pm_B τ → FQ [] σ τ → ((0 ≤ x0 ∧ x0 ≤ 29) ∧ (1 ≤ x1 ∧ x1 ≤ 9) ∧ (0 ≤ x2 ∧ x2 ≤ 9) ∧ (2 ≤ x3 ∧ x3 ≤ 10) ∧ True) → (True) → (True) → (True) → Q (some (.int (Int32.ofInt 0))) τ)
    : Ok 205 4 29 [.ref 93, .int (Int32.ofInt (x0)), .int (Int32.ofInt (x1)), .int (Int32.ofInt (x2)), .int (Int32.ofInt (x3)), v5] [] σ Q := by
  refine an_seg (B := pm_B) (F := []) (T := []) (S := []) (fun _ h => absurd h List.not_mem_nil) (k := 205) (d := 3) (cs := []) 4 29 4 [(0, 0, 29), (1, 1, 9), (2, 0, 9), (3, 2, 10)] [] [(2, 93, 0), (0, 0, 0), (0, 1, 0), (0, 2, 0), (0, 3, 0), (5, 0, 0)] [] [(9999, [], [(1, 0, 0)], [(0, 0, 29), (1, 1, 9), (2, 0, 9), (3, 2, 10)], [], [], [])] (by decide +kernel) (ρ0 := (fun s => [x0, x1, x2, x3].getD s 0)) hB eF trivial ⟨rfl, ⟨rfl, ⟨rfl, ⟨rfl, ⟨rfl, ⟨hv5, trivial⟩⟩⟩⟩⟩⟩ trivial ?_
  refine List.forall_mem_cons.mpr ⟨?_, fun _ h => absurd h List.not_mem_nil⟩
  · intro ρ τ Lc stc hx g1 g2 g3 g4 g5 g6 g7 g8
    have e0 : ρ 0 = x0 := hx 0 (by decide)
    have e1 : ρ 1 = x1 := hx 1 (by decide)
    have e2 : ρ 2 = x2 := hx 2 (by decide)
    have e3 : ρ 3 = x3 := hx 3 (by decide)
    subst e0
    subst e1
    subst e2
    subst e3
    match stc, g8 with
    | [_], ⟨h, _⟩ => cases h; exact l0 τ ρ g1 g2 g3 g4 g5 g6
set_option maxRecDepth 100000 in
theorem tf_b31 {σ : pm_S} {Q : Option Value → pm_S → Prop} (x0 x1 x2 x3 : Int) (v5 : Value) (hv5 : v5.category = 1) (hB : an_GB pm_B σ) (eF : (0 ≤ x0 ∧ x0 ≤ 29) ∧ (1 ≤ x1 ∧ x1 ≤ 9) ∧ (0 ≤ x2 ∧ x2 ≤ 9) ∧ (2 ≤ x3 ∧ x3 ≤ 10) ∧ True)
    (l0 : ∀ (τ : pm_S) (y : Nat → Int) (v5 : Value), v5.category = 1 → an_GB pm_B τ → FQ [] σ τ → ((0 ≤ x0 ∧ x0 ≤ 29) ∧ (1 ≤ x1 ∧ x1 ≤ 9) ∧ (0 ≤ x2 ∧ x2 ≤ 9) ∧ (2 ≤ x3 ∧ x3 ≤ 10) ∧ True) → (True) → (True) → (True) → Ok 205 4 35 [.ref 93, .int (Int32.ofInt (x0)), .int (Int32.ofInt (x1)), .int (Int32.ofInt (x2)), .int (Int32.ofInt (x3)), v5] [.int (Int32.ofInt (x3 + (-1))), .int (Int32.ofInt (x1))] τ Q)
    : Ok 205 4 31 [.ref 93, .int (Int32.ofInt (x0)), .int (Int32.ofInt (x1)), .int (Int32.ofInt (x2)), .int (Int32.ofInt (x3)), v5] [] σ Q := by
  refine an_seg (B := pm_B) (F := []) (T := []) (S := []) (fun _ h => absurd h List.not_mem_nil) (k := 205) (d := 3) (cs := [35]) 6 31 4 [(0, 0, 29), (1, 1, 9), (2, 0, 9), (3, 2, 10)] [] [(2, 93, 0), (0, 0, 0), (0, 1, 0), (0, 2, 0), (0, 3, 0), (5, 0, 0)] [] [(35, [(2, 93, 0), (0, 0, 0), (0, 1, 0), (0, 2, 0), (0, 3, 0), (5, 0, 0)], [(0, 3, (-1)), (0, 1, 0)], [(0, 0, 29), (1, 1, 9), (2, 0, 9), (3, 2, 10)], [], [], [])] (by decide +kernel) (ρ0 := (fun s => [x0, x1, x2, x3].getD s 0)) hB eF trivial ⟨rfl, ⟨rfl, ⟨rfl, ⟨rfl, ⟨rfl, ⟨hv5, trivial⟩⟩⟩⟩⟩⟩ trivial ?_
  refine List.forall_mem_cons.mpr ⟨?_, fun _ h => absurd h List.not_mem_nil⟩
  · intro ρ τ Lc stc hx g1 g2 g3 g4 g5 g6 g7 g8
    have e0 : ρ 0 = x0 := hx 0 (by decide)
    have e1 : ρ 1 = x1 := hx 1 (by decide)
    have e2 : ρ 2 = x2 := hx 2 (by decide)
    have e3 : ρ 3 = x3 := hx 3 (by decide)
    subst e0
    subst e1
    subst e2
    subst e3
    have g7 := g7 (by decide)
    match Lc, stc, g7, g8 with
    | [v0, v1, v2, v3, v4, v5], [w0, w1], ⟨hv0, hv1, hv2, hv3, hv4, hv5, _⟩, ⟨hw0, hw1, _⟩ =>
      cases hv0
      cases hv1
      cases hv2
      cases hv3
      cases hv4
      cases hw0
      cases hw1
      exact l0 τ ρ v5 hv5 g1 g2 g3 g4 g5 g6
set_option maxRecDepth 100000 in
theorem tf_b36 {σ : pm_S} {Q : Option Value → pm_S → Prop} (x0 x1 x2 x3 x4 x5 x6 : Int) (v5 : Value) (hv5 : v5.category = 1) (hB : an_GB pm_B σ) (eF : (0 ≤ x0 ∧ x0 ≤ 29) ∧ (1 ≤ x1 ∧ x1 ≤ 9) ∧ (0 ≤ x2 ∧ x2 ≤ 9) ∧ (2 ≤ x3 ∧ x3 ≤ 10) ∧ (0 ≤ x4 ∧ x4 ≤ 9) ∧ (0 ≤ x5 ∧ x5 ≤ 29) ∧ (0 ≤ x6 ∧ x6 ≤ 9) ∧ True) (eC : (σ.1 102 (x0).toNat).toInt = x4 ∧ (σ.1 124 0).toInt = x5 ∧ (σ.1 101 (x5).toNat).toInt = x6 ∧ True)
    (l0 : ∀ (τ : pm_S) (y : Nat → Int) (v5 : Value), v5.category = 1 → an_GB pm_B τ → FQ [] σ τ → ((0 ≤ x0 ∧ x0 ≤ 29) ∧ (1 ≤ x1 ∧ x1 ≤ 9) ∧ (0 ≤ x2 ∧ x2 ≤ 9) ∧ (2 ≤ x3 ∧ x3 ≤ 10) ∧ (0 ≤ x4 ∧ x4 ≤ 9) ∧ (0 ≤ x5 ∧ x5 ≤ 29) ∧ (0 ≤ x6 ∧ x6 ≤ 9) ∧ True) → (True) → (True) → ((τ.1 101 (x5).toNat).toInt = x6 ∧ (τ.1 102 (x0).toNat).toInt = x4 ∧ (τ.1 124 0).toInt = x5 ∧ True) → Ok 205 4 47 [.ref 93, .int (Int32.ofInt (x0)), .int (Int32.ofInt (x1)), .int (Int32.ofInt (x2)), .int (Int32.ofInt (x3)), v5] [.int (Int32.ofInt (x6)), .int (Int32.ofInt (x4))] τ Q)
    : Ok 205 4 36 [.ref 93, .int (Int32.ofInt (x0)), .int (Int32.ofInt (x1)), .int (Int32.ofInt (x2)), .int (Int32.ofInt (x3)), v5] [] σ Q := by
  refine an_seg (B := pm_B) (F := []) (T := [101, 102, 124]) (S := []) (fun _ h => absurd h List.not_mem_nil) (k := 205) (d := 3) (cs := [47]) 13 36 7 [(0, 0, 29), (1, 1, 9), (2, 0, 9), (3, 2, 10), (4, 0, 9), (5, 0, 29), (6, 0, 9)] [(102, (0, 0, 0), (0, 4, 0)), (124, (1, 0, 0), (0, 5, 0)), (101, (0, 5, 0), (0, 6, 0))] [(2, 93, 0), (0, 0, 0), (0, 1, 0), (0, 2, 0), (0, 3, 0), (5, 0, 0)] [] [(47, [(2, 93, 0), (0, 0, 0), (0, 1, 0), (0, 2, 0), (0, 3, 0), (5, 0, 0)], [(0, 6, 0), (0, 4, 0)], [(0, 0, 29), (1, 1, 9), (2, 0, 9), (3, 2, 10), (4, 0, 9), (5, 0, 29), (6, 0, 9)], [], [], [(101, (0, 5, 0), (0, 6, 0)), (102, (0, 0, 0), (0, 4, 0)), (124, (1, 0, 0), (0, 5, 0))])] (by decide +kernel) (ρ0 := (fun s => [x0, x1, x2, x3, x4, x5, x6].getD s 0)) hB eF eC ⟨rfl, ⟨rfl, ⟨rfl, ⟨rfl, ⟨rfl, ⟨hv5, trivial⟩⟩⟩⟩⟩⟩ trivial ?_
  refine List.forall_mem_cons.mpr ⟨?_, fun _ h => absurd h List.not_mem_nil⟩
  · intro ρ τ Lc stc hx g1 g2 g3 g4 g5 g6 g7 g8
    have e0 : ρ 0 = x0 := hx 0 (by decide)
    have e1 : ρ 1 = x1 := hx 1 (by decide)
    have e2 : ρ 2 = x2 := hx 2 (by decide)
    have e3 : ρ 3 = x3 := hx 3 (by decide)
    have e4 : ρ 4 = x4 := hx 4 (by decide)
    have e5 : ρ 5 = x5 := hx 5 (by decide)
    have e6 : ρ 6 = x6 := hx 6 (by decide)
    subst e0
    subst e1
    subst e2
    subst e3
    subst e4
    subst e5
    subst e6
    have g7 := g7 (by decide)
    match Lc, stc, g7, g8 with
    | [v0, v1, v2, v3, v4, v5], [w0, w1], ⟨hv0, hv1, hv2, hv3, hv4, hv5, _⟩, ⟨hw0, hw1, _⟩ =>
      cases hv0
      cases hv1
      cases hv2
      cases hv3
      cases hv4
      cases hw0
      cases hw1
      exact l0 τ ρ v5 hv5 g1 g2 g3 g4 g5 g6
set_option maxRecDepth 100000 in
theorem tf_b48 {σ : pm_S} {Q : Option Value → pm_S → Prop} (x0 x1 x2 x3 : Int) (v5 : Value) (hv5 : v5.category = 1) (hB : an_GB pm_B σ) (eF : (0 ≤ x0 ∧ x0 ≤ 29) ∧ (1 ≤ x1 ∧ x1 ≤ 9) ∧ (0 ≤ x2 ∧ x2 ≤ 9) ∧ (2 ≤ x3 ∧ x3 ≤ 10) ∧ True)
    (l0 : ∀ (τ : pm_S) (y : Nat → Int), an_GB pm_B τ → FQ [] σ τ → ((0 ≤ x0 ∧ x0 ≤ 29) ∧ (1 ≤ x1 ∧ x1 ≤ 9) ∧ (0 ≤ x2 ∧ x2 ≤ 9) ∧ (2 ≤ x3 ∧ x3 ≤ 10) ∧ True) → (True) → (True) → (True) → Q (some (.int (Int32.ofInt 1))) τ)
    : Ok 205 4 48 [.ref 93, .int (Int32.ofInt (x0)), .int (Int32.ofInt (x1)), .int (Int32.ofInt (x2)), .int (Int32.ofInt (x3)), v5] [] σ Q := by
  refine an_seg (B := pm_B) (F := []) (T := []) (S := []) (fun _ h => absurd h List.not_mem_nil) (k := 205) (d := 3) (cs := []) 5 48 4 [(0, 0, 29), (1, 1, 9), (2, 0, 9), (3, 2, 10)] [] [(2, 93, 0), (0, 0, 0), (0, 1, 0), (0, 2, 0), (0, 3, 0), (5, 0, 0)] [] [(9999, [], [(1, 0, 1)], [(0, 0, 29), (1, 1, 9), (2, 0, 9), (3, 2, 10)], [], [], [])] (by decide +kernel) (ρ0 := (fun s => [x0, x1, x2, x3].getD s 0)) hB eF trivial ⟨rfl, ⟨rfl, ⟨rfl, ⟨rfl, ⟨rfl, ⟨hv5, trivial⟩⟩⟩⟩⟩⟩ trivial ?_
  refine List.forall_mem_cons.mpr ⟨?_, fun _ h => absurd h List.not_mem_nil⟩
  · intro ρ τ Lc stc hx g1 g2 g3 g4 g5 g6 g7 g8
    have e0 : ρ 0 = x0 := hx 0 (by decide)
    have e1 : ρ 1 = x1 := hx 1 (by decide)
    have e2 : ρ 2 = x2 := hx 2 (by decide)
    have e3 : ρ 3 = x3 := hx 3 (by decide)
    subst e0
    subst e1
    subst e2
    subst e3
    match stc, g8 with
    | [_], ⟨h, _⟩ => cases h; exact l0 τ ρ g1 g2 g3 g4 g5 g6
set_option maxRecDepth 100000 in
theorem tf_b50 {σ : pm_S} {Q : Option Value → pm_S → Prop} (x0 x1 x2 x3 : Int) (v5 : Value) (hv5 : v5.category = 1) (hB : an_GB pm_B σ) (eF : (0 ≤ x0 ∧ x0 ≤ 29) ∧ (1 ≤ x1 ∧ x1 ≤ 9) ∧ (0 ≤ x2 ∧ x2 ≤ 9) ∧ (2 ≤ x3 ∧ x3 ≤ 10) ∧ True)
    (l0 : ∀ (τ : pm_S) (y : Nat → Int), an_GB pm_B τ → FQ [] σ τ → ((0 ≤ x0 ∧ x0 ≤ 29) ∧ (1 ≤ x1 ∧ x1 ≤ 9) ∧ (0 ≤ x2 ∧ x2 ≤ 9) ∧ (2 ≤ x3 ∧ x3 ≤ 10) ∧ True) → (True) → (True) → (True) → Q (some (.int (Int32.ofInt 0))) τ)
    : Ok 205 4 50 [.ref 93, .int (Int32.ofInt (x0)), .int (Int32.ofInt (x1)), .int (Int32.ofInt (x2)), .int (Int32.ofInt (x3)), v5] [] σ Q := by
  refine an_seg (B := pm_B) (F := []) (T := []) (S := []) (fun _ h => absurd h List.not_mem_nil) (k := 205) (d := 3) (cs := []) 4 50 4 [(0, 0, 29), (1, 1, 9), (2, 0, 9), (3, 2, 10)] [] [(2, 93, 0), (0, 0, 0), (0, 1, 0), (0, 2, 0), (0, 3, 0), (5, 0, 0)] [] [(9999, [], [(1, 0, 0)], [(0, 0, 29), (1, 1, 9), (2, 0, 9), (3, 2, 10)], [], [], [])] (by decide +kernel) (ρ0 := (fun s => [x0, x1, x2, x3].getD s 0)) hB eF trivial ⟨rfl, ⟨rfl, ⟨rfl, ⟨rfl, ⟨rfl, ⟨hv5, trivial⟩⟩⟩⟩⟩⟩ trivial ?_
  refine List.forall_mem_cons.mpr ⟨?_, fun _ h => absurd h List.not_mem_nil⟩
  · intro ρ τ Lc stc hx g1 g2 g3 g4 g5 g6 g7 g8
    have e0 : ρ 0 = x0 := hx 0 (by decide)
    have e1 : ρ 1 = x1 := hx 1 (by decide)
    have e2 : ρ 2 = x2 := hx 2 (by decide)
    have e3 : ρ 3 = x3 := hx 3 (by decide)
    subst e0
    subst e1
    subst e2
    subst e3
    match stc, g8 with
    | [_], ⟨h, _⟩ => cases h; exact l0 τ ρ g1 g2 g3 g4 g5 g6
set_option maxRecDepth 100000 in
theorem tf_b52 {σ : pm_S} {Q : Option Value → pm_S → Prop} (x0 x1 x2 x3 : Int) (v5 : Value) (hv5 : v5.category = 1) (hB : an_GB pm_B σ) (eF : (0 ≤ x0 ∧ x0 ≤ 29) ∧ (1 ≤ x1 ∧ x1 ≤ 9) ∧ (0 ≤ x2 ∧ x2 ≤ 9) ∧ (2 ≤ x3 ∧ x3 ≤ 10) ∧ True)
    (l0 : ∀ (τ : pm_S) (y : Nat → Int), an_GB pm_B τ → FQ [] σ τ → ((0 ≤ x0 ∧ x0 ≤ 29) ∧ (1 ≤ x1 ∧ x1 ≤ 9) ∧ (0 ≤ x2 ∧ x2 ≤ 9) ∧ (2 ≤ x3 ∧ x3 ≤ 10) ∧ True) → (True) → (True) → (True) → Ok 205 4 54 [.ref 93, .int (Int32.ofInt (x0)), .int (Int32.ofInt (x1)), .int (Int32.ofInt (x2)), .int (Int32.ofInt (x3)), .int (Int32.ofInt 0)] [] τ Q)
    : Ok 205 4 52 [.ref 93, .int (Int32.ofInt (x0)), .int (Int32.ofInt (x1)), .int (Int32.ofInt (x2)), .int (Int32.ofInt (x3)), v5] [] σ Q := by
  refine an_seg (B := pm_B) (F := []) (T := []) (S := []) (fun _ h => absurd h List.not_mem_nil) (k := 205) (d := 3) (cs := [54]) 4 52 4 [(0, 0, 29), (1, 1, 9), (2, 0, 9), (3, 2, 10)] [] [(2, 93, 0), (0, 0, 0), (0, 1, 0), (0, 2, 0), (0, 3, 0), (5, 0, 0)] [] [(54, [(2, 93, 0), (0, 0, 0), (0, 1, 0), (0, 2, 0), (0, 3, 0), (1, 0, 0)], [], [(0, 0, 29), (1, 1, 9), (2, 0, 9), (3, 2, 10)], [], [], [])] (by decide +kernel) (ρ0 := (fun s => [x0, x1, x2, x3].getD s 0)) hB eF trivial ⟨rfl, ⟨rfl, ⟨rfl, ⟨rfl, ⟨rfl, ⟨hv5, trivial⟩⟩⟩⟩⟩⟩ trivial ?_
  refine List.forall_mem_cons.mpr ⟨?_, fun _ h => absurd h List.not_mem_nil⟩
  · intro ρ τ Lc stc hx g1 g2 g3 g4 g5 g6 g7 g8
    have e0 : ρ 0 = x0 := hx 0 (by decide)
    have e1 : ρ 1 = x1 := hx 1 (by decide)
    have e2 : ρ 2 = x2 := hx 2 (by decide)
    have e3 : ρ 3 = x3 := hx 3 (by decide)
    subst e0
    subst e1
    subst e2
    subst e3
    have g7 := g7 (by decide)
    match Lc, stc, g7, g8 with
    | [v0, v1, v2, v3, v4, v5], [], ⟨hv0, hv1, hv2, hv3, hv4, hv5, _⟩, _ =>
      cases hv0
      cases hv1
      cases hv2
      cases hv3
      cases hv4
      cases hv5
      exact l0 τ ρ  g1 g2 g3 g4 g5 g6
set_option maxRecDepth 100000 in
theorem tf_b54 {σ : pm_S} {Q : Option Value → pm_S → Prop} (x0 x1 x2 x3 x4 : Int)  (hB : an_GB pm_B σ) (eF : (0 ≤ x0 ∧ x0 ≤ 29) ∧ (1 ≤ x1 ∧ x1 ≤ 9) ∧ (0 ≤ x2 ∧ x2 ≤ 9) ∧ (2 ≤ x3 ∧ x3 ≤ 10) ∧ (0 ≤ x4 ∧ x4 ≤ 9) ∧ True)
    (l0 : ∀ (τ : pm_S) (y : Nat → Int), an_GB pm_B τ → FQ [] σ τ → ((0 ≤ x0 ∧ x0 ≤ 29) ∧ (1 ≤ x1 ∧ x1 ≤ 9) ∧ (0 ≤ x2 ∧ x2 ≤ 9) ∧ (2 ≤ x3 ∧ x3 ≤ 10) ∧ (0 ≤ x4 ∧ x4 ≤ 9) ∧ True) → (True) → (True) → (True) → Ok 205 4 56 [.ref 93, .int (Int32.ofInt (x0)), .int (Int32.ofInt (x1)), .int (Int32.ofInt (x2)), .int (Int32.ofInt (x3)), .int (Int32.ofInt (x4))] [.int (Int32.ofInt (x1)), .int (Int32.ofInt (x4))] τ Q)
    : Ok 205 4 54 [.ref 93, .int (Int32.ofInt (x0)), .int (Int32.ofInt (x1)), .int (Int32.ofInt (x2)), .int (Int32.ofInt (x3)), .int (Int32.ofInt (x4))] [] σ Q := by
  refine an_seg (B := pm_B) (F := []) (T := []) (S := []) (fun _ h => absurd h List.not_mem_nil) (k := 205) (d := 3) (cs := [56]) 4 54 5 [(0, 0, 29), (1, 1, 9), (2, 0, 9), (3, 2, 10), (4, 0, 9)] [] [(2, 93, 0), (0, 0, 0), (0, 1, 0), (0, 2, 0), (0, 3, 0), (0, 4, 0)] [] [(56, [(2, 93, 0), (0, 0, 0), (0, 1, 0), (0, 2, 0), (0, 3, 0), (0, 4, 0)], [(0, 1, 0), (0, 4, 0)], [(0, 0, 29), (1, 1, 9), (2, 0, 9), (3, 2, 10), (4, 0, 9)], [], [], [])] (by decide +kernel) (ρ0 := (fun s => [x0, x1, x2, x3, x4].getD s 0)) hB eF trivial ⟨rfl, ⟨rfl, ⟨rfl, ⟨rfl, ⟨rfl, ⟨rfl, trivial⟩⟩⟩⟩⟩⟩ trivial ?_
  refine List.forall_mem_cons.mpr ⟨?_, fun _ h => absurd h List.not_mem_nil⟩
  · intro ρ τ Lc stc hx g1 g2 g3 g4 g5 g6 g7 g8
    have e0 : ρ 0 = x0 := hx 0 (by decide)
    have e1 : ρ 1 = x1 := hx 1 (by decide)
    have e2 : ρ 2 = x2 := hx 2 (by decide)
    have e3 : ρ 3 = x3 := hx 3 (by decide)
    have e4 : ρ 4 = x4 := hx 4 (by decide)
    subst e0
    subst e1
    subst e2
    subst e3
    subst e4
    have g7 := g7 (by decide)
    match Lc, stc, g7, g8 with
    | [v0, v1, v2, v3, v4, v5], [w0, w1], ⟨hv0, hv1, hv2, hv3, hv4, hv5, _⟩, ⟨hw0, hw1, _⟩ =>
      cases hv0
      cases hv1
      cases hv2
      cases hv3
      cases hv4
      cases hv5
      cases hw0
      cases hw1
      exact l0 τ ρ  g1 g2 g3 g4 g5 g6
set_option maxRecDepth 100000 in
theorem tf_b57 {σ : pm_S} {Q : Option Value → pm_S → Prop} (x0 x1 x2 x3 x4 x5 x6 x7 : Int)  (hB : an_GB pm_B σ) (eF : (0 ≤ x0 ∧ x0 ≤ 29) ∧ (1 ≤ x1 ∧ x1 ≤ 9) ∧ (0 ≤ x2 ∧ x2 ≤ 9) ∧ (2 ≤ x3 ∧ x3 ≤ 10) ∧ (0 ≤ x4 ∧ x4 ≤ 8) ∧ (0 ≤ x5 ∧ x5 ≤ 9) ∧ (0 ≤ x6 ∧ x6 ≤ 29) ∧ (0 ≤ x7 ∧ x7 ≤ 9) ∧ True) (eC : (σ.1 102 (x0).toNat).toInt = x5 ∧ (σ.1 124 (x4).toNat).toInt = x6 ∧ (σ.1 101 (x6).toNat).toInt = x7 ∧ True)
    (l0 : ∀ (τ : pm_S) (y : Nat → Int), an_GB pm_B τ → FQ [] σ τ → ((0 ≤ x0 ∧ x0 ≤ 29) ∧ (1 ≤ x1 ∧ x1 ≤ 9) ∧ (0 ≤ x2 ∧ x2 ≤ 9) ∧ (2 ≤ x3 ∧ x3 ≤ 10) ∧ (0 ≤ x4 ∧ x4 ≤ 8) ∧ (0 ≤ x5 ∧ x5 ≤ 9) ∧ (0 ≤ x6 ∧ x6 ≤ 29) ∧ (0 ≤ x7 ∧ x7 ≤ 9) ∧ True) → (True) → (True) → ((τ.1 101 (x6).toNat).toInt = x7 ∧ (τ.1 102 (x0).toNat).toInt = x5 ∧ (τ.1 124 (x4).toNat).toInt = x6 ∧ True) → Ok 205 4 68 [.ref 93, .int (Int32.ofInt (x0)), .int (Int32.ofInt (x1)), .int (Int32.ofInt (x2)), .int (Int32.ofInt (x3)), .int (Int32.ofInt (x4))] [.int (Int32.ofInt (x7)), .int (Int32.ofInt (x5))] τ Q)
    : Ok 205 4 57 [.ref 93, .int (Int32.ofInt (x0)), .int (Int32.ofInt (x1)), .int (Int32.ofInt (x2)), .int (Int32.ofInt (x3)), .int (Int32.ofInt (x4))] [] σ Q := by
  refine an_seg (B := pm_B) (F := []) (T := [101, 102, 124]) (S := []) (fun _ h => absurd h List.not_mem_nil) (k := 205) (d := 3) (cs := [68]) 13 57 8 [(0, 0, 29), (1, 1, 9), (2, 0, 9), (3, 2, 10), (4, 0, 8), (5, 0, 9), (6, 0, 29), (7, 0, 9)] [(102, (0, 0, 0), (0, 5, 0)), (124, (0, 4, 0), (0, 6, 0)), (101, (0, 6, 0), (0, 7, 0))] [(2, 93, 0), (0, 0, 0), (0, 1, 0), (0, 2, 0), (0, 3, 0), (0, 4, 0)] [] [(68, [(2, 93, 0), (0, 0, 0), (0, 1, 0), (0, 2, 0), (0, 3, 0), (0, 4, 0)], [(0, 7, 0), (0, 5, 0)], [(0, 0, 29), (1, 1, 9), (2, 0, 9), (3, 2, 10), (4, 0, 8), (5, 0, 9), (6, 0, 29), (7, 0, 9)], [], [], [(101, (0, 6, 0), (0, 7, 0)), (102, (0, 0, 0), (0, 5, 0)), (124, (0, 4, 0), (0, 6, 0))])] (by decide +kernel) (ρ0 := (fun s => [x0, x1, x2, x3, x4, x5, x6, x7].getD s 0)) hB eF eC ⟨rfl, ⟨rfl, ⟨rfl, ⟨rfl, ⟨rfl, ⟨rfl, trivial⟩⟩⟩⟩⟩⟩ trivial ?_
  refine List.forall_mem_cons.mpr ⟨?_, fun _ h => absurd h List.not_mem_nil⟩
  · intro ρ τ Lc stc hx g1 g2 g3 g4 g5 g6 g7 g8
    have e0 : ρ 0 = x0 := hx 0 (by decide)
    have e1 : ρ 1 = x1 := hx 1 (by decide)
    have e2 : ρ 2 = x2 := hx 2 (by decide)
    have e3 : ρ 3 = x3 := hx 3 (by decide)
    have e4 : ρ 4 = x4 := hx 4 (by decide)
    have e5 : ρ 5 = x5 := hx 5 (by decide)
    have e6 : ρ 6 = x6 := hx 6 (by decide)
    have e7 : ρ 7 = x7 := hx 7 (by decide)
    subst e0
    subst e1
    subst e2
    subst e3
    subst e4
    subst e5
    subst e6
    subst e7
    have g7 := g7 (by decide)
    match Lc, stc, g7, g8 with
    | [v0, v1, v2, v3, v4, v5], [w0, w1], ⟨hv0, hv1, hv2, hv3, hv4, hv5, _⟩, ⟨hw0, hw1, _⟩ =>
      cases hv0
      cases hv1
      cases hv2
      cases hv3
      cases hv4
      cases hv5
      cases hw0
      cases hw1
      exact l0 τ ρ  g1 g2 g3 g4 g5 g6
set_option maxRecDepth 100000 in
theorem tf_b69 {σ : pm_S} {Q : Option Value → pm_S → Prop} (x0 x1 x2 x3 x4 : Int)  (hB : an_GB pm_B σ) (eF : (0 ≤ x0 ∧ x0 ≤ 29) ∧ (1 ≤ x1 ∧ x1 ≤ 9) ∧ (0 ≤ x2 ∧ x2 ≤ 9) ∧ (2 ≤ x3 ∧ x3 ≤ 10) ∧ (0 ≤ x4 ∧ x4 ≤ 8) ∧ True)
    (l0 : ∀ (τ : pm_S) (y : Nat → Int), an_GB pm_B τ → FQ [] σ τ → ((0 ≤ x0 ∧ x0 ≤ 29) ∧ (1 ≤ x1 ∧ x1 ≤ 9) ∧ (0 ≤ x2 ∧ x2 ≤ 9) ∧ (2 ≤ x3 ∧ x3 ≤ 10) ∧ (0 ≤ x4 ∧ x4 ≤ 8) ∧ True) → (True) → (True) → (True) → Q (some (.int (Int32.ofInt 0))) τ)
    : Ok 205 4 69 [.ref 93, .int (Int32.ofInt (x0)), .int (Int32.ofInt (x1)), .int (Int32.ofInt (x2)), .int (Int32.ofInt (x3)), .int (Int32.ofInt (x4))] [] σ Q := by
  refine an_seg (B := pm_B) (F := []) (T := []) (S := []) (fun _ h => absurd h List.not_mem_nil) (k := 205) (d := 3) (cs := []) 4 69 5 [(0, 0, 29), (1, 1, 9), (2, 0, 9), (3, 2, 10), (4, 0, 8)] [] [(2, 93, 0), (0, 0, 0), (0, 1, 0), (0, 2, 0), (0, 3, 0), (0, 4, 0)] [] [(9999, [], [(1, 0, 0)], [(0, 0, 29), (1, 1, 9), (2, 0, 9), (3, 2, 10), (4, 0, 8)], [], [], [])] (by decide +kernel) (ρ0 := (fun s => [x0, x1, x2, x3, x4].getD s 0)) hB eF trivial ⟨rfl, ⟨rfl, ⟨rfl, ⟨rfl, ⟨rfl, ⟨rfl, trivial⟩⟩⟩⟩⟩⟩ trivial ?_
  refine List.forall_mem_cons.mpr ⟨?_, fun _ h => absurd h List.not_mem_nil⟩
  · intro ρ τ Lc stc hx g1 g2 g3 g4 g5 g6 g7 g8
    have e0 : ρ 0 = x0 := hx 0 (by decide)
    have e1 : ρ 1 = x1 := hx 1 (by decide)
    have e2 : ρ 2 = x2 := hx 2 (by decide)
    have e3 : ρ 3 = x3 := hx 3 (by decide)
    have e4 : ρ 4 = x4 := hx 4 (by decide)
    subst e0
    subst e1
    subst e2
    subst e3
    subst e4
    match stc, g8 with
    | [_], ⟨h, _⟩ => cases h; exact l0 τ ρ g1 g2 g3 g4 g5 g6
set_option maxRecDepth 100000 in
theorem tf_b71 {σ : pm_S} {Q : Option Value → pm_S → Prop} (x0 x1 x2 x3 x4 : Int)  (hB : an_GB pm_B σ) (eF : (0 ≤ x0 ∧ x0 ≤ 29) ∧ (1 ≤ x1 ∧ x1 ≤ 9) ∧ (0 ≤ x2 ∧ x2 ≤ 9) ∧ (2 ≤ x3 ∧ x3 ≤ 10) ∧ (0 ≤ x4 ∧ x4 ≤ 8) ∧ True)
    (l0 : ∀ (τ : pm_S) (y : Nat → Int), an_GB pm_B τ → FQ [] σ τ → ((0 ≤ x0 ∧ x0 ≤ 29) ∧ (1 ≤ x1 ∧ x1 ≤ 9) ∧ (0 ≤ x2 ∧ x2 ≤ 9) ∧ (2 ≤ x3 ∧ x3 ≤ 10) ∧ (0 ≤ x4 ∧ x4 ≤ 8) ∧ True) → (True) → (True) → (True) → Ok 205 4 54 [.ref 93, .int (Int32.ofInt (x0)), .int (Int32.ofInt (x1)), .int (Int32.ofInt (x2)), .int (Int32.ofInt (x3)), .int (Int32.ofInt (x4 + 1))] [] τ Q)
    : Ok 205 4 71 [.ref 93, .int (Int32.ofInt (x0)), .int (Int32.ofInt (x1)), .int (Int32.ofInt (x2)), .int (Int32.ofInt (x3)), .int (Int32.ofInt (x4))] [] σ Q := by
  refine an_seg (B := pm_B) (F := []) (T := []) (S := []) (fun _ h => absurd h List.not_mem_nil) (k := 205) (d := 3) (cs := [54]) 4 71 5 [(0, 0, 29), (1, 1, 9), (2, 0, 9), (3, 2, 10), (4, 0, 8)] [] [(2, 93, 0), (0, 0, 0), (0, 1, 0), (0, 2, 0), (0, 3, 0), (0, 4, 0)] [] [(54, [(2, 93, 0), (0, 0, 0), (0, 1, 0), (0, 2, 0), (0, 3, 0), (0, 4, 1)], [], [(0, 0, 29), (1, 1, 9), (2, 0, 9), (3, 2, 10), (4, 0, 8)], [], [], [])] (by decide +kernel) (ρ0 := (fun s => [x0, x1, x2, x3, x4].getD s 0)) hB eF trivial ⟨rfl, ⟨rfl, ⟨rfl, ⟨rfl, ⟨rfl, ⟨rfl, trivial⟩⟩⟩⟩⟩⟩ trivial ?_
  refine List.forall_mem_cons.mpr ⟨?_, fun _ h => absurd h List.not_mem_nil⟩
  · intro ρ τ Lc stc hx g1 g2 g3 g4 g5 g6 g7 g8
    have e0 : ρ 0 = x0 := hx 0 (by decide)
    have e1 : ρ 1 = x1 := hx 1 (by decide)
    have e2 : ρ 2 = x2 := hx 2 (by decide)
    have e3 : ρ 3 = x3 := hx 3 (by decide)
    have e4 : ρ 4 = x4 := hx 4 (by decide)
    subst e0
    subst e1
    subst e2
    subst e3
    subst e4
    have g7 := g7 (by decide)
    match Lc, stc, g7, g8 with
    | [v0, v1, v2, v3, v4, v5], [], ⟨hv0, hv1, hv2, hv3, hv4, hv5, _⟩, _ =>
      cases hv0
      cases hv1
      cases hv2
      cases hv3
      cases hv4
      cases hv5
      exact l0 τ ρ  g1 g2 g3 g4 g5 g6
set_option maxRecDepth 100000 in
theorem tf_b73 {σ : pm_S} {Q : Option Value → pm_S → Prop} (x0 x1 x2 x3 x4 : Int)  (hB : an_GB pm_B σ) (eF : (0 ≤ x0 ∧ x0 ≤ 29) ∧ (1 ≤ x1 ∧ x1 ≤ 9) ∧ (0 ≤ x2 ∧ x2 ≤ 9) ∧ (2 ≤ x3 ∧ x3 ≤ 10) ∧ (0 ≤ x4 ∧ x4 ≤ 9) ∧ True)
    (l0 : ∀ (τ : pm_S) (y : Nat → Int), an_GB pm_B τ → FQ [] σ τ → ((0 ≤ x0 ∧ x0 ≤ 29) ∧ (1 ≤ x1 ∧ x1 ≤ 9) ∧ (0 ≤ x2 ∧ x2 ≤ 9) ∧ (2 ≤ x3 ∧ x3 ≤ 10) ∧ (0 ≤ x4 ∧ x4 ≤ 9) ∧ True) → (True) → (True) → (True) → Q (some (.int (Int32.ofInt 1))) τ)
    : Ok 205 4 73 [.ref 93, .int (Int32.ofInt (x0)), .int (Int32.ofInt (x1)), .int (Int32.ofInt (x2)), .int (Int32.ofInt (x3)), .int (Int32.ofInt (x4))] [] σ Q := by
  refine an_seg (B := pm_B) (F := []) (T := []) (S := []) (fun _ h => absurd h List.not_mem_nil) (k := 205) (d := 3) (cs := []) 4 73 5 [(0, 0, 29), (1, 1, 9), (2, 0, 9), (3, 2, 10), (4, 0, 9)] [] [(2, 93, 0), (0, 0, 0), (0, 1, 0), (0, 2, 0), (0, 3, 0), (0, 4, 0)] [] [(9999, [], [(1, 0, 1)], [(0, 0, 29), (1, 1, 9), (2, 0, 9), (3, 2, 10), (4, 0, 9)], [], [], [])] (by decide +kernel) (ρ0 := (fun s => [x0, x1, x2, x3, x4].getD s 0)) hB eF trivial ⟨rfl, ⟨rfl, ⟨rfl, ⟨rfl, ⟨rfl, ⟨rfl, trivial⟩⟩⟩⟩⟩⟩ trivial ?_
  refine List.forall_mem_cons.mpr ⟨?_, fun _ h => absurd h List.not_mem_nil⟩
  · intro ρ τ Lc stc hx g1 g2 g3 g4 g5 g6 g7 g8
    have e0 : ρ 0 = x0 := hx 0 (by decide)
    have e1 : ρ 1 = x1 := hx 1 (by decide)
    have e2 : ρ 2 = x2 := hx 2 (by decide)
    have e3 : ρ 3 = x3 := hx 3 (by decide)
    have e4 : ρ 4 = x4 := hx 4 (by decide)
    subst e0
    subst e1
    subst e2
    subst e3
    subst e4
    match stc, g8 with
    | [_], ⟨h, _⟩ => cases h; exact l0 τ ρ g1 g2 g3 g4 g5 g6
set_option maxRecDepth 100000 in
theorem tf_f0 {σ : pm_S} {Q : Option Value → pm_S → Prop} (x0 x1 : Int) (v3 : Value) (v4 : Value) (hv3 : v3.category = 1) (hv4 : v4.category = 1) (hB : an_GB pm_B σ) (eF : (0 ≤ x0 ∧ x0 ≤ 9) ∧ (2 ≤ x1 ∧ x1 ≤ 10) ∧ True)
    (l0 : ∀ (τ : pm_S) (y : Nat → Int) (v4 : Value), v4.category = 1 → an_GB pm_B τ → FQ [] σ τ → ((0 ≤ x0 ∧ x0 ≤ 9) ∧ (2 ≤ x1 ∧ x1 ≤ 10) ∧ True) → (True) → (True) → (True) → Ok 204 6 6 [.ref 93, .int (Int32.ofInt (x0)), .int (Int32.ofInt (x1)), .int (Int32.ofInt 0), v4] [.int (Int32.ofInt (-1)), .int (Int32.ofInt 0), .ref 124] τ Q)
    : Ok 204 6 0 [.ref 93, .int (Int32.ofInt (x0)), .int (Int32.ofInt (x1)), v3, v4] [] σ Q := by
  refine an_seg (B := pm_B) (F := []) (T := []) (S := []) (fun _ h => absurd h List.not_mem_nil) (k := 204) (d := 5) (cs := [6]) 8 0 2 [(0, 0, 9), (1, 2, 10)] [] [(2, 93, 0), (0, 0, 0), (0, 1, 0), (5, 0, 0), (5, 0, 0)] [] [(6, [(2, 93, 0), (0, 0, 0), (0, 1, 0), (1, 0, 0), (5, 0, 0)], [(1, 0, (-1)), (1, 0, 0), (2, 124, 0)], [(0, 0, 9), (1, 2, 10)], [], [], [])] (by decide +kernel) (ρ0 := (fun s => [x0, x1].getD s 0)) hB eF trivial ⟨rfl, ⟨rfl, ⟨rfl, ⟨hv3, ⟨hv4, trivial⟩⟩⟩⟩⟩ trivial ?_
  refine List.forall_mem_cons.mpr ⟨?_, fun _ h => absurd h List.not_mem_nil⟩
  · intro ρ τ Lc stc hx g1 g2 g3 g4 g5 g6 g7 g8
    have e0 : ρ 0 = x0 := hx 0 (by decide)
    have e1 : ρ 1 = x1 := hx 1 (by decide)
    subst e0
    subst e1
    have g7 := g7 (by decide)
    match Lc, stc, g7, g8 with
    | [v0, v1, v2, v3, v4], [w0, w1, w2], ⟨hv0, hv1, hv2, hv3, hv4, _⟩, ⟨hw0, hw1, hw2, _⟩ =>
      cases hv0
      cases hv1
      cases hv2
      cases hv3
      cases hw0
      cases hw1
      cases hw2
      exact l0 τ ρ v4 hv4 g1 g2 g3 g4 g5 g6
set_option maxRecDepth 100000 in
theorem tf_f7m {σ : pm_S} {Q : Option Value → pm_S → Prop} (x0 x1 : Int) (v4 : Value) (hv4 : v4.category = 1) (hB : an_GB pm_B σ) (eF : (0 ≤ x0 ∧ x0 ≤ 9) ∧ (2 ≤ x1 ∧ x1 ≤ 10) ∧ True)
    (l0 : ∀ (τ : pm_S) (y : Nat → Int), an_GB pm_B τ → FQ [] σ τ → ((0 ≤ x0 ∧ x0 ≤ 9) ∧ (2 ≤ x1 ∧ x1 ≤ 10) ∧ True) → (True) → (True) → (True) → Q (some (.int (Int32.ofInt 0))) τ)
    : Ok 204 6 7 [.ref 93, .int (Int32.ofInt (x0)), .int (Int32.ofInt (x1)), .int (Int32.ofInt (-1)), v4] [] σ Q := by
  refine an_seg (B := pm_B) (F := []) (T := []) (S := []) (fun _ h => absurd h List.not_mem_nil) (k := 204) (d := 5) (cs := []) 6 7 2 [(0, 0, 9), (1, 2, 10)] [] [(2, 93, 0), (0, 0, 0), (0, 1, 0), (1, 0, (-1)), (5, 0, 0)] [] [(9999, [], [(1, 0, 0)], [(0, 0, 9), (1, 2, 10)], [], [], [])] (by decide +kernel) (ρ0 := (fun s => [x0, x1].getD s 0)) hB eF trivial ⟨rfl, ⟨rfl, ⟨rfl, ⟨(by exact rfl), ⟨hv4, trivial⟩⟩⟩⟩⟩ trivial ?_
  refine List.forall_mem_cons.mpr ⟨?_, fun _ h => absurd h List.not_mem_nil⟩
  · intro ρ τ Lc stc hx g1 g2 g3 g4 g5 g6 g7 g8
    have e0 : ρ 0 = x0 := hx 0 (by decide)
    have e1 : ρ 1 = x1 := hx 1 (by decide)
    subst e0
    subst e1
    match stc, g8 with
    | [_], ⟨h, _⟩ => cases h; exact l0 τ ρ g1 g2 g3 g4 g5 g6
set_option maxRecDepth 100000 in
theorem tf_f7 {σ : pm_S} {Q : Option Value → pm_S → Prop} (x0 x1 x2 x3 : Int) (v4 : Value) (hv4 : v4.category = 1) (hB : an_GB pm_B σ) (eF : (0 ≤ x0 ∧ x0 ≤ 9) ∧ (2 ≤ x1 ∧ x1 ≤ 10) ∧ (0 ≤ x2 ∧ x2 ≤ 9) ∧ ((-1) ≤ x3 ∧ x3 ≤ 29) ∧ True) (eC : (σ.1 124 (x2).toNat).toInt = x3 ∧ True)
    (l0 : ∀ (τ : pm_S) (y : Nat → Int), an_GB pm_B τ → FQ [] σ τ → ((0 ≤ x0 ∧ x0 ≤ 9) ∧ (2 ≤ x1 ∧ x1 ≤ 10) ∧ (0 ≤ x2 ∧ x2 ≤ 9) ∧ ((-1) ≤ x3 ∧ x3 ≤ 29) ∧ True) → (True) → (True) → ((τ.1 124 (x2).toNat).toInt = x3 ∧ True) → Ok 204 6 16 [.ref 93, .int (Int32.ofInt (x0)), .int (Int32.ofInt (x1)), .int (Int32.ofInt (x2)), .int (Int32.ofInt (x3 + 1))] [] τ Q)
    : Ok 204 6 7 [.ref 93, .int (Int32.ofInt (x0)), .int (Int32.ofInt (x1)), .int (Int32.ofInt (x2)), v4] [] σ Q := by
  refine an_seg (B := pm_B) (F := []) (T := [124]) (S := []) (fun _ h => absurd h List.not_mem_nil) (k := 204) (d := 5) (cs := [16]) 11 7 4 [(0, 0, 9), (1, 2, 10), (2, 0, 9), (3, (-1), 29)] [(124, (0, 2, 0), (0, 3, 0))] [(2, 93, 0), (0, 0, 0), (0, 1, 0), (0, 2, 0), (5, 0, 0)] [] [(16, [(2, 93, 0), (0, 0, 0), (0, 1, 0), (0, 2, 0), (0, 3, 1)], [], [(0, 0, 9), (1, 2, 10), (2, 0, 9), (3, (-1), 29)], [], [], [(124, (0, 2, 0), (0, 3, 0))])] (by decide +kernel) (ρ0 := (fun s => [x0, x1, x2, x3].getD s 0)) hB eF eC ⟨rfl, ⟨rfl, ⟨rfl, ⟨rfl, ⟨hv4, trivial⟩⟩⟩⟩⟩ trivial ?_
  refine List.forall_mem_cons.mpr ⟨?_, fun _ h => absurd h List.not_mem_nil⟩
  · intro ρ τ Lc stc hx g1 g2 g3 g4 g5 g6 g7 g8
    have e0 : ρ 0 = x0 := hx 0 (by decide)
    have e1 : ρ 1 = x1 := hx 1 (by decide)
    have e2 : ρ 2 = x2 := hx 2 (by decide)
    have e3 : ρ 3 = x3 := hx 3 (by decide)
    subst e0
    subst e1
    subst e2
    subst e3
    have g7 := g7 (by decide)
    match Lc, stc, g7, g8 with
    | [v0, v1, v2, v3, v4], [], ⟨hv0, hv1, hv2, hv3, hv4, _⟩, _ =>
      cases hv0
      cases hv1
      cases hv2
      cases hv3
      cases hv4
      exact l0 τ ρ  g1 g2 g3 g4 g5 g6
set_option maxRecDepth 100000 in
theorem tf_f16 {σ : pm_S} {Q : Option Value → pm_S → Prop} (x0 x1 x2 x3 x4 : Int)  (hB : an_GB pm_B σ) (eF : (0 ≤ x0 ∧ x0 ≤ 9) ∧ (2 ≤ x1 ∧ x1 ≤ 10) ∧ (0 ≤ x2 ∧ x2 ≤ 9) ∧ (0 ≤ x3 ∧ x3 ≤ 30) ∧ (0 ≤ x4 ∧ x4 ≤ 30) ∧ True) (eC : (σ.1 93 11).toInt = x4 ∧ True)
    (l0 : ∀ (τ : pm_S) (y : Nat → Int), an_GB pm_B τ → FQ [] σ τ → ((0 ≤ x0 ∧ x0 ≤ 9) ∧ (2 ≤ x1 ∧ x1 ≤ 10) ∧ (0 ≤ x2 ∧ x2 ≤ 9) ∧ (0 ≤ x3 ∧ x3 ≤ 30) ∧ (0 ≤ x4 ∧ x4 ≤ 30) ∧ True) → (True) → (True) → ((τ.1 93 11).toInt = x4 ∧ True) → Ok 204 6 19 [.ref 93, .int (Int32.ofInt (x0)), .int (Int32.ofInt (x1)), .int (Int32.ofInt (x2)), .int (Int32.ofInt (x3))] [.int (Int32.ofInt (x4)), .int (Int32.ofInt (x3))] τ Q)
    : Ok 204 6 16 [.ref 93, .int (Int32.ofInt (x0)), .int (Int32.ofInt (x1)), .int (Int32.ofInt (x2)), .int (Int32.ofInt (x3))] [] σ Q := by
  refine an_seg (B := pm_B) (F := []) (T := []) (S := []) (fun _ h => absurd h List.not_mem_nil) (k := 204) (d := 5) (cs := [19]) 5 16 5 [(0, 0, 9), (1, 2, 10), (2, 0, 9), (3, 0, 30), (4, 0, 30)] [(93, (1, 0, 11), (0, 4, 0))] [(2, 93, 0), (0, 0, 0), (0, 1, 0), (0, 2, 0), (0, 3, 0)] [] [(19, [(2, 93, 0), (0, 0, 0), (0, 1, 0), (0, 2, 0), (0, 3, 0)], [(0, 4, 0), (0, 3, 0)], [(0, 0, 9), (1, 2, 10), (2, 0, 9), (3, 0, 30), (4, 0, 30)], [], [], [(93, (1, 0, 11), (0, 4, 0))])] (by decide +kernel) (ρ0 := (fun s => [x0, x1, x2, x3, x4].getD s 0)) hB eF eC ⟨rfl, ⟨rfl, ⟨rfl, ⟨rfl, ⟨rfl, trivial⟩⟩⟩⟩⟩ trivial ?_
  refine List.forall_mem_cons.mpr ⟨?_, fun _ h => absurd h List.not_mem_nil⟩
  · intro ρ τ Lc stc hx g1 g2 g3 g4 g5 g6 g7 g8
    have e0 : ρ 0 = x0 := hx 0 (by decide)
    have e1 : ρ 1 = x1 := hx 1 (by decide)
    have e2 : ρ 2 = x2 := hx 2 (by decide)
    have e3 : ρ 3 = x3 := hx 3 (by decide)
    have e4 : ρ 4 = x4 := hx 4 (by decide)
    subst e0
    subst e1
    subst e2
    subst e3
    subst e4
    have g7 := g7 (by decide)
    match Lc, stc, g7, g8 with
    | [v0, v1, v2, v3, v4], [w0, w1], ⟨hv0, hv1, hv2, hv3, hv4, _⟩, ⟨hw0, hw1, _⟩ =>
      cases hv0
      cases hv1
      cases hv2
      cases hv3
      cases hv4
      cases hw0
      cases hw1
      exact l0 τ ρ  g1 g2 g3 g4 g5 g6
set_option maxRecDepth 100000 in
theorem tf_f20 {σ : pm_S} {Q : Option Value → pm_S → Prop} (x0 x1 x2 x3 : Int)  (hB : an_GB pm_B σ) (eF : (0 ≤ x0 ∧ x0 ≤ 9) ∧ (2 ≤ x1 ∧ x1 ≤ 10) ∧ (0 ≤ x2 ∧ x2 ≤ 9) ∧ (0 ≤ x3 ∧ x3 ≤ 29) ∧ True)
    (l0 : ∀ (τ : pm_S) (y : Nat → Int), an_GB pm_B τ → FQ [] σ τ → ((0 ≤ x0 ∧ x0 ≤ 9) ∧ (2 ≤ x1 ∧ x1 ≤ 10) ∧ (0 ≤ x2 ∧ x2 ≤ 9) ∧ (0 ≤ x3 ∧ x3 ≤ 29) ∧ True) → (True) → (True) → (True) → Ok 204 6 25 [.ref 93, .int (Int32.ofInt (x0)), .int (Int32.ofInt (x1)), .int (Int32.ofInt (x2)), .int (Int32.ofInt (x3))] [.int (Int32.ofInt (x1)), .int (Int32.ofInt (x0)), .int (Int32.ofInt (x2)), .int (Int32.ofInt (x3)), .ref 93] τ Q)
    : Ok 204 6 20 [.ref 93, .int (Int32.ofInt (x0)), .int (Int32.ofInt (x1)), .int (Int32.ofInt (x2)), .int (Int32.ofInt (x3))] [] σ Q := by
  refine an_seg (B := pm_B) (F := []) (T := []) (S := []) (fun _ h => absurd h List.not_mem_nil) (k := 204) (d := 5) (cs := [25]) 7 20 4 [(0, 0, 9), (1, 2, 10), (2, 0, 9), (3, 0, 29)] [] [(2, 93, 0), (0, 0, 0), (0, 1, 0), (0, 2, 0), (0, 3, 0)] [] [(25, [(2, 93, 0), (0, 0, 0), (0, 1, 0), (0, 2, 0), (0, 3, 0)], [(0, 1, 0), (0, 0, 0), (0, 2, 0), (0, 3, 0), (2, 93, 0)], [(0, 0, 9), (1, 2, 10), (2, 0, 9), (3, 0, 29)], [], [], [])] (by decide +kernel) (ρ0 := (fun s => [x0, x1, x2, x3].getD s 0)) hB eF trivial ⟨rfl, ⟨rfl, ⟨rfl, ⟨rfl, ⟨rfl, trivial⟩⟩⟩⟩⟩ trivial ?_
  refine List.forall_mem_cons.mpr ⟨?_, fun _ h => absurd h List.not_mem_nil⟩
  · intro ρ τ Lc stc hx g1 g2 g3 g4 g5 g6 g7 g8
    have e0 : ρ 0 = x0 := hx 0 (by decide)
    have e1 : ρ 1 = x1 := hx 1 (by decide)
    have e2 : ρ 2 = x2 := hx 2 (by decide)
    have e3 : ρ 3 = x3 := hx 3 (by decide)
    subst e0
    subst e1
    subst e2
    subst e3
    have g7 := g7 (by decide)
    match Lc, stc, g7, g8 with
    | [v0, v1, v2, v3, v4], [w0, w1, w2, w3, w4], ⟨hv0, hv1, hv2, hv3, hv4, _⟩, ⟨hw0, hw1, hw2, hw3, hw4, _⟩ =>
      cases hv0
      cases hv1
      cases hv2
      cases hv3
      cases hv4
      cases hw0
      cases hw1
      cases hw2
      cases hw3
      cases hw4
      exact l0 τ ρ  g1 g2 g3 g4 g5 g6
set_option maxRecDepth 100000 in
theorem tf_f26 {σ : pm_S} {Q : Option Value → pm_S → Prop} (x0 x1 x2 x3 x4 : Int)  (hB : an_GB pm_B σ) (eF : (0 ≤ x0 ∧ x0 ≤ 9) ∧ (2 ≤ x1 ∧ x1 ≤ 10) ∧ (0 ≤ x2 ∧ x2 ≤ 9) ∧ (0 ≤ x3 ∧ x3 ≤ 29) ∧ (0 ≤ x4 ∧ x4 ≤ 1) ∧ True)
    (l0 : ∀ (τ : pm_S) (y : Nat → Int), an_GB pm_B τ → FQ [] σ τ → ((0 ≤ x0 ∧ x0 ≤ 9) ∧ (2 ≤ x1 ∧ x1 ≤ 10) ∧ (0 ≤ x2 ∧ x2 ≤ 9) ∧ (0 ≤ x3 ∧ x3 ≤ 29) ∧ (1 ≤ x4 ∧ x4 ≤ 1) ∧ True) → (True) → (True) → (True) → Ok 204 6 32 [.ref 93, .int (Int32.ofInt (x0)), .int (Int32.ofInt (x1)), .int (Int32.ofInt (x2)), .int (Int32.ofInt (x3))] [] τ Q)
    (l1 : ∀ (τ : pm_S) (y : Nat → Int), an_GB pm_B τ → FQ [] σ τ → ((0 ≤ x0 ∧ x0 ≤ 9) ∧ (2 ≤ x1 ∧ x1 ≤ 10) ∧ (0 ≤ x2 ∧ x2 ≤ 9) ∧ (0 ≤ x3 ∧ x3 ≤ 29) ∧ (0 ≤ x4 ∧ x4 ≤ 0) ∧ True) → (True) → (True) → (True) → Ok 204 6 16 [.ref 93, .int (Int32.ofInt (x0)), .int (Int32.ofInt (x1)), .int (Int32.ofInt (x2)), .int (Int32.ofInt (x3 + 1))] [] τ Q)
    : Ok 204 6 26 [.ref 93, .int (Int32.ofInt (x0)), .int (Int32.ofInt (x1)), .int (Int32.ofInt (x2)), .int (Int32.ofInt (x3))] [.int (Int32.ofInt (x4))] σ Q := by
  refine an_seg (B := pm_B) (F := []) (T := []) (S := []) (fun _ h => absurd h List.not_mem_nil) (k := 204) (d := 5) (cs := [16, 32]) 8 26 5 [(0, 0, 9), (1, 2, 10), (2, 0, 9), (3, 0, 29), (4, 0, 1)] [] [(2, 93, 0), (0, 0, 0), (0, 1, 0), (0, 2, 0), (0, 3, 0)] [(0, 4, 0)] [(32, [(2, 93, 0), (0, 0, 0), (0, 1, 0), (0, 2, 0), (0, 3, 0)], [], [(0, 0, 9), (1, 2, 10), (2, 0, 9), (3, 0, 29), (4, 1, 1)], [], [], []),
    (16, [(2, 93, 0), (0, 0, 0), (0, 1, 0), (0, 2, 0), (0, 3, 1)], [], [(0, 0, 9), (1, 2, 10), (2, 0, 9), (3, 0, 29), (4, 0, 0)], [], [], [])] (by decide +kernel) (ρ0 := (fun s => [x0, x1, x2, x3, x4].getD s 0)) hB eF trivial ⟨rfl, ⟨rfl, ⟨rfl, ⟨rfl, ⟨rfl, trivial⟩⟩⟩⟩⟩ ⟨rfl, trivial⟩ ?_
  refine List.forall_mem_cons.mpr ⟨?_, List.forall_mem_cons.mpr ⟨?_, fun _ h => absurd h List.not_mem_nil⟩⟩
  · intro ρ τ Lc stc hx g1 g2 g3 g4 g5 g6 g7 g8
    have e0 : ρ 0 = x0 := hx 0 (by decide)
    have e1 : ρ 1 = x1 := hx 1 (by decide)
    have e2 : ρ 2 = x2 := hx 2 (by decide)
    have e3 : ρ 3 = x3 := hx 3 (by decide)
    have e4 : ρ 4 = x4 := hx 4 (by decide)
    subst e0
    subst e1
    subst e2
    subst e3
    subst e4
    have g7 := g7 (by decide)
    match Lc, stc, g7, g8 with
    | [v0, v1, v2, v3, v4], [], ⟨hv0, hv1, hv2, hv3, hv4, _⟩, _ =>
      cases hv0
      cases hv1
      cases hv2
      cases hv3
      cases hv4
      exact l0 τ ρ  g1 g2 g3 g4 g5 g6
  · intro ρ τ Lc stc hx g1 g2 g3 g4 g5 g6 g7 g8
    have e0 : ρ 0 = x0 := hx 0 (by decide)
    have e1 : ρ 1 = x1 := hx 1 (by decide)
    have e2 : ρ 2 = x2 := hx 2 (by decide)
    have e3 : ρ 3 = x3 := hx 3 (by decide)
    have e4 : ρ 4 = x4 := hx 4 (by decide)
    subst e0
    subst e1
    subst e2
    subst e3
    subst e4
    have g7 := g7 (by decide)
    match Lc, stc, g7, g8 with
    | [v0, v1, v2, v3, v4], [], ⟨hv0, hv1, hv2, hv3, hv4, _⟩, _ =>
      cases hv0
      cases hv1
      cases hv2
      cases hv3
      cases hv4
      exact l1 τ ρ  g1 g2 g3 g4 g5 g6
set_option maxRecDepth 100000 in
theorem tf_f32 {σ : pm_S} {Q : Option Value → pm_S → Prop} (x0 x1 x2 x3 x4 : Int)  (hB : an_GB pm_B σ) (eF : (0 ≤ x0 ∧ x0 ≤ 9) ∧ (2 ≤ x1 ∧ x1 ≤ 10) ∧ (0 ≤ x2 ∧ x2 ≤ 9) ∧ (0 ≤ x3 ∧ x3 ≤ 30) ∧ (0 ≤ x4 ∧ x4 ≤ 30) ∧ True) (eC : (σ.1 93 11).toInt = x4 ∧ True)
    (l0 : ∀ (τ : pm_S) (y : Nat → Int), an_GB pm_B τ → FQ [] σ τ → ((0 ≤ x0 ∧ x0 ≤ 9) ∧ (2 ≤ x1 ∧ x1 ≤ 10) ∧ (0 ≤ x2 ∧ x2 ≤ 9) ∧ (0 ≤ x3 ∧ x3 ≤ 30) ∧ (0 ≤ x4 ∧ x4 ≤ 30) ∧ True) → (True) → (True) → ((τ.1 93 11).toInt = x4 ∧ True) → Ok 204 6 35 [.ref 93, .int (Int32.ofInt (x0)), .int (Int32.ofInt (x1)), .int (Int32.ofInt (x2)), .int (Int32.ofInt (x3))] [.int (Int32.ofInt (x4)), .int (Int32.ofInt (x3))] τ Q)
    : Ok 204 6 32 [.ref 93, .int (Int32.ofInt (x0)), .int (Int32.ofInt (x1)), .int (Int32.ofInt (x2)), .int (Int32.ofInt (x3))] [] σ Q := by
  refine an_seg (B := pm_B) (F := []) (T := []) (S := []) (fun _ h => absurd h List.not_mem_nil) (k := 204) (d := 5) (cs := [35]) 5 32 5 [(0, 0, 9), (1, 2, 10), (2, 0, 9), (3, 0, 30), (4, 0, 30)] [(93, (1, 0, 11), (0, 4, 0))] [(2, 93, 0), (0, 0, 0), (0, 1, 0), (0, 2, 0), (0, 3, 0)] [] [(35, [(2, 93, 0), (0, 0, 0), (0, 1, 0), (0, 2, 0), (0, 3, 0)], [(0, 4, 0), (0, 3, 0)], [(0, 0, 9), (1, 2, 10), (2, 0, 9), (3, 0, 30), (4, 0, 30)], [], [], [(93, (1, 0, 11), (0, 4, 0))])] (by decide +kernel) (ρ0 := (fun s => [x0, x1, x2, x3, x4].getD s 0)) hB eF eC ⟨rfl, ⟨rfl, ⟨rfl, ⟨rfl, ⟨rfl, trivial⟩⟩⟩⟩⟩ trivial ?_
  refine List.forall_mem_cons.mpr ⟨?_, fun _ h => absurd h List.not_mem_nil⟩
  · intro ρ τ Lc stc hx g1 g2 g3 g4 g5 g6 g7 g8
    have e0 : ρ 0 = x0 := hx 0 (by decide)
    have e1 : ρ 1 = x1 := hx 1 (by decide)
    have e2 : ρ 2 = x2 := hx 2 (by decide)
    have e3 : ρ 3 = x3 := hx 3 (by decide)
    have e4 : ρ 4 = x4 := hx 4 (by decide)
    subst e0
    subst e1
    subst e2
    subst e3
    subst e4
    have g7 := g7 (by decide)
    match Lc, stc, g7, g8 with
    | [v0, v1, v2, v3, v4], [w0, w1], ⟨hv0, hv1, hv2, hv3, hv4, _⟩, ⟨hw0, hw1, _⟩ =>
      cases hv0
      cases hv1
      cases hv2
      cases hv3
      cases hv4
      cases hw0
      cases hw1
      exact l0 τ ρ  g1 g2 g3 g4 g5 g6
set_option maxRecDepth 100000 in
theorem tf_f36 {σ : pm_S} {Q : Option Value → pm_S → Prop} (x0 x1 x2 x3 : Int)  (hB : an_GB pm_B σ) (eF : (0 ≤ x0 ∧ x0 ≤ 9) ∧ (2 ≤ x1 ∧ x1 ≤ 10) ∧ (0 ≤ x2 ∧ x2 ≤ 9) ∧ (0 ≤ x3 ∧ x3 ≤ 30) ∧ True)
    (l0 : ∀ (τ : pm_S) (y : Nat → Int), an_GB pm_B τ → FQ [] σ τ → ((0 ≤ x0 ∧ x0 ≤ 9) ∧ (2 ≤ x1 ∧ x1 ≤ 10) ∧ (0 ≤ x2 ∧ x2 ≤ 9) ∧ (0 ≤ x3 ∧ x3 ≤ 30) ∧ True) → (True) → (True) → (True) → Ok 204 6 7 [.ref 93, .int (Int32.ofInt (x0)), .int (Int32.ofInt (x1)), .int (Int32.ofInt (x2 + (-1))), .int (Int32.ofInt (x3))] [] τ Q)
    : Ok 204 6 36 [.ref 93, .int (Int32.ofInt (x0)), .int (Int32.ofInt (x1)), .int (Int32.ofInt (x2)), .int (Int32.ofInt (x3))] [] σ Q := by
  refine an_seg (B := pm_B) (F := []) (T := []) (S := []) (fun _ h => absurd h List.not_mem_nil) (k := 204) (d := 5) (cs := [7]) 7 36 4 [(0, 0, 9), (1, 2, 10), (2, 0, 9), (3, 0, 30)] [] [(2, 93, 0), (0, 0, 0), (0, 1, 0), (0, 2, 0), (0, 3, 0)] [] [(7, [(2, 93, 0), (0, 0, 0), (0, 1, 0), (0, 2, (-1)), (0, 3, 0)], [], [(0, 0, 9), (1, 2, 10), (2, 0, 9), (3, 0, 30)], [], [], [])] (by decide +kernel) (ρ0 := (fun s => [x0, x1, x2, x3].getD s 0)) hB eF trivial ⟨rfl, ⟨rfl, ⟨rfl, ⟨rfl, ⟨rfl, trivial⟩⟩⟩⟩⟩ trivial ?_
  refine List.forall_mem_cons.mpr ⟨?_, fun _ h => absurd h List.not_mem_nil⟩
  · intro ρ τ Lc stc hx g1 g2 g3 g4 g5 g6 g7 g8
    have e0 : ρ 0 = x0 := hx 0 (by decide)
    have e1 : ρ 1 = x1 := hx 1 (by decide)
    have e2 : ρ 2 = x2 := hx 2 (by decide)
    have e3 : ρ 3 = x3 := hx 3 (by decide)
    subst e0
    subst e1
    subst e2
    subst e3
    have g7 := g7 (by decide)
    match Lc, stc, g7, g8 with
    | [v0, v1, v2, v3, v4], [], ⟨hv0, hv1, hv2, hv3, hv4, _⟩, _ =>
      cases hv0
      cases hv1
      cases hv2
      cases hv3
      cases hv4
      exact l0 τ ρ  g1 g2 g3 g4 g5 g6
set_option maxRecDepth 100000 in
theorem tf_f41 {σ : pm_S} {Q : Option Value → pm_S → Prop} (x0 x1 x2 x3 : Int)  (hB : an_GB pm_B σ) (eF : (0 ≤ x0 ∧ x0 ≤ 9) ∧ (2 ≤ x1 ∧ x1 ≤ 10) ∧ (0 ≤ x2 ∧ x2 ≤ 9) ∧ (0 ≤ x3 ∧ x3 ≤ 29) ∧ True)
    (l0 : ∀ (τ : pm_S) (y : Nat → Int), an_GB pm_B τ → FQ [] σ τ → ((0 ≤ x0 ∧ x0 ≤ 9) ∧ (2 ≤ x1 ∧ x1 ≤ 10) ∧ (0 ≤ x2 ∧ x2 ≤ 9) ∧ (0 ≤ x3 ∧ x3 ≤ 29) ∧ True) → (True) → (True) → (True) → Ok 204 6 45 [.ref 93, .int (Int32.ofInt (x0)), .int (Int32.ofInt (x1)), .int (Int32.ofInt (x2)), .int (Int32.ofInt (x3))] [.int (Int32.ofInt (x3)), .int (Int32.ofInt (x2)), .ref 124] τ Q)
    : Ok 204 6 41 [.ref 93, .int (Int32.ofInt (x0)), .int (Int32.ofInt (x1)), .int (Int32.ofInt (x2)), .int (Int32.ofInt (x3))] [] σ Q := by
  refine an_seg (B := pm_B) (F := []) (T := []) (S := []) (fun _ h => absurd h List.not_mem_nil) (k := 204) (d := 5) (cs := [45]) 6 41 4 [(0, 0, 9), (1, 2, 10), (2, 0, 9), (3, 0, 29)] [] [(2, 93, 0), (0, 0, 0), (0, 1, 0), (0, 2, 0), (0, 3, 0)] [] [(45, [(2, 93, 0), (0, 0, 0), (0, 1, 0), (0, 2, 0), (0, 3, 0)], [(0, 3, 0), (0, 2, 0), (2, 124, 0)], [(0, 0, 9), (1, 2, 10), (2, 0, 9), (3, 0, 29)], [], [], [])] (by decide +kernel) (ρ0 := (fun s => [x0, x1, x2, x3].getD s 0)) hB eF trivial ⟨rfl, ⟨rfl, ⟨rfl, ⟨rfl, ⟨rfl, trivial⟩⟩⟩⟩⟩ trivial ?_
  refine List.forall_mem_cons.mpr ⟨?_, fun _ h => absurd h List.not_mem_nil⟩
  · intro ρ τ Lc stc hx g1 g2 g3 g4 g5 g6 g7 g8
    have e0 : ρ 0 = x0 := hx 0 (by decide)
    have e1 : ρ 1 = x1 := hx 1 (by decide)
    have e2 : ρ 2 = x2 := hx 2 (by decide)
    have e3 : ρ 3 = x3 := hx 3 (by decide)
    subst e0
    subst e1
    subst e2
    subst e3
    have g7 := g7 (by decide)
    match Lc, stc, g7, g8 with
    | [v0, v1, v2, v3, v4], [w0, w1, w2], ⟨hv0, hv1, hv2, hv3, hv4, _⟩, ⟨hw0, hw1, hw2, _⟩ =>
      cases hv0
      cases hv1
      cases hv2
      cases hv3
      cases hv4
      cases hw0
      cases hw1
      cases hw2
      exact l0 τ ρ  g1 g2 g3 g4 g5 g6
set_option maxRecDepth 100000 in
theorem tf_f46 {σ : pm_S} {Q : Option Value → pm_S → Prop} (x0 x1 x2 x3 : Int)  (hB : an_GB pm_B σ) (eF : (0 ≤ x0 ∧ x0 ≤ 9) ∧ (2 ≤ x1 ∧ x1 ≤ 10) ∧ (0 ≤ x2 ∧ x2 ≤ 9) ∧ (0 ≤ x3 ∧ x3 ≤ 29) ∧ True)
    (l0 : ∀ (τ : pm_S) (y : Nat → Int), an_GB pm_B τ → FQ [] σ τ → ((0 ≤ x0 ∧ x0 ≤ 9) ∧ (2 ≤ x1 ∧ x1 ≤ 10) ∧ (0 ≤ x2 ∧ x2 ≤ 9) ∧ (0 ≤ x3 ∧ x3 ≤ 29) ∧ True) → (True) → (True) → (True) → Ok 204 6 50 [.ref 93, .int (Int32.ofInt (x0)), .int (Int32.ofInt (x1)), .int (Int32.ofInt (x2)), .int (Int32.ofInt (x3))] [.int (Int32.ofInt (x1 + (-1))), .int (Int32.ofInt (x2))] τ Q)
    : Ok 204 6 46 [.ref 93, .int (Int32.ofInt (x0)), .int (Int32.ofInt (x1)), .int (Int32.ofInt (x2)), .int (Int32.ofInt (x3))] [] σ Q := by
  refine an_seg (B := pm_B) (F := []) (T := []) (S := []) (fun _ h => absurd h List.not_mem_nil) (k := 204) (d := 5) (cs := [50]) 6 46 4 [(0, 0, 9), (1, 2, 10), (2, 0, 9), (3, 0, 29)] [] [(2, 93, 0), (0, 0, 0), (0, 1, 0), (0, 2, 0), (0, 3, 0)] [] [(50, [(2, 93, 0), (0, 0, 0), (0, 1, 0), (0, 2, 0), (0, 3, 0)], [(0, 1, (-1)), (0, 2, 0)], [(0, 0, 9), (1, 2, 10), (2, 0, 9), (3, 0, 29)], [], [], [])] (by decide +kernel) (ρ0 := (fun s => [x0, x1, x2, x3].getD s 0)) hB eF trivial ⟨rfl, ⟨rfl, ⟨rfl, ⟨rfl, ⟨rfl, trivial⟩⟩⟩⟩⟩ trivial ?_
  refine List.forall_mem_cons.mpr ⟨?_, fun _ h => absurd h List.not_mem_nil⟩
  · intro ρ τ Lc stc hx g1 g2 g3 g4 g5 g6 g7 g8
    have e0 : ρ 0 = x0 := hx 0 (by decide)
    have e1 : ρ 1 = x1 := hx 1 (by decide)
    have e2 : ρ 2 = x2 := hx 2 (by decide)
    have e3 : ρ 3 = x3 := hx 3 (by decide)
    subst e0
    subst e1
    subst e2
    subst e3
    have g7 := g7 (by decide)
    match Lc, stc, g7, g8 with
    | [v0, v1, v2, v3, v4], [w0, w1], ⟨hv0, hv1, hv2, hv3, hv4, _⟩, ⟨hw0, hw1, _⟩ =>
      cases hv0
      cases hv1
      cases hv2
      cases hv3
      cases hv4
      cases hw0
      cases hw1
      exact l0 τ ρ  g1 g2 g3 g4 g5 g6
set_option maxRecDepth 100000 in
theorem tf_f51 {σ : pm_S} {Q : Option Value → pm_S → Prop} (x0 x1 x2 x3 : Int)  (hB : an_GB pm_B σ) (eF : (0 ≤ x0 ∧ x0 ≤ 9) ∧ (2 ≤ x1 ∧ x1 ≤ 10) ∧ (0 ≤ x2 ∧ x2 ≤ 9) ∧ (0 ≤ x3 ∧ x3 ≤ 29) ∧ True)
    (l0 : ∀ (τ : pm_S) (y : Nat → Int), an_GB pm_B τ → FQ [] σ τ → ((0 ≤ x0 ∧ x0 ≤ 9) ∧ (2 ≤ x1 ∧ x1 ≤ 10) ∧ (0 ≤ x2 ∧ x2 ≤ 9) ∧ (0 ≤ x3 ∧ x3 ≤ 29) ∧ True) → (True) → (True) → (True) → Q (some (.int (Int32.ofInt 1))) τ)
    : Ok 204 6 51 [.ref 93, .int (Int32.ofInt (x0)), .int (Int32.ofInt (x1)), .int (Int32.ofInt (x2)), .int (Int32.ofInt (x3))] [] σ Q := by
  refine an_seg (B := pm_B) (F := []) (T := []) (S := []) (fun _ h => absurd h List.not_mem_nil) (k := 204) (d := 5) (cs := []) 4 51 4 [(0, 0, 9), (1, 2, 10), (2, 0, 9), (3, 0, 29)] [] [(2, 93, 0), (0, 0, 0), (0, 1, 0), (0, 2, 0), (0, 3, 0)] [] [(9999, [], [(1, 0, 1)], [(0, 0, 9), (1, 2, 10), (2, 0, 9), (3, 0, 29)], [], [], [])] (by decide +kernel) (ρ0 := (fun s => [x0, x1, x2, x3].getD s 0)) hB eF trivial ⟨rfl, ⟨rfl, ⟨rfl, ⟨rfl, ⟨rfl, trivial⟩⟩⟩⟩⟩ trivial ?_
  refine List.forall_mem_cons.mpr ⟨?_, fun _ h => absurd h List.not_mem_nil⟩
  · intro ρ τ Lc stc hx g1 g2 g3 g4 g5 g6 g7 g8
    have e0 : ρ 0 = x0 := hx 0 (by decide)
    have e1 : ρ 1 = x1 := hx 1 (by decide)
    have e2 : ρ 2 = x2 := hx 2 (by decide)
    have e3 : ρ 3 = x3 := hx 3 (by decide)
    subst e0
    subst e1
    subst e2
    subst e3
    match stc, g8 with
    | [_], ⟨h, _⟩ => cases h; exact l0 τ ρ g1 g2 g3 g4 g5 g6
set_option maxRecDepth 100000 in
theorem tf_f53 {σ : pm_S} {Q : Option Value → pm_S → Prop} (x0 x1 x2 x3 x4 : Int)  (hB : an_GB pm_B σ) (eF : (0 ≤ x0 ∧ x0 ≤ 9) ∧ (2 ≤ x1 ∧ x1 ≤ 10) ∧ (0 ≤ x2 ∧ x2 ≤ 8) ∧ (0 ≤ x3 ∧ x3 ≤ 29) ∧ (0 ≤ x4 ∧ x4 ≤ 29) ∧ True) (eC : (σ.1 124 0).toInt = x4 ∧ True)
    (l0 : ∀ (τ : pm_S) (y : Nat → Int), an_GB pm_B τ → FQ [] σ τ → ((0 ≤ x0 ∧ x0 ≤ 9) ∧ (2 ≤ x1 ∧ x1 ≤ 10) ∧ (0 ≤ x2 ∧ x2 ≤ 8) ∧ (0 ≤ x3 ∧ x3 ≤ 29) ∧ (0 ≤ x4 ∧ x4 ≤ 29) ∧ True) → (True) → (True) → ((τ.1 124 0).toInt = x4 ∧ True) → Ok 204 6 64 [.ref 93, .int (Int32.ofInt (x0)), .int (Int32.ofInt (x1)), .int (Int32.ofInt (x2 + 1)), .int (Int32.ofInt (x3))] [.int (Int32.ofInt (x4)), .int (Int32.ofInt (x2 + 1)), .ref 124] τ Q)
    : Ok 204 6 53 [.ref 93, .int (Int32.ofInt (x0)), .int (Int32.ofInt (x1)), .int (Int32.ofInt (x2)), .int (Int32.ofInt (x3))] [] σ Q := by
  refine an_seg (B := pm_B) (F := []) (T := [124]) (S := []) (fun _ h => absurd h List.not_mem_nil) (k := 204) (d := 5) (cs := [64]) 13 53 5 [(0, 0, 9), (1, 2, 10), (2, 0, 8), (3, 0, 29), (4, 0, 29)] [(124, (1, 0, 0), (0, 4, 0))] [(2, 93, 0), (0, 0, 0), (0, 1, 0), (0, 2, 0), (0, 3, 0)] [] [(64, [(2, 93, 0), (0, 0, 0), (0, 1, 0), (0, 2, 1), (0, 3, 0)], [(0, 4, 0), (0, 2, 1), (2, 124, 0)], [(0, 0, 9), (1, 2, 10), (2, 0, 8), (3, 0, 29), (4, 0, 29)], [], [], [(124, (1, 0, 0), (0, 4, 0))])] (by decide +kernel) (ρ0 := (fun s => [x0, x1, x2, x3, x4].getD s 0)) hB eF eC ⟨rfl, ⟨rfl, ⟨rfl, ⟨rfl, ⟨rfl, trivial⟩⟩⟩⟩⟩ trivial ?_
  refine List.forall_mem_cons.mpr ⟨?_, fun _ h => absurd h List.not_mem_nil⟩
  · intro ρ τ Lc stc hx g1 g2 g3 g4 g5 g6 g7 g8
    have e0 : ρ 0 = x0 := hx 0 (by decide)
    have e1 : ρ 1 = x1 := hx 1 (by decide)
    have e2 : ρ 2 = x2 := hx 2 (by decide)
    have e3 : ρ 3 = x3 := hx 3 (by decide)
    have e4 : ρ 4 = x4 := hx 4 (by decide)
    subst e0
    subst e1
    subst e2
    subst e3
    subst e4
    have g7 := g7 (by decide)
    match Lc, stc, g7, g8 with
    | [v0, v1, v2, v3, v4], [w0, w1, w2], ⟨hv0, hv1, hv2, hv3, hv4, _⟩, ⟨hw0, hw1, hw2, _⟩ =>
      cases hv0
      cases hv1
      cases hv2
      cases hv3
      cases hv4
      cases hw0
      cases hw1
      cases hw2
      exact l0 τ ρ  g1 g2 g3 g4 g5 g6
set_option maxRecDepth 100000 in
theorem tf_f65 {σ : pm_S} {Q : Option Value → pm_S → Prop} (x0 x1 x2 x3 : Int)  (hB : an_GB pm_B σ) (eF : (0 ≤ x0 ∧ x0 ≤ 9) ∧ (2 ≤ x1 ∧ x1 ≤ 10) ∧ (1 ≤ x2 ∧ x2 ≤ 9) ∧ (0 ≤ x3 ∧ x3 ≤ 29) ∧ True)
    (l0 : ∀ (τ : pm_S) (y : Nat → Int), an_GB pm_B τ → FQ [] σ τ → ((0 ≤ x0 ∧ x0 ≤ 9) ∧ (2 ≤ x1 ∧ x1 ≤ 10) ∧ (1 ≤ x2 ∧ x2 ≤ 9) ∧ (0 ≤ x3 ∧ x3 ≤ 29) ∧ True) → (True) → (True) → (True) → Ok 204 6 7 [.ref 93, .int (Int32.ofInt (x0)), .int (Int32.ofInt (x1)), .int (Int32.ofInt (x2)), .int (Int32.ofInt (x3))] [] τ Q)
    : Ok 204 6 65 [.ref 93, .int (Int32.ofInt (x0)), .int (Int32.ofInt (x1)), .int (Int32.ofInt (x2)), .int (Int32.ofInt (x3))] [] σ Q := by
  refine an_seg (B := pm_B) (F := []) (T := []) (S := []) (fun _ h => absurd h List.not_mem_nil) (k := 204) (d := 5) (cs := [7]) 3 65 4 [(0, 0, 9), (1, 2, 10), (2, 1, 9), (3, 0, 29)] [] [(2, 93, 0), (0, 0, 0), (0, 1, 0), (0, 2, 0), (0, 3, 0)] [] [(7, [(2, 93, 0), (0, 0, 0), (0, 1, 0), (0, 2, 0), (0, 3, 0)], [], [(0, 0, 9), (1, 2, 10), (2, 1, 9), (3, 0, 29)], [], [], [])] (by decide +kernel) (ρ0 := (fun s => [x0, x1, x2, x3].getD s 0)) hB eF trivial ⟨rfl, ⟨rfl, ⟨rfl, ⟨rfl, ⟨rfl, trivial⟩⟩⟩⟩⟩ trivial ?_
  refine List.forall_mem_cons.mpr ⟨?_, fun _ h => absurd h List.not_mem_nil⟩
  · intro ρ τ Lc stc hx g1 g2 g3 g4 g5 g6 g7 g8
    have e0 : ρ 0 = x0 := hx 0 (by decide)
    have e1 : ρ 1 = x1 := hx 1 (by decide)
    have e2 : ρ 2 = x2 := hx 2 (by decide)
    have e3 : ρ 3 = x3 := hx 3 (by decide)
    subst e0
    subst e1
    subst e2
    subst e3
    have g7 := g7 (by decide)
    match Lc, stc, g7, g8 with
    | [v0, v1, v2, v3, v4], [], ⟨hv0, hv1, hv2, hv3, hv4, _⟩, _ =>
      cases hv0
      cases hv1
      cases hv2
      cases hv3
      cases hv4
      exact l0 τ ρ  g1 g2 g3 g4 g5 g6
set_option maxRecDepth 100000 in
theorem tf_c0 {σ : pm_S} {Q : Option Value → pm_S → Prop} (x0 x1 x2 : Int) (v2 : Value) (v3 : Value) (hv2 : v2.category = 1) (hv3 : v3.category = 1) (hB : an_GB pm_B σ) (eF : (2 ≤ x0 ∧ x0 ≤ 10) ∧ (0 ≤ x1 ∧ x1 ≤ 29) ∧ (0 ≤ x2 ∧ x2 ≤ 99999) ∧ True) (eC : (σ.1 124 0).toInt = x1 ∧ (σ.1 103 (x1).toNat).toInt = x2 ∧ True)
    (l0 : ∀ (τ : pm_S) (y : Nat → Int), an_GB pm_B τ → FQ [] σ τ → ((2 ≤ x0 ∧ x0 ≤ 10) ∧ (0 ≤ x1 ∧ x1 ≤ 29) ∧ (0 ≤ x2 ∧ x2 ≤ 99999) ∧ True) → (True) → (True) → ((τ.1 103 (x1).toNat).toInt = x2 ∧ (τ.1 124 0).toInt = x1 ∧ True) → Ok 207 4 10 [.ref 93, .int (Int32.ofInt (x0)), .int (Int32.ofInt (x2)), .int (Int32.ofInt 1)] [] τ Q)
    : Ok 207 4 0 [.ref 93, .int (Int32.ofInt (x0)), v2, v3] [] σ Q := by
  refine an_seg (B := pm_B) (F := []) (T := [103, 124]) (S := []) (fun _ h => absurd h List.not_mem_nil) (k := 207) (d := 3) (cs := [10]) 12 0 3 [(0, 2, 10), (1, 0, 29), (2, 0, 99999)] [(124, (1, 0, 0), (0, 1, 0)), (103, (0, 1, 0), (0, 2, 0))] [(2, 93, 0), (0, 0, 0), (5, 0, 0), (5, 0, 0)] [] [(10, [(2, 93, 0), (0, 0, 0), (0, 2, 0), (1, 0, 1)], [], [(0, 2, 10), (1, 0, 29), (2, 0, 99999)], [], [], [(103, (0, 1, 0), (0, 2, 0)), (124, (1, 0, 0), (0, 1, 0))])] (by decide +kernel) (ρ0 := (fun s => [x0, x1, x2].getD s 0)) hB eF eC ⟨rfl, ⟨rfl, ⟨hv2, ⟨hv3, trivial⟩⟩⟩⟩ trivial ?_
  refine List.forall_mem_cons.mpr ⟨?_, fun _ h => absurd h List.not_mem_nil⟩
  · intro ρ τ Lc stc hx g1 g2 g3 g4 g5 g6 g7 g8
    have e0 : ρ 0 = x0 := hx 0 (by decide)
    have e1 : ρ 1 = x1 := hx 1 (by decide)
    have e2 : ρ 2 = x2 := hx 2 (by decide)
    subst e0
    subst e1
    subst e2
    have g7 := g7 (by decide)
    match Lc, stc, g7, g8 with
    | [v0, v1, v2, v3], [], ⟨hv0, hv1, hv2, hv3, _⟩, _ =>
      cases hv0
      cases hv1
      cases hv2
      cases hv3
      exact l0 τ ρ  g1 g2 g3 g4 g5 g6
set_option maxRecDepth 100000 in
theorem tf_c10 {σ : pm_S} {Q : Option Value → pm_S → Prop} (x0 x1 x2 : Int)  (hB : an_GB pm_B σ) (eF : (2 ≤ x0 ∧ x0 ≤ 10) ∧ (0 ≤ x1 ∧ x1 ≤ 99999) ∧ (0 ≤ x2 ∧ x2 ≤ 10) ∧ True)
    (l0 : ∀ (τ : pm_S) (y : Nat → Int), an_GB pm_B τ → FQ [] σ τ → ((2 ≤ x0 ∧ x0 ≤ 10) ∧ (0 ≤ x1 ∧ x1 ≤ 99999) ∧ (0 ≤ x2 ∧ x2 ≤ 10) ∧ True) → (True) → (True) → (True) → Ok 207 4 12 [.ref 93, .int (Int32.ofInt (x0)), .int (Int32.ofInt (x1)), .int (Int32.ofInt (x2))] [.int (Int32.ofInt (x0)), .int (Int32.ofInt (x2))] τ Q)
    : Ok 207 4 10 [.ref 93, .int (Int32.ofInt (x0)), .int (Int32.ofInt (x1)), .int (Int32.ofInt (x2))] [] σ Q := by
  refine an_seg (B := pm_B) (F := []) (T := []) (S := []) (fun _ h => absurd h List.not_mem_nil) (k := 207) (d := 3) (cs := [12]) 4 10 3 [(0, 2, 10), (1, 0, 99999), (2, 0, 10)] [] [(2, 93, 0), (0, 0, 0), (0, 1, 0), (0, 2, 0)] [] [(12, [(2, 93, 0), (0, 0, 0), (0, 1, 0), (0, 2, 0)], [(0, 0, 0), (0, 2, 0)], [(0, 2, 10), (1, 0, 99999), (2, 0, 10)], [], [], [])] (by decide +kernel) (ρ0 := (fun s => [x0, x1, x2].getD s 0)) hB eF trivial ⟨rfl, ⟨rfl, ⟨rfl, ⟨rfl, trivial⟩⟩⟩⟩ trivial ?_
  refine List.forall_mem_cons.mpr ⟨?_, fun _ h => absurd h List.not_mem_nil⟩
  · intro ρ τ Lc stc hx g1 g2 g3 g4 g5 g6 g7 g8
    have e0 : ρ 0 = x0 := hx 0 (by decide)
    have e1 : ρ 1 = x1 := hx 1 (by decide)
    have e2 : ρ 2 = x2 := hx 2 (by decide)
    subst e0
    subst e1
    subst e2
    have g7 := g7 (by decide)
    match Lc, stc, g7, g8 with
    | [v0, v1, v2, v3], [w0, w1], ⟨hv0, hv1, hv2, hv3, _⟩, ⟨hw0, hw1, _⟩ =>
      cases hv0
      cases hv1
      cases hv2
      cases hv3
      cases hw0
      cases hw1
      exact l0 τ ρ  g1 g2 g3 g4 g5 g6
set_option maxRecDepth 100000 in
theorem tf_c13 {σ : pm_S} {Q : Option Value → pm_S → Prop} (x0 x1 x2 x3 x4 : Int)  (hB : an_GB pm_B σ) (eF : (2 ≤ x0 ∧ x0 ≤ 10) ∧ (0 ≤ x1 ∧ x1 ≤ 99999) ∧ (0 ≤ x2 ∧ x2 ≤ 9) ∧ (0 ≤ x3 ∧ x3 ≤ 29) ∧ (0 ≤ x4 ∧ x4 ≤ 99999) ∧ True) (eC : (σ.1 124 (x2).toNat).toInt = x3 ∧ (σ.1 103 (x3).toNat).toInt = x4 ∧ True)
    (l0 : ∀ (τ : pm_S) (y : Nat → Int), an_GB pm_B τ → FQ [] σ τ → ((2 ≤ x0 ∧ x0 ≤ 10) ∧ (0 ≤ x1 ∧ x1 ≤ 99999) ∧ (0 ≤ x2 ∧ x2 ≤ 9) ∧ (0 ≤ x3 ∧ x3 ≤ 29) ∧ (0 ≤ x4 ∧ x4 ≤ 99999) ∧ True) → (True) → (True) → ((τ.1 103 (x3).toNat).toInt = x4 ∧ (τ.1 124 (x2).toNat).toInt = x3 ∧ True) → Ok 207 4 21 [.ref 93, .int (Int32.ofInt (x0)), .int (Int32.ofInt (x1)), .int (Int32.ofInt (x2))] [.int (Int32.ofInt (x1)), .int (Int32.ofInt (x4))] τ Q)
    : Ok 207 4 13 [.ref 93, .int (Int32.ofInt (x0)), .int (Int32.ofInt (x1)), .int (Int32.ofInt (x2))] [] σ Q := by
  refine an_seg (B := pm_B) (F := []) (T := [103, 124]) (S := []) (fun _ h => absurd h List.not_mem_nil) (k := 207) (d := 3) (cs := [21]) 10 13 5 [(0, 2, 10), (1, 0, 99999), (2, 0, 9), (3, 0, 29), (4, 0, 99999)] [(124, (0, 2, 0), (0, 3, 0)), (103, (0, 3, 0), (0, 4, 0))] [(2, 93, 0), (0, 0, 0), (0, 1, 0), (0, 2, 0)] [] [(21, [(2, 93, 0), (0, 0, 0), (0, 1, 0), (0, 2, 0)], [(0, 1, 0), (0, 4, 0)], [(0, 2, 10), (1, 0, 99999), (2, 0, 9), (3, 0, 29), (4, 0, 99999)], [], [], [(103, (0, 3, 0), (0, 4, 0)), (124, (0, 2, 0), (0, 3, 0))])] (by decide +kernel) (ρ0 := (fun s => [x0, x1, x2, x3, x4].getD s 0)) hB eF eC ⟨rfl, ⟨rfl, ⟨rfl, ⟨rfl, trivial⟩⟩⟩⟩ trivial ?_
  refine List.forall_mem_cons.mpr ⟨?_, fun _ h => absurd h List.not_mem_nil⟩
  · intro ρ τ Lc stc hx g1 g2 g3 g4 g5 g6 g7 g8
    have e0 : ρ 0 = x0 := hx 0 (by decide)
    have e1 : ρ 1 = x1 := hx 1 (by decide)
    have e2 : ρ 2 = x2 := hx 2 (by decide)
    have e3 : ρ 3 = x3 := hx 3 (by decide)
    have e4 : ρ 4 = x4 := hx 4 (by decide)
    subst e0
    subst e1
    subst e2
    subst e3
    subst e4
    have g7 := g7 (by decide)
    match Lc, stc, g7, g8 with
    | [v0, v1, v2, v3], [w0, w1], ⟨hv0, hv1, hv2, hv3, _⟩, ⟨hw0, hw1, _⟩ =>
      cases hv0
      cases hv1
      cases hv2
      cases hv3
      cases hw0
      cases hw1
      exact l0 τ ρ  g1 g2 g3 g4 g5 g6
set_option maxRecDepth 100000 in
theorem tf_c22 {σ : pm_S} {Q : Option Value → pm_S → Prop} (x0 x1 x2 x3 x4 : Int)  (hB : an_GB pm_B σ) (eF : (2 ≤ x0 ∧ x0 ≤ 10) ∧ (0 ≤ x1 ∧ x1 ≤ 99999) ∧ (0 ≤ x2 ∧ x2 ≤ 9) ∧ (0 ≤ x3 ∧ x3 ≤ 29) ∧ (0 ≤ x4 ∧ x4 ≤ 99999) ∧ True) (eC : (σ.1 124 (x2).toNat).toInt = x3 ∧ (σ.1 103 (x3).toNat).toInt = x4 ∧ True)
    (l0 : ∀ (τ : pm_S) (y : Nat → Int), an_GB pm_B τ → FQ [] σ τ → ((2 ≤ x0 ∧ x0 ≤ 10) ∧ (0 ≤ x1 ∧ x1 ≤ 99999) ∧ (0 ≤ x2 ∧ x2 ≤ 9) ∧ (0 ≤ x3 ∧ x3 ≤ 29) ∧ (0 ≤ x4 ∧ x4 ≤ 99999) ∧ True) → (True) → (True) → ((τ.1 103 (x3).toNat).toInt = x4 ∧ (τ.1 124 (x2).toNat).toInt = x3 ∧ True) → Ok 207 4 10 [.ref 93, .int (Int32.ofInt (x0)), .int (Int32.ofInt (x4)), .int (Int32.ofInt (x2 + 1))] [] τ Q)
    : Ok 207 4 22 [.ref 93, .int (Int32.ofInt (x0)), .int (Int32.ofInt (x1)), .int (Int32.ofInt (x2))] [] σ Q := by
  refine an_seg (B := pm_B) (F := []) (T := [103, 124]) (S := []) (fun _ h => absurd h List.not_mem_nil) (k := 207) (d := 3) (cs := [10]) 13 22 5 [(0, 2, 10), (1, 0, 99999), (2, 0, 9), (3, 0, 29), (4, 0, 99999)] [(124, (0, 2, 0), (0, 3, 0)), (103, (0, 3, 0), (0, 4, 0))] [(2, 93, 0), (0, 0, 0), (0, 1, 0), (0, 2, 0)] [] [(10, [(2, 93, 0), (0, 0, 0), (0, 4, 0), (0, 2, 1)], [], [(0, 2, 10), (1, 0, 99999), (2, 0, 9), (3, 0, 29), (4, 0, 99999)], [], [], [(103, (0, 3, 0), (0, 4, 0)), (124, (0, 2, 0), (0, 3, 0))])] (by decide +kernel) (ρ0 := (fun s => [x0, x1, x2, x3, x4].getD s 0)) hB eF eC ⟨rfl, ⟨rfl, ⟨rfl, ⟨rfl, trivial⟩⟩⟩⟩ trivial ?_
  refine List.forall_mem_cons.mpr ⟨?_, fun _ h => absurd h List.not_mem_nil⟩
  · intro ρ τ Lc stc hx g1 g2 g3 g4 g5 g6 g7 g8
    have e0 : ρ 0 = x0 := hx 0 (by decide)
    have e1 : ρ 1 = x1 := hx 1 (by decide)
    have e2 : ρ 2 = x2 := hx 2 (by decide)
    have e3 : ρ 3 = x3 := hx 3 (by decide)
    have e4 : ρ 4 = x4 := hx 4 (by decide)
    subst e0
    subst e1
    subst e2
    subst e3
    subst e4
    have g7 := g7 (by decide)
    match Lc, stc, g7, g8 with
    | [v0, v1, v2, v3], [], ⟨hv0, hv1, hv2, hv3, _⟩, _ =>
      cases hv0
      cases hv1
      cases hv2
      cases hv3
      exact l0 τ ρ  g1 g2 g3 g4 g5 g6
set_option maxRecDepth 100000 in
theorem tf_c30 {σ : pm_S} {Q : Option Value → pm_S → Prop} (x0 x1 x2 : Int)  (hB : an_GB pm_B σ) (eF : (2 ≤ x0 ∧ x0 ≤ 10) ∧ (0 ≤ x1 ∧ x1 ≤ 99999) ∧ (0 ≤ x2 ∧ x2 ≤ 9) ∧ True)
    (l0 : ∀ (τ : pm_S) (y : Nat → Int), an_GB pm_B τ → FQ [] σ τ → ((2 ≤ x0 ∧ x0 ≤ 10) ∧ (0 ≤ x1 ∧ x1 ≤ 99999) ∧ (0 ≤ x2 ∧ x2 ≤ 9) ∧ True) → (True) → (True) → (True) → Ok 207 4 10 [.ref 93, .int (Int32.ofInt (x0)), .int (Int32.ofInt (x1)), .int (Int32.ofInt (x2 + 1))] [] τ Q)
    : Ok 207 4 30 [.ref 93, .int (Int32.ofInt (x0)), .int (Int32.ofInt (x1)), .int (Int32.ofInt (x2))] [] σ Q := by
  refine an_seg (B := pm_B) (F := []) (T := []) (S := []) (fun _ h => absurd h List.not_mem_nil) (k := 207) (d := 3) (cs := [10]) 6 30 3 [(0, 2, 10), (1, 0, 99999), (2, 0, 9)] [] [(2, 93, 0), (0, 0, 0), (0, 1, 0), (0, 2, 0)] [] [(10, [(2, 93, 0), (0, 0, 0), (0, 1, 0), (0, 2, 1)], [], [(0, 2, 10), (1, 0, 99999), (2, 0, 9)], [], [], [])] (by decide +kernel) (ρ0 := (fun s => [x0, x1, x2].getD s 0)) hB eF trivial ⟨rfl, ⟨rfl, ⟨rfl, ⟨rfl, trivial⟩⟩⟩⟩ trivial ?_
  refine List.forall_mem_cons.mpr ⟨?_, fun _ h => absurd h List.not_mem_nil⟩
  · intro ρ τ Lc stc hx g1 g2 g3 g4 g5 g6 g7 g8
    have e0 : ρ 0 = x0 := hx 0 (by decide)
    have e1 : ρ 1 = x1 := hx 1 (by decide)
    have e2 : ρ 2 = x2 := hx 2 (by decide)
    subst e0
    subst e1
    subst e2
    have g7 := g7 (by decide)
    match Lc, stc, g7, g8 with
    | [v0, v1, v2, v3], [], ⟨hv0, hv1, hv2, hv3, _⟩, _ =>
      cases hv0
      cases hv1
      cases hv2
      cases hv3
      exact l0 τ ρ  g1 g2 g3 g4 g5 g6
set_option maxRecDepth 100000 in
theorem tf_c34 {σ : pm_S} {Q : Option Value → pm_S → Prop} (x0 x1 : Int) (v3 : Value) (hv3 : v3.category = 1) (hB : an_GB pm_B σ) (eF : (2 ≤ x0 ∧ x0 ≤ 10) ∧ (0 ≤ x1 ∧ x1 ≤ 99999) ∧ True)
    (l0 : ∀ (τ : pm_S) (y : Nat → Int), an_GB pm_B τ → FQ [] σ τ → ((2 ≤ x0 ∧ x0 ≤ 10) ∧ (0 ≤ x1 ∧ x1 ≤ 99999) ∧ True) → (True) → (True) → (True) → Ok 207 4 36 [.ref 93, .int (Int32.ofInt (x0)), .int (Int32.ofInt (x1)), .int (Int32.ofInt 0)] [] τ Q)
    : Ok 207 4 34 [.ref 93, .int (Int32.ofInt (x0)), .int (Int32.ofInt (x1)), v3] [] σ Q := by
  refine an_seg (B := pm_B) (F := []) (T := []) (S := []) (fun _ h => absurd h List.not_mem_nil) (k := 207) (d := 3) (cs := [36]) 4 34 2 [(0, 2, 10), (1, 0, 99999)] [] [(2, 93, 0), (0, 0, 0), (0, 1, 0), (5, 0, 0)] [] [(36, [(2, 93, 0), (0, 0, 0), (0, 1, 0), (1, 0, 0)], [], [(0, 2, 10), (1, 0, 99999)], [], [], [])] (by decide +kernel) (ρ0 := (fun s => [x0, x1].getD s 0)) hB eF trivial ⟨rfl, ⟨rfl, ⟨rfl, ⟨hv3, trivial⟩⟩⟩⟩ trivial ?_
  refine List.forall_mem_cons.mpr ⟨?_, fun _ h => absurd h List.not_mem_nil⟩
  · intro ρ τ Lc stc hx g1 g2 g3 g4 g5 g6 g7 g8
    have e0 : ρ 0 = x0 := hx 0 (by decide)
    have e1 : ρ 1 = x1 := hx 1 (by decide)
    subst e0
    subst e1
    have g7 := g7 (by decide)
    match Lc, stc, g7, g8 with
    | [v0, v1, v2, v3], [], ⟨hv0, hv1, hv2, hv3, _⟩, _ =>
      cases hv0
      cases hv1
      cases hv2
      cases hv3
      exact l0 τ ρ  g1 g2 g3 g4 g5 g6
set_option maxRecDepth 100000 in
theorem tf_c36 {σ : pm_S} {Q : Option Value → pm_S → Prop} (x0 x1 x2 : Int)  (hB : an_GB pm_B σ) (eF : (2 ≤ x0 ∧ x0 ≤ 10) ∧ (0 ≤ x1 ∧ x1 ≤ 99999) ∧ (0 ≤ x2 ∧ x2 ≤ 10) ∧ True)
    (l0 : ∀ (τ : pm_S) (y : Nat → Int), an_GB pm_B τ → FQ [] σ τ → ((2 ≤ x0 ∧ x0 ≤ 10) ∧ (0 ≤ x1 ∧ x1 ≤ 99999) ∧ (0 ≤ x2 ∧ x2 ≤ 10) ∧ True) → (True) → (True) → (True) → Ok 207 4 38 [.ref 93, .int (Int32.ofInt (x0)), .int (Int32.ofInt (x1)), .int (Int32.ofInt (x2))] [.int (Int32.ofInt (x0)), .int (Int32.ofInt (x2))] τ Q)
    : Ok 207 4 36 [.ref 93, .int (Int32.ofInt (x0)), .int (Int32.ofInt (x1)), .int (Int32.ofInt (x2))] [] σ Q := by
  refine an_seg (B := pm_B) (F := []) (T := []) (S := []) (fun _ h => absurd h List.not_mem_nil) (k := 207) (d := 3) (cs := [38]) 4 36 3 [(0, 2, 10), (1, 0, 99999), (2, 0, 10)] [] [(2, 93, 0), (0, 0, 0), (0, 1, 0), (0, 2, 0)] [] [(38, [(2, 93, 0), (0, 0, 0), (0, 1, 0), (0, 2, 0)], [(0, 0, 0), (0, 2, 0)], [(0, 2, 10), (1, 0, 99999), (2, 0, 10)], [], [], [])] (by decide +kernel) (ρ0 := (fun s => [x0, x1, x2].getD s 0)) hB eF trivial ⟨rfl, ⟨rfl, ⟨rfl, ⟨rfl, trivial⟩⟩⟩⟩ trivial ?_
  refine List.forall_mem_cons.mpr ⟨?_, fun _ h => absurd h List.not_mem_nil⟩
  · intro ρ τ Lc stc hx g1 g2 g3 g4 g5 g6 g7 g8
    have e0 : ρ 0 = x0 := hx 0 (by decide)
    have e1 : ρ 1 = x1 := hx 1 (by decide)
    have e2 : ρ 2 = x2 := hx 2 (by decide)
    subst e0
    subst e1
    subst e2
    have g7 := g7 (by decide)
    match Lc, stc, g7, g8 with
    | [v0, v1, v2, v3], [w0, w1], ⟨hv0, hv1, hv2, hv3, _⟩, ⟨hw0, hw1, _⟩ =>
      cases hv0
      cases hv1
      cases hv2
      cases hv3
      cases hw0
      cases hw1
      exact l0 τ ρ  g1 g2 g3 g4 g5 g6
set_option maxRecDepth 100000 in
theorem tf_c39 {σ : pm_S} {Q : Option Value → pm_S → Prop} (x0 x1 x2 x3 x4 : Int)  (hB : an_GB pm_B σ) (eF : (2 ≤ x0 ∧ x0 ≤ 10) ∧ (0 ≤ x1 ∧ x1 ≤ 99999) ∧ (0 ≤ x2 ∧ x2 ≤ 9) ∧ (0 ≤ x3 ∧ x3 ≤ 29) ∧ (0 ≤ x4 ∧ x4 ≤ 99999) ∧ True) (eC : (σ.1 124 (x2).toNat).toInt = x3 ∧ (σ.1 103 (x3).toNat).toInt = x4 ∧ True)
    (l0 : ∀ (τ : pm_S) (y : Nat → Int), an_GB pm_B τ → FQ [] σ τ → ((2 ≤ x0 ∧ x0 ≤ 10) ∧ (0 ≤ x1 ∧ x1 ≤ 99999) ∧ (0 ≤ x2 ∧ x2 ≤ 9) ∧ (0 ≤ x3 ∧ x3 ≤ 29) ∧ (0 ≤ x4 ∧ x4 ≤ 99999) ∧ ((-99999) ≤ y 5 ∧ y 5 ≤ 99999) ∧ True) → (True) → ((an_f 1 (Int32.ofInt (x4)) (Int32.ofInt (x1))).toInt = y 5 ∧ True) → ((τ.1 103 (x3).toNat).toInt = x4 ∧ (τ.1 124 (x2).toNat).toInt = x3 ∧ True) → Ok 207 4 54 [.ref 93, .int (Int32.ofInt (x0)), .int (Int32.ofInt (x1)), .int (Int32.ofInt (x2))] [.int (Int32.ofInt (y 5)), .int (Int32.ofInt (x3)), .ref 103] τ Q)
    : Ok 207 4 39 [.ref 93, .int (Int32.ofInt (x0)), .int (Int32.ofInt (x1)), .int (Int32.ofInt (x2))] [] σ Q := by
  refine an_seg (B := pm_B) (F := []) (T := [103, 124]) (S := []) (fun _ h => absurd h List.not_mem_nil) (k := 207) (d := 3) (cs := [54]) 17 39 5 [(0, 2, 10), (1, 0, 99999), (2, 0, 9), (3, 0, 29), (4, 0, 99999)] [(124, (0, 2, 0), (0, 3, 0)), (103, (0, 3, 0), (0, 4, 0))] [(2, 93, 0), (0, 0, 0), (0, 1, 0), (0, 2, 0)] [] [(54, [(2, 93, 0), (0, 0, 0), (0, 1, 0), (0, 2, 0)], [(0, 5, 0), (0, 3, 0), (2, 103, 0)], [(0, 2, 10), (1, 0, 99999), (2, 0, 9), (3, 0, 29), (4, 0, 99999), (5, (-99999), 99999)], [], [(1, (0, 4, 0), (0, 1, 0), 5)], [(103, (0, 3, 0), (0, 4, 0)), (124, (0, 2, 0), (0, 3, 0))])] (by decide +kernel) (ρ0 := (fun s => [x0, x1, x2, x3, x4].getD s 0)) hB eF eC ⟨rfl, ⟨rfl, ⟨rfl, ⟨rfl, trivial⟩⟩⟩⟩ trivial ?_
  refine List.forall_mem_cons.mpr ⟨?_, fun _ h => absurd h List.not_mem_nil⟩
  · intro ρ τ Lc stc hx g1 g2 g3 g4 g5 g6 g7 g8
    have e0 : ρ 0 = x0 := hx 0 (by decide)
    have e1 : ρ 1 = x1 := hx 1 (by decide)
    have e2 : ρ 2 = x2 := hx 2 (by decide)
    have e3 : ρ 3 = x3 := hx 3 (by decide)
    have e4 : ρ 4 = x4 := hx 4 (by decide)
    subst e0
    subst e1
    subst e2
    subst e3
    subst e4
    have g7 := g7 (by decide)
    match Lc, stc, g7, g8 with
    | [v0, v1, v2, v3], [w0, w1, w2], ⟨hv0, hv1, hv2, hv3, _⟩, ⟨hw0, hw1, hw2, _⟩ =>
      cases hv0
      cases hv1
      cases hv2
      cases hv3
      cases hw0
      cases hw1
      cases hw2
      exact l0 τ ρ  g1 g2 g3 g4 g5 g6
set_option maxRecDepth 100000 in
theorem tf_c55 {σ : pm_S} {Q : Option Value → pm_S → Prop} (x0 x1 x2 x3 x4 : Int)  (hB : an_GB pm_B σ) (eF : (2 ≤ x0 ∧ x0 ≤ 10) ∧ (0 ≤ x1 ∧ x1 ≤ 99999) ∧ (0 ≤ x2 ∧ x2 ≤ 9) ∧ (0 ≤ x3 ∧ x3 ≤ 29) ∧ (0 ≤ x4 ∧ x4 ≤ 99999) ∧ True) (eC : (σ.1 124 (x2).toNat).toInt = x3 ∧ (σ.1 103 (x3).toNat).toInt = x4 ∧ True)
    (l0 : ∀ (τ : pm_S) (y : Nat → Int), an_GB pm_B τ → FQ [] σ τ → ((2 ≤ x0 ∧ x0 ≤ 10) ∧ (0 ≤ x1 ∧ x1 ≤ 99999) ∧ (0 ≤ x2 ∧ x2 ≤ 9) ∧ (0 ≤ x3 ∧ x3 ≤ 29) ∧ (1 ≤ x4 ∧ x4 ≤ 99999) ∧ True) → (True) → (True) → ((τ.1 103 (x3).toNat).toInt = x4 ∧ (τ.1 124 (x2).toNat).toInt = x3 ∧ True) → Ok 207 4 36 [.ref 93, .int (Int32.ofInt (x0)), .int (Int32.ofInt (x1)), .int (Int32.ofInt (x2 + 1))] [] τ Q)
    (l1 : ∀ (τ : pm_S) (y : Nat → Int), an_GB pm_B τ → FQ [] σ τ → ((2 ≤ x0 ∧ x0 ≤ 10) ∧ (0 ≤ x1 ∧ x1 ≤ 99999) ∧ (0 ≤ x2 ∧ x2 ≤ 9) ∧ (0 ≤ x3 ∧ x3 ≤ 29) ∧ (0 ≤ x4 ∧ x4 ≤ 0) ∧ True) → (True) → (True) → ((τ.1 103 (x3).toNat).toInt = x4 ∧ (τ.1 124 (x2).toNat).toInt = x3 ∧ True) → Ok 207 4 69 [.ref 93, .int (Int32.ofInt (x0)), .int (Int32.ofInt (x1)), .int (Int32.ofInt (x2))] [.int (Int32.ofInt 2), .int (Int32.ofInt (x3)), .ref 93] τ Q)
    : Ok 207 4 55 [.ref 93, .int (Int32.ofInt (x0)), .int (Int32.ofInt (x1)), .int (Int32.ofInt (x2))] [] σ Q := by
  refine an_seg (B := pm_B) (F := []) (T := [103, 124]) (S := []) (fun _ h => absurd h List.not_mem_nil) (k := 207) (d := 3) (cs := [36, 69]) 16 55 5 [(0, 2, 10), (1, 0, 99999), (2, 0, 9), (3, 0, 29), (4, 0, 99999)] [(124, (0, 2, 0), (0, 3, 0)), (103, (0, 3, 0), (0, 4, 0))] [(2, 93, 0), (0, 0, 0), (0, 1, 0), (0, 2, 0)] [] [(36, [(2, 93, 0), (0, 0, 0), (0, 1, 0), (0, 2, 1)], [], [(0, 2, 10), (1, 0, 99999), (2, 0, 9), (3, 0, 29), (4, 1, 99999)], [], [], [(103, (0, 3, 0), (0, 4, 0)), (124, (0, 2, 0), (0, 3, 0))]),
    (69, [(2, 93, 0), (0, 0, 0), (0, 1, 0), (0, 2, 0)], [(1, 0, 2), (0, 3, 0), (2, 93, 0)], [(0, 2, 10), (1, 0, 99999), (2, 0, 9), (3, 0, 29), (4, 0, 0)], [], [], [(103, (0, 3, 0), (0, 4, 0)), (124, (0, 2, 0), (0, 3, 0))])] (by decide +kernel) (ρ0 := (fun s => [x0, x1, x2, x3, x4].getD s 0)) hB eF eC ⟨rfl, ⟨rfl, ⟨rfl, ⟨rfl, trivial⟩⟩⟩⟩ trivial ?_
  refine List.forall_mem_cons.mpr ⟨?_, List.forall_mem_cons.mpr ⟨?_, fun _ h => absurd h List.not_mem_nil⟩⟩
  · intro ρ τ Lc stc hx g1 g2 g3 g4 g5 g6 g7 g8
    have e0 : ρ 0 = x0 := hx 0 (by decide)
    have e1 : ρ 1 = x1 := hx 1 (by decide)
    have e2 : ρ 2 = x2 := hx 2 (by decide)
    have e3 : ρ 3 = x3 := hx 3 (by decide)
    have e4 : ρ 4 = x4 := hx 4 (by decide)
    subst e0
    subst e1
    subst e2
    subst e3
    subst e4
    have g7 := g7 (by decide)
    match Lc, stc, g7, g8 with
    | [v0, v1, v2, v3], [], ⟨hv0, hv1, hv2, hv3, _⟩, _ =>
      cases hv0
      cases hv1
      cases hv2
      cases hv3
      exact l0 τ ρ  g1 g2 g3 g4 g5 g6
  · intro ρ τ Lc stc hx g1 g2 g3 g4 g5 g6 g7 g8
    have e0 : ρ 0 = x0 := hx 0 (by decide)
    have e1 : ρ 1 = x1 := hx 1 (by decide)
    have e2 : ρ 2 = x2 := hx 2 (by decide)
    have e3 : ρ 3 = x3 := hx 3 (by decide)
    have e4 : ρ 4 = x4 := hx 4 (by decide)
    subst e0
    subst e1
    subst e2
    subst e3
    subst e4
    have g7 := g7 (by decide)
    match Lc, stc, g7, g8 with
    | [v0, v1, v2, v3], [w0, w1, w2], ⟨hv0, hv1, hv2, hv3, _⟩, ⟨hw0, hw1, hw2, _⟩ =>
      cases hv0
      cases hv1
      cases hv2
      cases hv3
      cases hw0
      cases hw1
      cases hw2
      exact l1 τ ρ  g1 g2 g3 g4 g5 g6
set_option maxRecDepth 100000 in
theorem tf_c70 {σ : pm_S} {Q : Option Value → pm_S → Prop} (x0 x1 x2 : Int)  (hB : an_GB pm_B σ) (eF : (2 ≤ x0 ∧ x0 ≤ 10) ∧ (0 ≤ x1 ∧ x1 ≤ 99999) ∧ (0 ≤ x2 ∧ x2 ≤ 9) ∧ True)
    (l0 : ∀ (τ : pm_S) (y : Nat → Int), an_GB pm_B τ → FQ [] σ τ → ((2 ≤ x0 ∧ x0 ≤ 10) ∧ (0 ≤ x1 ∧ x1 ≤ 99999) ∧ (0 ≤ x2 ∧ x2 ≤ 9) ∧ True) → (True) → (True) → (True) → Ok 207 4 36 [.ref 93, .int (Int32.ofInt (x0)), .int (Int32.ofInt (x1)), .int (Int32.ofInt (x2 + 1))] [] τ Q)
    : Ok 207 4 70 [.ref 93, .int (Int32.ofInt (x0)), .int (Int32.ofInt (x1)), .int (Int32.ofInt (x2))] [] σ Q := by
  refine an_seg (B := pm_B) (F := []) (T := []) (S := []) (fun _ h => absurd h List.not_mem_nil) (k := 207) (d := 3) (cs := [36]) 4 70 3 [(0, 2, 10), (1, 0, 99999), (2, 0, 9)] [] [(2, 93, 0), (0, 0, 0), (0, 1, 0), (0, 2, 0)] [] [(36, [(2, 93, 0), (0, 0, 0), (0, 1, 0), (0, 2, 1)], [], [(0, 2, 10), (1, 0, 99999), (2, 0, 9)], [], [], [])] (by decide +kernel) (ρ0 := (fun s => [x0, x1, x2].getD s 0)) hB eF trivial ⟨rfl, ⟨rfl, ⟨rfl, ⟨rfl, trivial⟩⟩⟩⟩ trivial ?_
  refine List.forall_mem_cons.mpr ⟨?_, fun _ h => absurd h List.not_mem_nil⟩
  · intro ρ τ Lc stc hx g1 g2 g3 g4 g5 g6 g7 g8
    have e0 : ρ 0 = x0 := hx 0 (by decide)
    have e1 : ρ 1 = x1 := hx 1 (by decide)
    have e2 : ρ 2 = x2 := hx 2 (by decide)
    subst e0
    subst e1
    subst e2
    have g7 := g7 (by decide)
    match Lc, stc, g7, g8 with
    | [v0, v1, v2, v3], [], ⟨hv0, hv1, hv2, hv3, _⟩, _ =>
      cases hv0
      cases hv1
      cases hv2
      cases hv3
      exact l0 τ ρ  g1 g2 g3 g4 g5 g6
set_option maxRecDepth 100000 in
theorem tf_c72 {σ : pm_S} {Q : Option Value → pm_S → Prop} (x0 : Int) (v2 : Value) (v3 : Value) (hv2 : v2.category = 1) (hv3 : v3.category = 1) (hB : an_GB pm_B σ) (eF : (2 ≤ x0 ∧ x0 ≤ 10) ∧ True)
    (l0 : ∀ (τ : pm_S) (y : Nat → Int), an_GB pm_B τ → FQ [] σ τ → ((2 ≤ x0 ∧ x0 ≤ 10) ∧ True) → (True) → (True) → (True) → Q none τ)
    : Ok 207 4 72 [.ref 93, .int (Int32.ofInt (x0)), v2, v3] [] σ Q := by
  refine an_seg (B := pm_B) (F := []) (T := []) (S := []) (fun _ h => absurd h List.not_mem_nil) (k := 207) (d := 3) (cs := []) 3 72 1 [(0, 2, 10)] [] [(2, 93, 0), (0, 0, 0), (5, 0, 0), (5, 0, 0)] [] [(9999, [], [], [(0, 2, 10)], [], [], [])] (by decide +kernel) (ρ0 := (fun s => [x0].getD s 0)) hB eF trivial ⟨rfl, ⟨rfl, ⟨hv2, ⟨hv3, trivial⟩⟩⟩⟩ trivial ?_
  refine List.forall_mem_cons.mpr ⟨?_, fun _ h => absurd h List.not_mem_nil⟩
  · intro ρ τ Lc stc hx g1 g2 g3 g4 g5 g6 g7 g8
    have e0 : ρ 0 = x0 := hx 0 (by decide)
    subst e0
    match stc, g8 with
    | [], _ => exact l0 τ ρ g1 g2 g3 g4 g5 g6
set_option maxRecDepth 100000 in
theorem tf_a0 {σ : pm_S} {Q : Option Value → pm_S → Prop} (x0 : Int) (v2 : Value) (hv2 : v2.category = 1) (hB : an_GB pm_B σ) (eF : (0 ≤ x0 ∧ x0 ≤ 9) ∧ True)
    (l0 : ∀ (τ : pm_S) (y : Nat → Int), an_GB pm_B τ → FQ [] σ τ → ((0 ≤ x0 ∧ x0 ≤ 9) ∧ True) → (True) → (True) → (True) → Ok 208 8 2 [.ref 93, .int (Int32.ofInt (x0)), .int (Int32.ofInt 2)] [] τ Q)
    : Ok 208 8 0 [.ref 93, .int (Int32.ofInt (x0)), v2] [] σ Q := by
  refine an_seg (B := pm_B) (F := []) (T := []) (S := []) (fun _ h => absurd h List.not_mem_nil) (k := 208) (d := 7) (cs := [2]) 4 0 1 [(0, 0, 9)] [] [(2, 93, 0), (0, 0, 0), (5, 0, 0)] [] [(2, [(2, 93, 0), (0, 0, 0), (1, 0, 2)], [], [(0, 0, 9)], [], [], [])] (by decide +kernel) (ρ0 := (fun s => [x0].getD s 0)) hB eF trivial ⟨rfl, ⟨rfl, ⟨hv2, trivial⟩⟩⟩ trivial ?_
  refine List.forall_mem_cons.mpr ⟨?_, fun _ h => absurd h List.not_mem_nil⟩
  · intro ρ τ Lc stc hx g1 g2 g3 g4 g5 g6 g7 g8
    have e0 : ρ 0 = x0 := hx 0 (by decide)
    subst e0
    have g7 := g7 (by decide)
    match Lc, stc, g7, g8 with
    | [v0, v1, v2], [], ⟨hv0, hv1, hv2, _⟩, _ =>
      cases hv0
      cases hv1
      cases hv2
      exact l0 τ ρ  g1 g2 g3 g4 g5 g6
set_option maxRecDepth 100000 in
theorem tf_a2 {σ : pm_S} {Q : Option Value → pm_S → Prop} (x0 x1 x2 : Int)  (hB : an_GB pm_B σ) (eF : (0 ≤ x0 ∧ x0 ≤ 9) ∧ (2 ≤ x1 ∧ x1 ≤ 11) ∧ (0 ≤ x2 ∧ x2 ≤ 10) ∧ True) (eC : (σ.1 93 5).toInt = x2 ∧ True)
    (l0 : ∀ (τ : pm_S) (y : Nat → Int), an_GB pm_B τ → FQ [] σ τ → ((0 ≤ x0 ∧ x0 ≤ 9) ∧ (2 ≤ x1 ∧ x1 ≤ 11) ∧ (0 ≤ x2 ∧ x2 ≤ 10) ∧ True) → (True) → (True) → ((τ.1 93 5).toInt = x2 ∧ True) → Ok 208 8 5 [.ref 93, .int (Int32.ofInt (x0)), .int (Int32.ofInt (x1))] [.int (Int32.ofInt (x2)), .int (Int32.ofInt (x1))] τ Q)
    : Ok 208 8 2 [.ref 93, .int (Int32.ofInt (x0)), .int (Int32.ofInt (x1))] [] σ Q := by
  refine an_seg (B := pm_B) (F := []) (T := []) (S := []) (fun _ h => absurd h List.not_mem_nil) (k := 208) (d := 7) (cs := [5]) 5 2 3 [(0, 0, 9), (1, 2, 11), (2, 0, 10)] [(93, (1, 0, 5), (0, 2, 0))] [(2, 93, 0), (0, 0, 0), (0, 1, 0)] [] [(5, [(2, 93, 0), (0, 0, 0), (0, 1, 0)], [(0, 2, 0), (0, 1, 0)], [(0, 0, 9), (1, 2, 11), (2, 0, 10)], [], [], [(93, (1, 0, 5), (0, 2, 0))])] (by decide +kernel) (ρ0 := (fun s => [x0, x1, x2].getD s 0)) hB eF eC ⟨rfl, ⟨rfl, ⟨rfl, trivial⟩⟩⟩ trivial ?_
  refine List.forall_mem_cons.mpr ⟨?_, fun _ h => absurd h List.not_mem_nil⟩
  · intro ρ τ Lc stc hx g1 g2 g3 g4 g5 g6 g7 g8
    have e0 : ρ 0 = x0 := hx 0 (by decide)
    have e1 : ρ 1 = x1 := hx 1 (by decide)
    have e2 : ρ 2 = x2 := hx 2 (by decide)
    subst e0
    subst e1
    subst e2
    have g7 := g7 (by decide)
    match Lc, stc, g7, g8 with
    | [v0, v1, v2], [w0, w1], ⟨hv0, hv1, hv2, _⟩, ⟨hw0, hw1, _⟩ =>
      cases hv0
      cases hv1
      cases hv2
      cases hw0
      cases hw1
      exact l0 τ ρ  g1 g2 g3 g4 g5 g6
set_option maxRecDepth 100000 in
theorem tf_a6 {σ : pm_S} {Q : Option Value → pm_S → Prop} (x0 x1 : Int)  (hB : an_GB pm_B σ) (eF : (0 ≤ x0 ∧ x0 ≤ 9) ∧ (2 ≤ x1 ∧ x1 ≤ 10) ∧ True)
    (l0 : ∀ (τ : pm_S) (y : Nat → Int), an_GB pm_B τ → FQ [] σ τ → ((0 ≤ x0 ∧ x0 ≤ 9) ∧ (2 ≤ x1 ∧ x1 ≤ 10) ∧ True) → (True) → (True) → (True) → Ok 208 8 9 [.ref 93, .int (Int32.ofInt (x0)), .int (Int32.ofInt (x1))] [.int (Int32.ofInt (x1)), .int (Int32.ofInt (x0)), .ref 93] τ Q)
    : Ok 208 8 6 [.ref 93, .int (Int32.ofInt (x0)), .int (Int32.ofInt (x1))] [] σ Q := by
  refine an_seg (B := pm_B) (F := []) (T := []) (S := []) (fun _ h => absurd h List.not_mem_nil) (k := 208) (d := 7) (cs := [9]) 5 6 2 [(0, 0, 9), (1, 2, 10)] [] [(2, 93, 0), (0, 0, 0), (0, 1, 0)] [] [(9, [(2, 93, 0), (0, 0, 0), (0, 1, 0)], [(0, 1, 0), (0, 0, 0), (2, 93, 0)], [(0, 0, 9), (1, 2, 10)], [], [], [])] (by decide +kernel) (ρ0 := (fun s => [x0, x1].getD s 0)) hB eF trivial ⟨rfl, ⟨rfl, ⟨rfl, trivial⟩⟩⟩ trivial ?_
  refine List.forall_mem_cons.mpr ⟨?_, fun _ h => absurd h List.not_mem_nil⟩
  · intro ρ τ Lc stc hx g1 g2 g3 g4 g5 g6 g7 g8
    have e0 : ρ 0 = x0 := hx 0 (by decide)
    have e1 : ρ 1 = x1 := hx 1 (by decide)
    subst e0
    subst e1
    have g7 := g7 (by decide)
    match Lc, stc, g7, g8 with
    | [v0, v1, v2], [w0, w1, w2], ⟨hv0, hv1, hv2, _⟩, ⟨hw0, hw1, hw2, _⟩ =>
      cases hv0
      cases hv1
      cases hv2
      cases hw0
      cases hw1
      cases hw2
      exact l0 τ ρ  g1 g2 g3 g4 g5 g6
set_option maxRecDepth 100000 in
theorem tf_a10 {σ : pm_S} {Q : Option Value → pm_S → Prop} (x0 x1 x2 : Int)  (hB : an_GB pm_B σ) (eF : (0 ≤ x0 ∧ x0 ≤ 9) ∧ (2 ≤ x1 ∧ x1 ≤ 10) ∧ (0 ≤ x2 ∧ x2 ≤ 1) ∧ True)
    (l0 : ∀ (τ : pm_S) (y : Nat → Int), an_GB pm_B τ → FQ [] σ τ → ((0 ≤ x0 ∧ x0 ≤ 9) ∧ (2 ≤ x1 ∧ x1 ≤ 10) ∧ (0 ≤ x2 ∧ x2 ≤ 0) ∧ True) → (True) → (True) → (True) → Ok 208 8 2 [.ref 93, .int (Int32.ofInt (x0)), .int (Int32.ofInt (x1 + 1))] [] τ Q)
    (l1 : ∀ (τ : pm_S) (y : Nat → Int), an_GB pm_B τ → FQ [] σ τ → ((0 ≤ x0 ∧ x0 ≤ 9) ∧ (2 ≤ x1 ∧ x1 ≤ 10) ∧ (1 ≤ x2 ∧ x2 ≤ 1) ∧ True) → (True) → (True) → (True) → Ok 208 8 13 [.ref 93, .int (Int32.ofInt (x0)), .int (Int32.ofInt (x1))] [.int (Int32.ofInt (x1)), .ref 93] τ Q)
    : Ok 208 8 10 [.ref 93, .int (Int32.ofInt (x0)), .int (Int32.ofInt (x1))] [.int (Int32.ofInt (x2))] σ Q := by
  refine an_seg (B := pm_B) (F := []) (T := []) (S := []) (fun _ h => absurd h List.not_mem_nil) (k := 208) (d := 7) (cs := [13, 2]) 8 10 3 [(0, 0, 9), (1, 2, 10), (2, 0, 1)] [] [(2, 93, 0), (0, 0, 0), (0, 1, 0)] [(0, 2, 0)] [(2, [(2, 93, 0), (0, 0, 0), (0, 1, 1)], [], [(0, 0, 9), (1, 2, 10), (2, 0, 0)], [], [], []),
    (13, [(2, 93, 0), (0, 0, 0), (0, 1, 0)], [(0, 1, 0), (2, 93, 0)], [(0, 0, 9), (1, 2, 10), (2, 1, 1)], [], [], [])] (by decide +kernel) (ρ0 := (fun s => [x0, x1, x2].getD s 0)) hB eF trivial ⟨rfl, ⟨rfl, ⟨rfl, trivial⟩⟩⟩ ⟨rfl, trivial⟩ ?_
  refine List.forall_mem_cons.mpr ⟨?_, List.forall_mem_cons.mpr ⟨?_, fun _ h => absurd h List.not_mem_nil⟩⟩
  · intro ρ τ Lc stc hx g1 g2 g3 g4 g5 g6 g7 g8
    have e0 : ρ 0 = x0 := hx 0 (by decide)
    have e1 : ρ 1 = x1 := hx 1 (by decide)
    have e2 : ρ 2 = x2 := hx 2 (by decide)
    subst e0
    subst e1
    subst e2
    have g7 := g7 (by decide)
    match Lc, stc, g7, g8 with
    | [v0, v1, v2], [], ⟨hv0, hv1, hv2, _⟩, _ =>
      cases hv0
      cases hv1
      cases hv2
      exact l0 τ ρ  g1 g2 g3 g4 g5 g6
  · intro ρ τ Lc stc hx g1 g2 g3 g4 g5 g6 g7 g8
    have e0 : ρ 0 = x0 := hx 0 (by decide)
    have e1 : ρ 1 = x1 := hx 1 (by decide)
    have e2 : ρ 2 = x2 := hx 2 (by decide)
    subst e0
    subst e1
    subst e2
    have g7 := g7 (by decide)
    match Lc, stc, g7, g8 with
    | [v0, v1, v2], [w0, w1], ⟨hv0, hv1, hv2, _⟩, ⟨hw0, hw1, _⟩ =>
      cases hv0
      cases hv1
      cases hv2
      cases hw0
      cases hw1
      exact l1 τ ρ  g1 g2 g3 g4 g5 g6
set_option maxRecDepth 100000 in
theorem tf_a14 {σ : pm_S} {Q : Option Value → pm_S → Prop} (x0 x1 : Int)  (hB : an_GB pm_B σ) (eF : (0 ≤ x0 ∧ x0 ≤ 9) ∧ (2 ≤ x1 ∧ x1 ≤ 10) ∧ True)
    (l0 : ∀ (τ : pm_S) (y : Nat → Int), an_GB pm_B τ → FQ [] σ τ → ((0 ≤ x0 ∧ x0 ≤ 9) ∧ (2 ≤ x1 ∧ x1 ≤ 10) ∧ True) → (True) → (True) → (True) → Ok 208 8 2 [.ref 93, .int (Int32.ofInt (x0)), .int (Int32.ofInt 2)] [] τ Q)
    : Ok 208 8 14 [.ref 93, .int (Int32.ofInt (x0)), .int (Int32.ofInt (x1))] [] σ Q := by
  refine an_seg (B := pm_B) (F := []) (T := []) (S := []) (fun _ h => absurd h List.not_mem_nil) (k := 208) (d := 7) (cs := [2]) 5 14 2 [(0, 0, 9), (1, 2, 10)] [] [(2, 93, 0), (0, 0, 0), (0, 1, 0)] [] [(2, [(2, 93, 0), (0, 0, 0), (1, 0, 2)], [], [(0, 0, 9), (1, 2, 10)], [], [], [])] (by decide +kernel) (ρ0 := (fun s => [x0, x1].getD s 0)) hB eF trivial ⟨rfl, ⟨rfl, ⟨rfl, trivial⟩⟩⟩ trivial ?_
  refine List.forall_mem_cons.mpr ⟨?_, fun _ h => absurd h List.not_mem_nil⟩
  · intro ρ τ Lc stc hx g1 g2 g3 g4 g5 g6 g7 g8
    have e0 : ρ 0 = x0 := hx 0 (by decide)
    have e1 : ρ 1 = x1 := hx 1 (by decide)
    subst e0
    subst e1
    have g7 := g7 (by decide)
    match Lc, stc, g7, g8 with
    | [v0, v1, v2], [], ⟨hv0, hv1, hv2, _⟩, _ =>
      cases hv0
      cases hv1
      cases hv2
      exact l0 τ ρ  g1 g2 g3 g4 g5 g6
set_option maxRecDepth 100000 in
theorem tf_a22 {σ : pm_S} {Q : Option Value → pm_S → Prop} (x0 : Int) (v2 : Value) (hv2 : v2.category = 1) (hB : an_GB pm_B σ) (eF : (0 ≤ x0 ∧ x0 ≤ 9) ∧ True)
    (l0 : ∀ (τ : pm_S) (y : Nat → Int), an_GB pm_B τ → FQ [] σ τ → ((0 ≤ x0 ∧ x0 ≤ 9) ∧ True) → (True) → (True) → (True) → Q none τ)
    : Ok 208 8 22 [.ref 93, .int (Int32.ofInt (x0)), v2] [] σ Q := by
  refine an_seg (B := pm_B) (F := []) (T := []) (S := []) (fun _ h => absurd h List.not_mem_nil) (k := 208) (d := 7) (cs := []) 3 22 1 [(0, 0, 9)] [] [(2, 93, 0), (0, 0, 0), (5, 0, 0)] [] [(9999, [], [], [(0, 0, 9)], [], [], [])] (by decide +kernel) (ρ0 := (fun s => [x0].getD s 0)) hB eF trivial ⟨rfl, ⟨rfl, ⟨hv2, trivial⟩⟩⟩ trivial ?_
  refine List.forall_mem_cons.mpr ⟨?_, fun _ h => absurd h List.not_mem_nil⟩
  · intro ρ τ Lc stc hx g1 g2 g3 g4 g5 g6 g7 g8
    have e0 : ρ 0 = x0 := hx 0 (by decide)
    subst e0
    match stc, g8 with
    | [], _ => exact l0 τ ρ g1 g2 g3 g4 g5 g6
