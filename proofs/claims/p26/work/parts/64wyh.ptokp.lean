/-! the class's tokens: pieces -/
set_option maxRecDepth 100000 in
theorem pz_b0 {σ : pm_S} {Q : Option Value → pm_S → Prop} (x0 x1 : Int)  (hB : an_GB pm_B σ) (eF : (0 ≤ x0 ∧ x0 ≤ 400) ∧ (0 ≤ x1 ∧ x1 ≤ 400) ∧ True) (eC : (σ.1 67 2).toInt = x1 ∧ True)
    (l0 : ∀ (τ : pm_S) (y : Nat → Int), an_GB pm_B τ → FQ [] σ τ → ((0 ≤ x0 ∧ x0 ≤ 400) ∧ (0 ≤ x1 ∧ x1 ≤ 400) ∧ True) → (True) → (True) → ((τ.1 67 2).toInt = x1 ∧ True) → Ok 40 4 5 [.ref 67, .int (Int32.ofInt (x0))] [.int (Int32.ofInt (x1)), .int (Int32.ofInt (x0))] τ Q)
    : Ok 40 4 0 [.ref 67, .int (Int32.ofInt (x0))] [] σ Q := by
  refine an_seg (B := pm_B) (F := []) (T := []) (S := []) (fun _ h => absurd h List.not_mem_nil) (k := 40) (d := 3) (cs := [5]) 7 0 2 [(0, 0, 400), (1, 0, 400)] [(67, (1, 0, 2), (0, 1, 0))] [(2, 67, 0), (0, 0, 0)] [] [(5, [(2, 67, 0), (0, 0, 0)], [(0, 1, 0), (0, 0, 0)], [(0, 0, 400), (1, 0, 400)], [], [], [(67, (1, 0, 2), (0, 1, 0))])] (by decide +kernel) (ρ0 := (fun s => [x0, x1].getD s 0)) hB eF eC ⟨rfl, ⟨rfl, trivial⟩⟩ trivial ?_
  refine List.forall_mem_cons.mpr ⟨?_, fun _ h => absurd h List.not_mem_nil⟩
  · intro ρ τ Lc stc hx g1 g2 g3 g4 g5 g6 g7 g8
    have e0 : ρ 0 = x0 := hx 0 (by decide)
    have e1 : ρ 1 = x1 := hx 1 (by decide)
    subst e0
    subst e1
    have g7 := g7 (by decide)
    match Lc, stc, g7, g8 with
    | [v0, v1], [w0, w1], ⟨hv0, hv1, _⟩, ⟨hw0, hw1, _⟩ =>
      cases hv0
      cases hv1
      cases hw0
      cases hw1
      exact l0 τ ρ  g1 g2 g3 g4 g5 g6
set_option maxRecDepth 100000 in
theorem pz_b6 {σ : pm_S} {Q : Option Value → pm_S → Prop} (x0 : Int)  (hB : an_GB pm_B σ) (eF : (0 ≤ x0 ∧ x0 ≤ 399) ∧ True)
    (l0 : ∀ (τ : pm_S) (y : Nat → Int), an_GB pm_B τ → FQ [] σ τ → ((0 ≤ x0 ∧ x0 ≤ 399) ∧ ((-2147483648) ≤ y 1 ∧ y 1 ≤ 2147483647) ∧ True) → (True) → (True) → ((τ.1 68 (x0).toNat).toInt = y 1 ∧ True) → Q (some (.int (Int32.ofInt (y 1)))) τ)
    : Ok 40 4 6 [.ref 67, .int (Int32.ofInt (x0))] [] σ Q := by
  refine an_seg (B := pm_B) (F := []) (T := [68]) (S := []) (fun _ h => absurd h List.not_mem_nil) (k := 40) (d := 3) (cs := []) 11 6 1 [(0, 0, 399)] [] [(2, 67, 0), (0, 0, 0)] [] [(9999, [], [(0, 1, 0)], [(0, 0, 399), (1, (-2147483648), 2147483647)], [], [], [(68, (0, 0, 0), (0, 1, 0))])] (by decide +kernel) (ρ0 := (fun s => [x0].getD s 0)) hB eF trivial ⟨rfl, ⟨rfl, trivial⟩⟩ trivial ?_
  refine List.forall_mem_cons.mpr ⟨?_, fun _ h => absurd h List.not_mem_nil⟩
  · intro ρ τ Lc stc hx g1 g2 g3 g4 g5 g6 g7 g8
    have e0 : ρ 0 = x0 := hx 0 (by decide)
    subst e0
    match stc, g8 with
    | [_], ⟨h, _⟩ => cases h; exact l0 τ ρ g1 g2 g3 g4 g5 g6
set_option maxRecDepth 100000 in
theorem pz_b14 {σ : pm_S} {Q : Option Value → pm_S → Prop} (x0 : Int)  (hB : an_GB pm_B σ) (eF : (0 ≤ x0 ∧ x0 ≤ 400) ∧ True)
    (l0 : ∀ (τ : pm_S) (y : Nat → Int), an_GB pm_B τ → FQ [] σ τ → ((0 ≤ x0 ∧ x0 ≤ 400) ∧ True) → (True) → (True) → (True) → Q (some (.int (Int32.ofInt (-1)))) τ)
    : Ok 40 4 14 [.ref 67, .int (Int32.ofInt (x0))] [] σ Q := by
  refine an_seg (B := pm_B) (F := []) (T := []) (S := []) (fun _ h => absurd h List.not_mem_nil) (k := 40) (d := 3) (cs := []) 4 14 1 [(0, 0, 400)] [] [(2, 67, 0), (0, 0, 0)] [] [(9999, [], [(1, 0, (-1))], [(0, 0, 400)], [], [], [])] (by decide +kernel) (ρ0 := (fun s => [x0].getD s 0)) hB eF trivial ⟨rfl, ⟨rfl, trivial⟩⟩ trivial ?_
  refine List.forall_mem_cons.mpr ⟨?_, fun _ h => absurd h List.not_mem_nil⟩
  · intro ρ τ Lc stc hx g1 g2 g3 g4 g5 g6 g7 g8
    have e0 : ρ 0 = x0 := hx 0 (by decide)
    subst e0
    match stc, g8 with
    | [_], ⟨h, _⟩ => cases h; exact l0 τ ρ g1 g2 g3 g4 g5 g6
set_option maxRecDepth 100000 in
theorem pz_l0 {σ : pm_S} {Q : Option Value → pm_S → Prop} (x0 : Int) (v2 : Value) (v3 : Value) (hv2 : v2.category = 1) (hv3 : v3.category = 1) (hB : an_GB pm_B σ) (eF : (0 ≤ x0 ∧ x0 ≤ 400) ∧ True)
    (l0 : ∀ (τ : pm_S) (y : Nat → Int), an_GB pm_B τ → FQ [] σ τ → ((0 ≤ x0 ∧ x0 ≤ 400) ∧ True) → (True) → (True) → (True) → Ok 44 6 4 [.ref 67, .int (Int32.ofInt (x0)), .int (Int32.ofInt (x0)), .int (Int32.ofInt 0)] [] τ Q)
    : Ok 44 6 0 [.ref 67, .int (Int32.ofInt (x0)), v2, v3] [] σ Q := by
  refine an_seg (B := pm_B) (F := []) (T := []) (S := []) (fun _ h => absurd h List.not_mem_nil) (k := 44) (d := 5) (cs := [4]) 6 0 1 [(0, 0, 400)] [] [(2, 67, 0), (0, 0, 0), (5, 0, 0), (5, 0, 0)] [] [(4, [(2, 67, 0), (0, 0, 0), (0, 0, 0), (1, 0, 0)], [], [(0, 0, 400)], [], [], [])] (by decide +kernel) (ρ0 := (fun s => [x0].getD s 0)) hB eF trivial ⟨rfl, ⟨rfl, ⟨hv2, ⟨hv3, trivial⟩⟩⟩⟩ trivial ?_
  refine List.forall_mem_cons.mpr ⟨?_, fun _ h => absurd h List.not_mem_nil⟩
  · intro ρ τ Lc stc hx g1 g2 g3 g4 g5 g6 g7 g8
    have e0 : ρ 0 = x0 := hx 0 (by decide)
    subst e0
    have g7 := g7 (by decide)
    match Lc, stc, g7, g8 with
    | [v0, v1, v2, v3], [], ⟨hv0, hv1, hv2, hv3, _⟩, _ =>
      cases hv0
      cases hv1
      cases hv2
      cases hv3
      exact l0 τ ρ  g1 g2 g3 g4 g5 g6
set_option maxRecDepth 100000 in
theorem pz_l4 {σ : pm_S} {Q : Option Value → pm_S → Prop} (x0 x1 x2 : Int)  (hB : an_GB pm_B σ) (eF : (0 ≤ x0 ∧ x0 ≤ 400) ∧ (0 ≤ x1 ∧ x1 ≤ 400) ∧ (0 ≤ x2 ∧ x2 ≤ 400) ∧ True)
    (l0 : ∀ (τ : pm_S) (y : Nat → Int), an_GB pm_B τ → FQ [] σ τ → ((0 ≤ x0 ∧ x0 ≤ 400) ∧ (0 ≤ x1 ∧ x1 ≤ 400) ∧ (400 ≤ x2 ∧ x2 ≤ 400) ∧ True) → (True) → (True) → (True) → Q (some (.int (Int32.ofInt (x1)))) τ)
    (l1 : ∀ (τ : pm_S) (y : Nat → Int), an_GB pm_B τ → FQ [] σ τ → ((0 ≤ x0 ∧ x0 ≤ 400) ∧ (0 ≤ x1 ∧ x1 ≤ 400) ∧ (0 ≤ x2 ∧ x2 ≤ 399) ∧ True) → (True) → (True) → (True) → Ok 44 6 9 [.ref 67, .int (Int32.ofInt (x0)), .int (Int32.ofInt (x1)), .int (Int32.ofInt (x2))] [.int (Int32.ofInt (x1)), .ref 67] τ Q)
    : Ok 44 6 4 [.ref 67, .int (Int32.ofInt (x0)), .int (Int32.ofInt (x1)), .int (Int32.ofInt (x2))] [] σ Q := by
  refine an_seg (B := pm_B) (F := []) (T := []) (S := []) (fun _ h => absurd h List.not_mem_nil) (k := 44) (d := 5) (cs := [9]) 7 4 3 [(0, 0, 400), (1, 0, 400), (2, 0, 400)] [] [(2, 67, 0), (0, 0, 0), (0, 1, 0), (0, 2, 0)] [] [(9999, [], [(0, 1, 0)], [(0, 0, 400), (1, 0, 400), (2, 400, 400)], [], [], []),
    (9, [(2, 67, 0), (0, 0, 0), (0, 1, 0), (0, 2, 0)], [(0, 1, 0), (2, 67, 0)], [(0, 0, 400), (1, 0, 400), (2, 0, 399)], [], [], [])] (by decide +kernel) (ρ0 := (fun s => [x0, x1, x2].getD s 0)) hB eF trivial ⟨rfl, ⟨rfl, ⟨rfl, ⟨rfl, trivial⟩⟩⟩⟩ trivial ?_
  refine List.forall_mem_cons.mpr ⟨?_, List.forall_mem_cons.mpr ⟨?_, fun _ h => absurd h List.not_mem_nil⟩⟩
  · intro ρ τ Lc stc hx g1 g2 g3 g4 g5 g6 g7 g8
    have e0 : ρ 0 = x0 := hx 0 (by decide)
    have e1 : ρ 1 = x1 := hx 1 (by decide)
    have e2 : ρ 2 = x2 := hx 2 (by decide)
    subst e0
    subst e1
    subst e2
    match stc, g8 with
    | [_], ⟨h, _⟩ => cases h; exact l0 τ ρ g1 g2 g3 g4 g5 g6
  · intro ρ τ Lc stc hx g1 g2 g3 g4 g5 g6 g7 g8
    have e0 : ρ 0 = x0 := hx 0 (by decide)
    have e1 : ρ 1 = x1 := hx 1 (by decide)
    have e2 : ρ 2 = x2 := hx 2 (by decide)
    subst e0
    subst e1
    subst e2
    have g7 := g7 (by decide)
    match Lc, stc, g7, g8 with
    | [v0, v1, v2, v3], [w0, w1], ⟨hv0, hv1, hv2, hv3, _⟩, ⟨hw0, hw1, _⟩ =>
      cases hv0
      cases hv1
      cases hv2
      cases hv3
      cases hw0
      cases hw1
      exact l1 τ ρ  g1 g2 g3 g4 g5 g6
set_option maxRecDepth 100000 in
theorem pz_l10 {σ : pm_S} {Q : Option Value → pm_S → Prop} (x0 x1 x2 x3 : Int)  (hB : an_GB pm_B σ) (eF : (0 ≤ x0 ∧ x0 ≤ 400) ∧ (0 ≤ x1 ∧ x1 ≤ 400) ∧ (0 ≤ x2 ∧ x2 ≤ 399) ∧ ((-1) ≤ x3 ∧ x3 ≤ 255) ∧ True)
    (l0 : ∀ (τ : pm_S) (y : Nat → Int), an_GB pm_B τ → FQ [] σ τ → ((0 ≤ x0 ∧ x0 ≤ 400) ∧ (0 ≤ x1 ∧ x1 ≤ 400) ∧ (0 ≤ x2 ∧ x2 ≤ 399) ∧ ((-1) ≤ x3 ∧ x3 ≤ 64) ∧ True) → (True) → (True) → (True) → Q (some (.int (Int32.ofInt (x1)))) τ)
    (l1 : ∀ (τ : pm_S) (y : Nat → Int), an_GB pm_B τ → FQ [] σ τ → ((0 ≤ x0 ∧ x0 ≤ 400) ∧ (0 ≤ x1 ∧ x1 ≤ 400) ∧ (0 ≤ x2 ∧ x2 ≤ 399) ∧ (91 ≤ x3 ∧ x3 ≤ 96) ∧ True) → (True) → (True) → (True) → Q (some (.int (Int32.ofInt (x1)))) τ)
    (l2 : ∀ (τ : pm_S) (y : Nat → Int), an_GB pm_B τ → FQ [] σ τ → ((0 ≤ x0 ∧ x0 ≤ 400) ∧ (0 ≤ x1 ∧ x1 ≤ 400) ∧ (0 ≤ x2 ∧ x2 ≤ 399) ∧ (65 ≤ x3 ∧ x3 ≤ 90) ∧ True) → (True) → (True) → (True) → Ok 44 6 4 [.ref 67, .int (Int32.ofInt (x0)), .int (Int32.ofInt (x1 + 1)), .int (Int32.ofInt (x2 + 1))] [] τ Q)
    (l3 : ∀ (τ : pm_S) (y : Nat → Int), an_GB pm_B τ → FQ [] σ τ → ((0 ≤ x0 ∧ x0 ≤ 400) ∧ (0 ≤ x1 ∧ x1 ≤ 400) ∧ (0 ≤ x2 ∧ x2 ≤ 399) ∧ (97 ≤ x3 ∧ x3 ≤ 122) ∧ True) → (True) → (True) → (True) → Ok 44 6 4 [.ref 67, .int (Int32.ofInt (x0)), .int (Int32.ofInt (x1 + 1)), .int (Int32.ofInt (x2 + 1))] [] τ Q)
    (l4 : ∀ (τ : pm_S) (y : Nat → Int), an_GB pm_B τ → FQ [] σ τ → ((0 ≤ x0 ∧ x0 ≤ 400) ∧ (0 ≤ x1 ∧ x1 ≤ 400) ∧ (0 ≤ x2 ∧ x2 ≤ 399) ∧ (123 ≤ x3 ∧ x3 ≤ 255) ∧ True) → (True) → (True) → (True) → Q (some (.int (Int32.ofInt (x1)))) τ)
    : Ok 44 6 10 [.ref 67, .int (Int32.ofInt (x0)), .int (Int32.ofInt (x1)), .int (Int32.ofInt (x2))] [.int (Int32.ofInt (x3))] σ Q := by
  refine an_seg (B := pm_B) (F := []) (T := []) (S := []) (fun _ h => absurd h List.not_mem_nil) (k := 44) (d := 5) (cs := [4]) 20 10 4 [(0, 0, 400), (1, 0, 400), (2, 0, 399), (3, (-1), 255)] [] [(2, 67, 0), (0, 0, 0), (0, 1, 0), (0, 2, 0)] [(0, 3, 0)] [(9999, [], [(0, 1, 0)], [(0, 0, 400), (1, 0, 400), (2, 0, 399), (3, (-1), 64)], [], [], []),
    (9999, [], [(0, 1, 0)], [(0, 0, 400), (1, 0, 400), (2, 0, 399), (3, 91, 96)], [], [], []),
    (4, [(2, 67, 0), (0, 0, 0), (0, 1, 1), (0, 2, 1)], [], [(0, 0, 400), (1, 0, 400), (2, 0, 399), (3, 65, 90)], [], [], []),
    (4, [(2, 67, 0), (0, 0, 0), (0, 1, 1), (0, 2, 1)], [], [(0, 0, 400), (1, 0, 400), (2, 0, 399), (3, 97, 122)], [], [], []),
    (9999, [], [(0, 1, 0)], [(0, 0, 400), (1, 0, 400), (2, 0, 399), (3, 123, 255)], [], [], [])] (by decide +kernel) (ρ0 := (fun s => [x0, x1, x2, x3].getD s 0)) hB eF trivial ⟨rfl, ⟨rfl, ⟨rfl, ⟨rfl, trivial⟩⟩⟩⟩ ⟨rfl, trivial⟩ ?_
  refine List.forall_mem_cons.mpr ⟨?_, List.forall_mem_cons.mpr ⟨?_, List.forall_mem_cons.mpr ⟨?_, List.forall_mem_cons.mpr ⟨?_, List.forall_mem_cons.mpr ⟨?_, fun _ h => absurd h List.not_mem_nil⟩⟩⟩⟩⟩
  · intro ρ τ Lc stc hx g1 g2 g3 g4 g5 g6 g7 g8
    have e0 : ρ 0 = x0 := hx 0 (by decide)
    have e1 : ρ 1 = x1 := hx 1 (by decide)
    have e2 : ρ 2 = x2 := hx 2 (by decide)
    have e3 : ρ 3 = x3 := hx 3 (by decide)
    subst e0
    subst e1
    subst e2
    subst e3
    match stc, g8 with
    | [_], ⟨h, _⟩ => cases h; exact l0 τ ρ g1 g2 g3 g4 g5 g6
  · intro ρ τ Lc stc hx g1 g2 g3 g4 g5 g6 g7 g8
    have e0 : ρ 0 = x0 := hx 0 (by decide)
    have e1 : ρ 1 = x1 := hx 1 (by decide)
    have e2 : ρ 2 = x2 := hx 2 (by decide)
    have e3 : ρ 3 = x3 := hx 3 (by decide)
    subst e0
    subst e1
    subst e2
    subst e3
    match stc, g8 with
    | [_], ⟨h, _⟩ => cases h; exact l1 τ ρ g1 g2 g3 g4 g5 g6
  · intro ρ τ Lc stc hx g1 g2 g3 g4 g5 g6 g7 g8
    have e0 : ρ 0 = x0 := hx 0 (by decide)
    have e1 : ρ 1 = x1 := hx 1 (by decide)
    have e2 : ρ 2 = x2 := hx 2 (by decide)
    have e3 : ρ 3 = x3 := hx 3 (by decide)
    subst e0
    subst e1
    subst e2
    subst e3
    have g7 := g7 (by decide)
    match Lc, stc, g7, g8 with
    | [v0, v1, v2, v3], [], ⟨hv0, hv1, hv2, hv3, _⟩, _ =>
      cases hv0
      cases hv1
      cases hv2
      cases hv3
      exact l2 τ ρ  g1 g2 g3 g4 g5 g6
  · intro ρ τ Lc stc hx g1 g2 g3 g4 g5 g6 g7 g8
    have e0 : ρ 0 = x0 := hx 0 (by decide)
    have e1 : ρ 1 = x1 := hx 1 (by decide)
    have e2 : ρ 2 = x2 := hx 2 (by decide)
    have e3 : ρ 3 = x3 := hx 3 (by decide)
    subst e0
    subst e1
    subst e2
    subst e3
    have g7 := g7 (by decide)
    match Lc, stc, g7, g8 with
    | [v0, v1, v2, v3], [], ⟨hv0, hv1, hv2, hv3, _⟩, _ =>
      cases hv0
      cases hv1
      cases hv2
      cases hv3
      exact l3 τ ρ  g1 g2 g3 g4 g5 g6
  · intro ρ τ Lc stc hx g1 g2 g3 g4 g5 g6 g7 g8
    have e0 : ρ 0 = x0 := hx 0 (by decide)
    have e1 : ρ 1 = x1 := hx 1 (by decide)
    have e2 : ρ 2 = x2 := hx 2 (by decide)
    have e3 : ρ 3 = x3 := hx 3 (by decide)
    subst e0
    subst e1
    subst e2
    subst e3
    match stc, g8 with
    | [_], ⟨h, _⟩ => cases h; exact l4 τ ρ g1 g2 g3 g4 g5 g6
set_option maxRecDepth 100000 in
theorem pz_d0 {σ : pm_S} {Q : Option Value → pm_S → Prop} (x0 : Int) (v2 : Value) (v3 : Value) (hv2 : v2.category = 1) (hv3 : v3.category = 1) (hB : an_GB pm_B σ) (eF : (0 ≤ x0 ∧ x0 ≤ 400) ∧ True)
    (l0 : ∀ (τ : pm_S) (y : Nat → Int), an_GB pm_B τ → FQ [] σ τ → ((0 ≤ x0 ∧ x0 ≤ 400) ∧ True) → (True) → (True) → (True) → Ok 45 6 4 [.ref 67, .int (Int32.ofInt (x0)), .int (Int32.ofInt (x0)), .int (Int32.ofInt 0)] [] τ Q)
    : Ok 45 6 0 [.ref 67, .int (Int32.ofInt (x0)), v2, v3] [] σ Q := by
  refine an_seg (B := pm_B) (F := []) (T := []) (S := []) (fun _ h => absurd h List.not_mem_nil) (k := 45) (d := 5) (cs := [4]) 6 0 1 [(0, 0, 400)] [] [(2, 67, 0), (0, 0, 0), (5, 0, 0), (5, 0, 0)] [] [(4, [(2, 67, 0), (0, 0, 0), (0, 0, 0), (1, 0, 0)], [], [(0, 0, 400)], [], [], [])] (by decide +kernel) (ρ0 := (fun s => [x0].getD s 0)) hB eF trivial ⟨rfl, ⟨rfl, ⟨hv2, ⟨hv3, trivial⟩⟩⟩⟩ trivial ?_
  refine List.forall_mem_cons.mpr ⟨?_, fun _ h => absurd h List.not_mem_nil⟩
  · intro ρ τ Lc stc hx g1 g2 g3 g4 g5 g6 g7 g8
    have e0 : ρ 0 = x0 := hx 0 (by decide)
    subst e0
    have g7 := g7 (by decide)
    match Lc, stc, g7, g8 with
    | [v0, v1, v2, v3], [], ⟨hv0, hv1, hv2, hv3, _⟩, _ =>
      cases hv0
      cases hv1
      cases hv2
      cases hv3
      exact l0 τ ρ  g1 g2 g3 g4 g5 g6
set_option maxRecDepth 100000 in
theorem pz_d4 {σ : pm_S} {Q : Option Value → pm_S → Prop} (x0 x1 x2 : Int)  (hB : an_GB pm_B σ) (eF : (0 ≤ x0 ∧ x0 ≤ 400) ∧ (0 ≤ x1 ∧ x1 ≤ 400) ∧ (0 ≤ x2 ∧ x2 ≤ 400) ∧ True)
    (l0 : ∀ (τ : pm_S) (y : Nat → Int), an_GB pm_B τ → FQ [] σ τ → ((0 ≤ x0 ∧ x0 ≤ 400) ∧ (0 ≤ x1 ∧ x1 ≤ 400) ∧ (400 ≤ x2 ∧ x2 ≤ 400) ∧ True) → (True) → (True) → (True) → Q (some (.int (Int32.ofInt (x1)))) τ)
    (l1 : ∀ (τ : pm_S) (y : Nat → Int), an_GB pm_B τ → FQ [] σ τ → ((0 ≤ x0 ∧ x0 ≤ 400) ∧ (0 ≤ x1 ∧ x1 ≤ 400) ∧ (0 ≤ x2 ∧ x2 ≤ 399) ∧ True) → (True) → (True) → (True) → Ok 45 6 9 [.ref 67, .int (Int32.ofInt (x0)), .int (Int32.ofInt (x1)), .int (Int32.ofInt (x2))] [.int (Int32.ofInt (x1)), .ref 67] τ Q)
    : Ok 45 6 4 [.ref 67, .int (Int32.ofInt (x0)), .int (Int32.ofInt (x1)), .int (Int32.ofInt (x2))] [] σ Q := by
  refine an_seg (B := pm_B) (F := []) (T := []) (S := []) (fun _ h => absurd h List.not_mem_nil) (k := 45) (d := 5) (cs := [9]) 7 4 3 [(0, 0, 400), (1, 0, 400), (2, 0, 400)] [] [(2, 67, 0), (0, 0, 0), (0, 1, 0), (0, 2, 0)] [] [(9999, [], [(0, 1, 0)], [(0, 0, 400), (1, 0, 400), (2, 400, 400)], [], [], []),
    (9, [(2, 67, 0), (0, 0, 0), (0, 1, 0), (0, 2, 0)], [(0, 1, 0), (2, 67, 0)], [(0, 0, 400), (1, 0, 400), (2, 0, 399)], [], [], [])] (by decide +kernel) (ρ0 := (fun s => [x0, x1, x2].getD s 0)) hB eF trivial ⟨rfl, ⟨rfl, ⟨rfl, ⟨rfl, trivial⟩⟩⟩⟩ trivial ?_
  refine List.forall_mem_cons.mpr ⟨?_, List.forall_mem_cons.mpr ⟨?_, fun _ h => absurd h List.not_mem_nil⟩⟩
  · intro ρ τ Lc stc hx g1 g2 g3 g4 g5 g6 g7 g8
    have e0 : ρ 0 = x0 := hx 0 (by decide)
    have e1 : ρ 1 = x1 := hx 1 (by decide)
    have e2 : ρ 2 = x2 := hx 2 (by decide)
    subst e0
    subst e1
    subst e2
    match stc, g8 with
    | [_], ⟨h, _⟩ => cases h; exact l0 τ ρ g1 g2 g3 g4 g5 g6
  · intro ρ τ Lc stc hx g1 g2 g3 g4 g5 g6 g7 g8
    have e0 : ρ 0 = x0 := hx 0 (by decide)
    have e1 : ρ 1 = x1 := hx 1 (by decide)
    have e2 : ρ 2 = x2 := hx 2 (by decide)
    subst e0
    subst e1
    subst e2
    have g7 := g7 (by decide)
    match Lc, stc, g7, g8 with
    | [v0, v1, v2, v3], [w0, w1], ⟨hv0, hv1, hv2, hv3, _⟩, ⟨hw0, hw1, _⟩ =>
      cases hv0
      cases hv1
      cases hv2
      cases hv3
      cases hw0
      cases hw1
      exact l1 τ ρ  g1 g2 g3 g4 g5 g6
set_option maxRecDepth 100000 in
theorem pz_d10 {σ : pm_S} {Q : Option Value → pm_S → Prop} (x0 x1 x2 x3 : Int)  (hB : an_GB pm_B σ) (eF : (0 ≤ x0 ∧ x0 ≤ 400) ∧ (0 ≤ x1 ∧ x1 ≤ 400) ∧ (0 ≤ x2 ∧ x2 ≤ 399) ∧ ((-1) ≤ x3 ∧ x3 ≤ 255) ∧ True)
    (l0 : ∀ (τ : pm_S) (y : Nat → Int), an_GB pm_B τ → FQ [] σ τ → ((0 ≤ x0 ∧ x0 ≤ 400) ∧ (0 ≤ x1 ∧ x1 ≤ 400) ∧ (0 ≤ x2 ∧ x2 ≤ 399) ∧ ((-1) ≤ x3 ∧ x3 ≤ 47) ∧ True) → (True) → (True) → (True) → Q (some (.int (Int32.ofInt (x1)))) τ)
    (l1 : ∀ (τ : pm_S) (y : Nat → Int), an_GB pm_B τ → FQ [] σ τ → ((0 ≤ x0 ∧ x0 ≤ 400) ∧ (0 ≤ x1 ∧ x1 ≤ 400) ∧ (0 ≤ x2 ∧ x2 ≤ 399) ∧ (58 ≤ x3 ∧ x3 ≤ 255) ∧ True) → (True) → (True) → (True) → Q (some (.int (Int32.ofInt (x1)))) τ)
    (l2 : ∀ (τ : pm_S) (y : Nat → Int), an_GB pm_B τ → FQ [] σ τ → ((0 ≤ x0 ∧ x0 ≤ 400) ∧ (0 ≤ x1 ∧ x1 ≤ 400) ∧ (0 ≤ x2 ∧ x2 ≤ 399) ∧ (48 ≤ x3 ∧ x3 ≤ 57) ∧ True) → (True) → (True) → (True) → Ok 45 6 4 [.ref 67, .int (Int32.ofInt (x0)), .int (Int32.ofInt (x1 + 1)), .int (Int32.ofInt (x2 + 1))] [] τ Q)
    : Ok 45 6 10 [.ref 67, .int (Int32.ofInt (x0)), .int (Int32.ofInt (x1)), .int (Int32.ofInt (x2))] [.int (Int32.ofInt (x3))] σ Q := by
  refine an_seg (B := pm_B) (F := []) (T := []) (S := []) (fun _ h => absurd h List.not_mem_nil) (k := 45) (d := 5) (cs := [4]) 16 10 4 [(0, 0, 400), (1, 0, 400), (2, 0, 399), (3, (-1), 255)] [] [(2, 67, 0), (0, 0, 0), (0, 1, 0), (0, 2, 0)] [(0, 3, 0)] [(9999, [], [(0, 1, 0)], [(0, 0, 400), (1, 0, 400), (2, 0, 399), (3, (-1), 47)], [], [], []),
    (9999, [], [(0, 1, 0)], [(0, 0, 400), (1, 0, 400), (2, 0, 399), (3, 58, 255)], [], [], []),
    (4, [(2, 67, 0), (0, 0, 0), (0, 1, 1), (0, 2, 1)], [], [(0, 0, 400), (1, 0, 400), (2, 0, 399), (3, 48, 57)], [], [], [])] (by decide +kernel) (ρ0 := (fun s => [x0, x1, x2, x3].getD s 0)) hB eF trivial ⟨rfl, ⟨rfl, ⟨rfl, ⟨rfl, trivial⟩⟩⟩⟩ ⟨rfl, trivial⟩ ?_
  refine List.forall_mem_cons.mpr ⟨?_, List.forall_mem_cons.mpr ⟨?_, List.forall_mem_cons.mpr ⟨?_, fun _ h => absurd h List.not_mem_nil⟩⟩⟩
  · intro ρ τ Lc stc hx g1 g2 g3 g4 g5 g6 g7 g8
    have e0 : ρ 0 = x0 := hx 0 (by decide)
    have e1 : ρ 1 = x1 := hx 1 (by decide)
    have e2 : ρ 2 = x2 := hx 2 (by decide)
    have e3 : ρ 3 = x3 := hx 3 (by decide)
    subst e0
    subst e1
    subst e2
    subst e3
    match stc, g8 with
    | [_], ⟨h, _⟩ => cases h; exact l0 τ ρ g1 g2 g3 g4 g5 g6
  · intro ρ τ Lc stc hx g1 g2 g3 g4 g5 g6 g7 g8
    have e0 : ρ 0 = x0 := hx 0 (by decide)
    have e1 : ρ 1 = x1 := hx 1 (by decide)
    have e2 : ρ 2 = x2 := hx 2 (by decide)
    have e3 : ρ 3 = x3 := hx 3 (by decide)
    subst e0
    subst e1
    subst e2
    subst e3
    match stc, g8 with
    | [_], ⟨h, _⟩ => cases h; exact l1 τ ρ g1 g2 g3 g4 g5 g6
  · intro ρ τ Lc stc hx g1 g2 g3 g4 g5 g6 g7 g8
    have e0 : ρ 0 = x0 := hx 0 (by decide)
    have e1 : ρ 1 = x1 := hx 1 (by decide)
    have e2 : ρ 2 = x2 := hx 2 (by decide)
    have e3 : ρ 3 = x3 := hx 3 (by decide)
    subst e0
    subst e1
    subst e2
    subst e3
    have g7 := g7 (by decide)
    match Lc, stc, g7, g8 with
    | [v0, v1, v2, v3], [], ⟨hv0, hv1, hv2, hv3, _⟩, _ =>
      cases hv0
      cases hv1
      cases hv2
      cases hv3
      exact l2 τ ρ  g1 g2 g3 g4 g5 g6
set_option maxRecDepth 100000 in
theorem pz_k0 {σ : pm_S} {Q : Option Value → pm_S → Prop} (x0 x1 x2 : Int) (v4 : Value) (hv4 : v4.category = 1) (hB : an_GB pm_B σ) (eF : (0 ≤ x0 ∧ x0 ≤ 400) ∧ (0 ≤ x1 ∧ x1 ≤ 78) ∧ (0 ≤ x2 ∧ x2 ≤ 78) ∧ True)
    (l0 : ∀ (τ : pm_S) (y : Nat → Int), an_GB pm_B τ → FQ [] σ τ → ((0 ≤ x0 ∧ x0 ≤ 400) ∧ (0 ≤ x1 ∧ x1 ≤ 78) ∧ (0 ≤ x2 ∧ x2 ≤ 78) ∧ True) → (True) → (True) → (True) → Ok 47 7 2 [.ref 67, .int (Int32.ofInt (x0)), .int (Int32.ofInt (x1)), .int (Int32.ofInt (x2)), .int (Int32.ofInt (x1))] [] τ Q)
    : Ok 47 7 0 [.ref 67, .int (Int32.ofInt (x0)), .int (Int32.ofInt (x1)), .int (Int32.ofInt (x2)), v4] [] σ Q := by
  refine an_seg (B := pm_B) (F := []) (T := []) (S := []) (fun _ h => absurd h List.not_mem_nil) (k := 47) (d := 6) (cs := [2]) 4 0 3 [(0, 0, 400), (1, 0, 78), (2, 0, 78)] [] [(2, 67, 0), (0, 0, 0), (0, 1, 0), (0, 2, 0), (5, 0, 0)] [] [(2, [(2, 67, 0), (0, 0, 0), (0, 1, 0), (0, 2, 0), (0, 1, 0)], [], [(0, 0, 400), (1, 0, 78), (2, 0, 78)], [], [], [])] (by decide +kernel) (ρ0 := (fun s => [x0, x1, x2].getD s 0)) hB eF trivial ⟨rfl, ⟨rfl, ⟨rfl, ⟨rfl, ⟨hv4, trivial⟩⟩⟩⟩⟩ trivial ?_
  refine List.forall_mem_cons.mpr ⟨?_, fun _ h => absurd h List.not_mem_nil⟩
  · intro ρ τ Lc stc hx g1 g2 g3 g4 g5 g6 g7 g8
    have e0 : ρ 0 = x0 := hx 0 (by decide)
    have e1 : ρ 1 = x1 := hx 1 (by decide)
    have e2 : ρ 2 = x2 := hx 2 (by decide)
    subst e0
    subst e1
    subst e2
    have g7 := g7 (by decide)
    match Lc, stc, g7, g8 with
    | [v0, v1, v2, v3, v4], [], ⟨hv0, hv1, hv2, hv3, hv4, _⟩, _ =>
      cases hv0
      cases hv1
      cases hv2
      cases hv3
      cases hv4
      exact l0 τ ρ  g1 g2 g3 g4 g5 g6
set_option maxRecDepth 100000 in
theorem pz_k2 {σ : pm_S} {Q : Option Value → pm_S → Prop} (x0 x1 x2 x3 : Int)  (hB : an_GB pm_B σ) (eF : (0 ≤ x0 ∧ x0 ≤ 400) ∧ (0 ≤ x1 ∧ x1 ≤ 78) ∧ (0 ≤ x2 ∧ x2 ≤ 78) ∧ (0 ≤ x3 ∧ x3 ≤ 78) ∧ True)
    (l0 : ∀ (τ : pm_S) (y : Nat → Int), an_GB pm_B τ → FQ [] σ τ → ((0 ≤ x0 ∧ x0 ≤ 400) ∧ (0 ≤ x1 ∧ x1 ≤ 78) ∧ (0 ≤ x2 ∧ x2 ≤ 78) ∧ (0 ≤ x3 ∧ x3 ≤ 78) ∧ True) → (True) → (True) → (True) → Ok 47 7 4 [.ref 67, .int (Int32.ofInt (x0)), .int (Int32.ofInt (x1)), .int (Int32.ofInt (x2)), .int (Int32.ofInt (x3))] [.int (Int32.ofInt (x2)), .int (Int32.ofInt (x3))] τ Q)
    : Ok 47 7 2 [.ref 67, .int (Int32.ofInt (x0)), .int (Int32.ofInt (x1)), .int (Int32.ofInt (x2)), .int (Int32.ofInt (x3))] [] σ Q := by
  refine an_seg (B := pm_B) (F := []) (T := []) (S := []) (fun _ h => absurd h List.not_mem_nil) (k := 47) (d := 6) (cs := [4]) 4 2 4 [(0, 0, 400), (1, 0, 78), (2, 0, 78), (3, 0, 78)] [] [(2, 67, 0), (0, 0, 0), (0, 1, 0), (0, 2, 0), (0, 3, 0)] [] [(4, [(2, 67, 0), (0, 0, 0), (0, 1, 0), (0, 2, 0), (0, 3, 0)], [(0, 2, 0), (0, 3, 0)], [(0, 0, 400), (1, 0, 78), (2, 0, 78), (3, 0, 78)], [], [], [])] (by decide +kernel) (ρ0 := (fun s => [x0, x1, x2, x3].getD s 0)) hB eF trivial ⟨rfl, ⟨rfl, ⟨rfl, ⟨rfl, ⟨rfl, trivial⟩⟩⟩⟩⟩ trivial ?_
  refine List.forall_mem_cons.mpr ⟨?_, fun _ h => absurd h List.not_mem_nil⟩
  · intro ρ τ Lc stc hx g1 g2 g3 g4 g5 g6 g7 g8
    have e0 : ρ 0 = x0 := hx 0 (by decide)
    have e1 : ρ 1 = x1 := hx 1 (by decide)
    have e2 : ρ 2 = x2 := hx 2 (by decide)
    have e3 : ρ 3 = x3 := hx 3 (by decide)
    subst e0
    subst e1
    subst e2
    subst e3
    have g7 := g7 (by decide)
    match Lc, stc, g7, g8 with
    | [v0, v1, v2, v3, v4], [w0, w1], ⟨hv0, hv1, hv2, hv3, hv4, _⟩, ⟨hw0, hw1, _⟩ =>
      cases hv0
      cases hv1
      cases hv2
      cases hv3
      cases hv4
      cases hw0
      cases hw1
      exact l0 τ ρ  g1 g2 g3 g4 g5 g6
set_option maxRecDepth 100000 in
theorem pz_k5 {σ : pm_S} {Q : Option Value → pm_S → Prop} (x0 x1 x2 x3 : Int)  (hB : an_GB pm_B σ) (eF : (0 ≤ x0 ∧ x0 ≤ 400) ∧ (0 ≤ x1 ∧ x1 ≤ 78) ∧ (0 ≤ x2 ∧ x2 ≤ 78) ∧ (0 ≤ x3 ∧ x3 ≤ 78) ∧ True)
    (l0 : ∀ (τ : pm_S) (y : Nat → Int), an_GB pm_B τ → FQ [] σ τ → ((0 ≤ x0 ∧ x0 ≤ 400) ∧ (0 ≤ x1 ∧ x1 ≤ 78) ∧ (0 ≤ x2 ∧ x2 ≤ 78) ∧ (0 ≤ x3 ∧ x3 ≤ 78) ∧ (0 ≤ y 4 ∧ y 4 ≤ 478) ∧ ((-78) ≤ y 5 ∧ y 5 ≤ 478) ∧ True) → (True) → ((an_f 0 (Int32.ofInt (x0)) (Int32.ofInt (x3))).toInt = y 4 ∧ (an_f 1 (Int32.ofInt (y 4)) (Int32.ofInt (x1))).toInt = y 5 ∧ True) → (True) → Ok 47 7 15 [.ref 67, .int (Int32.ofInt (x0)), .int (Int32.ofInt (x1)), .int (Int32.ofInt (x2)), .int (Int32.ofInt (x3))] [.int (Int32.ofInt (y 5)), .ref 67] τ Q)
    : Ok 47 7 5 [.ref 67, .int (Int32.ofInt (x0)), .int (Int32.ofInt (x1)), .int (Int32.ofInt (x2)), .int (Int32.ofInt (x3))] [] σ Q := by
  refine an_seg (B := pm_B) (F := []) (T := []) (S := []) (fun _ h => absurd h List.not_mem_nil) (k := 47) (d := 6) (cs := [15]) 25 5 4 [(0, 0, 400), (1, 0, 78), (2, 0, 78), (3, 0, 78)] [] [(2, 67, 0), (0, 0, 0), (0, 1, 0), (0, 2, 0), (0, 3, 0)] [] [(15, [(2, 67, 0), (0, 0, 0), (0, 1, 0), (0, 2, 0), (0, 3, 0)], [(0, 5, 0), (2, 67, 0)], [(0, 0, 400), (1, 0, 78), (2, 0, 78), (3, 0, 78), (4, 0, 478), (5, (-78), 478)], [], [(0, (0, 0, 0), (0, 3, 0), 4), (1, (0, 4, 0), (0, 1, 0), 5)], [])] (by decide +kernel) (ρ0 := (fun s => [x0, x1, x2, x3].getD s 0)) hB eF trivial ⟨rfl, ⟨rfl, ⟨rfl, ⟨rfl, ⟨rfl, trivial⟩⟩⟩⟩⟩ trivial ?_
  refine List.forall_mem_cons.mpr ⟨?_, fun _ h => absurd h List.not_mem_nil⟩
  · intro ρ τ Lc stc hx g1 g2 g3 g4 g5 g6 g7 g8
    have e0 : ρ 0 = x0 := hx 0 (by decide)
    have e1 : ρ 1 = x1 := hx 1 (by decide)
    have e2 : ρ 2 = x2 := hx 2 (by decide)
    have e3 : ρ 3 = x3 := hx 3 (by decide)
    subst e0
    subst e1
    subst e2
    subst e3
    have g7 := g7 (by decide)
    match Lc, stc, g7, g8 with
    | [v0, v1, v2, v3, v4], [w0, w1], ⟨hv0, hv1, hv2, hv3, hv4, _⟩, ⟨hw0, hw1, _⟩ =>
      cases hv0
      cases hv1
      cases hv2
      cases hv3
      cases hv4
      cases hw0
      cases hw1
      exact l0 τ ρ  g1 g2 g3 g4 g5 g6
set_option maxRecDepth 100000 in
theorem pz_k16 {σ : pm_S} {Q : Option Value → pm_S → Prop} (x0 x1 x2 x3 x4 : Int)  (hB : an_GB pm_B σ) (eF : (0 ≤ x0 ∧ x0 ≤ 400) ∧ (0 ≤ x1 ∧ x1 ≤ 78) ∧ (0 ≤ x2 ∧ x2 ≤ 78) ∧ (0 ≤ x3 ∧ x3 ≤ 78) ∧ ((-1) ≤ x4 ∧ x4 ≤ 255) ∧ True)
    (l0 : ∀ (τ : pm_S) (y : Nat → Int), an_GB pm_B τ → FQ [] σ τ → ((0 ≤ x0 ∧ x0 ≤ 400) ∧ (0 ≤ x1 ∧ x1 ≤ 78) ∧ (0 ≤ x2 ∧ x2 ≤ 78) ∧ (0 ≤ x3 ∧ x3 ≤ 78) ∧ ((-1) ≤ x4 ∧ x4 ≤ 255) ∧ True) → (True) → (True) → (True) → Ok 47 7 18 [.ref 67, .int (Int32.ofInt (x0)), .int (Int32.ofInt (x1)), .int (Int32.ofInt (x2)), .int (Int32.ofInt (x3))] [.int (Int32.ofInt (x3)), .retAddr 0, .int (Int32.ofInt (x4))] τ Q)
    : Ok 47 7 16 [.ref 67, .int (Int32.ofInt (x0)), .int (Int32.ofInt (x1)), .int (Int32.ofInt (x2)), .int (Int32.ofInt (x3))] [.int (Int32.ofInt (x4))] σ Q := by
  refine an_seg (B := pm_B) (F := []) (T := []) (S := []) (fun _ h => absurd h List.not_mem_nil) (k := 47) (d := 6) (cs := [18]) 4 16 5 [(0, 0, 400), (1, 0, 78), (2, 0, 78), (3, 0, 78), (4, (-1), 255)] [] [(2, 67, 0), (0, 0, 0), (0, 1, 0), (0, 2, 0), (0, 3, 0)] [(0, 4, 0)] [(18, [(2, 67, 0), (0, 0, 0), (0, 1, 0), (0, 2, 0), (0, 3, 0)], [(0, 3, 0), (3, 0, 0), (0, 4, 0)], [(0, 0, 400), (1, 0, 78), (2, 0, 78), (3, 0, 78), (4, (-1), 255)], [], [], [])] (by decide +kernel) (ρ0 := (fun s => [x0, x1, x2, x3, x4].getD s 0)) hB eF trivial ⟨rfl, ⟨rfl, ⟨rfl, ⟨rfl, ⟨rfl, trivial⟩⟩⟩⟩⟩ ⟨rfl, trivial⟩ ?_
  refine List.forall_mem_cons.mpr ⟨?_, fun _ h => absurd h List.not_mem_nil⟩
  · intro ρ τ Lc stc hx g1 g2 g3 g4 g5 g6 g7 g8
    have e0 : ρ 0 = x0 := hx 0 (by decide)
    have e1 : ρ 1 = x1 := hx 1 (by decide)
    have e2 : ρ 2 = x2 := hx 2 (by decide)
    have e3 : ρ 3 = x3 := hx 3 (by decide)
    have e4 : ρ 4 = x4 := hx 4 (by decide)
    subst e0
    subst e1
    subst e2
    subst e3
    subst e4
    have g7 := g7 (by decide)
    match Lc, stc, g7, g8 with
    | [v0, v1, v2, v3, v4], [w0, w1, w2], ⟨hv0, hv1, hv2, hv3, hv4, _⟩, ⟨hw0, hw1, hw2, _⟩ =>
      cases hv0
      cases hv1
      cases hv2
      cases hv3
      cases hv4
      cases hw0
      cases hw1
      cases hw2
      exact l0 τ ρ  g1 g2 g3 g4 g5 g6
set_option maxRecDepth 100000 in
theorem pz_k20 {σ : pm_S} {Q : Option Value → pm_S → Prop} (x0 x1 x2 x3 : Int)  (hB : an_GB pm_B σ) (eF : (0 ≤ x0 ∧ x0 ≤ 400) ∧ (0 ≤ x1 ∧ x1 ≤ 78) ∧ (0 ≤ x2 ∧ x2 ≤ 78) ∧ (0 ≤ x3 ∧ x3 ≤ 78) ∧ True)
    (l0 : ∀ (τ : pm_S) (y : Nat → Int), an_GB pm_B τ → FQ [] σ τ → ((0 ≤ x0 ∧ x0 ≤ 400) ∧ (0 ≤ x1 ∧ x1 ≤ 78) ∧ (0 ≤ x2 ∧ x2 ≤ 78) ∧ (0 ≤ x3 ∧ x3 ≤ 78) ∧ True) → (True) → (True) → (True) → Q (some (.int (Int32.ofInt 0))) τ)
    : Ok 47 7 20 [.ref 67, .int (Int32.ofInt (x0)), .int (Int32.ofInt (x1)), .int (Int32.ofInt (x2)), .int (Int32.ofInt (x3))] [] σ Q := by
  refine an_seg (B := pm_B) (F := []) (T := []) (S := []) (fun _ h => absurd h List.not_mem_nil) (k := 47) (d := 6) (cs := []) 4 20 4 [(0, 0, 400), (1, 0, 78), (2, 0, 78), (3, 0, 78)] [] [(2, 67, 0), (0, 0, 0), (0, 1, 0), (0, 2, 0), (0, 3, 0)] [] [(9999, [], [(1, 0, 0)], [(0, 0, 400), (1, 0, 78), (2, 0, 78), (3, 0, 78)], [], [], [])] (by decide +kernel) (ρ0 := (fun s => [x0, x1, x2, x3].getD s 0)) hB eF trivial ⟨rfl, ⟨rfl, ⟨rfl, ⟨rfl, ⟨rfl, trivial⟩⟩⟩⟩⟩ trivial ?_
  refine List.forall_mem_cons.mpr ⟨?_, fun _ h => absurd h List.not_mem_nil⟩
  · intro ρ τ Lc stc hx g1 g2 g3 g4 g5 g6 g7 g8
    have e0 : ρ 0 = x0 := hx 0 (by decide)
    have e1 : ρ 1 = x1 := hx 1 (by decide)
    have e2 : ρ 2 = x2 := hx 2 (by decide)
    have e3 : ρ 3 = x3 := hx 3 (by decide)
    subst e0
    subst e1
    subst e2
    subst e3
    match stc, g8 with
    | [_], ⟨h, _⟩ => cases h; exact l0 τ ρ g1 g2 g3 g4 g5 g6
set_option maxRecDepth 100000 in
theorem pz_k22 {σ : pm_S} {Q : Option Value → pm_S → Prop} (x0 x1 x2 x3 : Int)  (hB : an_GB pm_B σ) (eF : (0 ≤ x0 ∧ x0 ≤ 400) ∧ (0 ≤ x1 ∧ x1 ≤ 78) ∧ (0 ≤ x2 ∧ x2 ≤ 78) ∧ (0 ≤ x3 ∧ x3 ≤ 78) ∧ True)
    (l0 : ∀ (τ : pm_S) (y : Nat → Int), an_GB pm_B τ → FQ [] σ τ → ((0 ≤ x0 ∧ x0 ≤ 400) ∧ (0 ≤ x1 ∧ x1 ≤ 78) ∧ (0 ≤ x2 ∧ x2 ≤ 78) ∧ (0 ≤ x3 ∧ x3 ≤ 78) ∧ True) → (True) → (True) → (True) → Ok 47 7 2 [.ref 67, .int (Int32.ofInt (x0)), .int (Int32.ofInt (x1)), .int (Int32.ofInt (x2)), .int (Int32.ofInt (x3 + 1))] [] τ Q)
    : Ok 47 7 22 [.ref 67, .int (Int32.ofInt (x0)), .int (Int32.ofInt (x1)), .int (Int32.ofInt (x2)), .int (Int32.ofInt (x3))] [] σ Q := by
  refine an_seg (B := pm_B) (F := []) (T := []) (S := []) (fun _ h => absurd h List.not_mem_nil) (k := 47) (d := 6) (cs := [2]) 4 22 4 [(0, 0, 400), (1, 0, 78), (2, 0, 78), (3, 0, 78)] [] [(2, 67, 0), (0, 0, 0), (0, 1, 0), (0, 2, 0), (0, 3, 0)] [] [(2, [(2, 67, 0), (0, 0, 0), (0, 1, 0), (0, 2, 0), (0, 3, 1)], [], [(0, 0, 400), (1, 0, 78), (2, 0, 78), (3, 0, 78)], [], [], [])] (by decide +kernel) (ρ0 := (fun s => [x0, x1, x2, x3].getD s 0)) hB eF trivial ⟨rfl, ⟨rfl, ⟨rfl, ⟨rfl, ⟨rfl, trivial⟩⟩⟩⟩⟩ trivial ?_
  refine List.forall_mem_cons.mpr ⟨?_, fun _ h => absurd h List.not_mem_nil⟩
  · intro ρ τ Lc stc hx g1 g2 g3 g4 g5 g6 g7 g8
    have e0 : ρ 0 = x0 := hx 0 (by decide)
    have e1 : ρ 1 = x1 := hx 1 (by decide)
    have e2 : ρ 2 = x2 := hx 2 (by decide)
    have e3 : ρ 3 = x3 := hx 3 (by decide)
    subst e0
    subst e1
    subst e2
    subst e3
    have g7 := g7 (by decide)
    match Lc, stc, g7, g8 with
    | [v0, v1, v2, v3, v4], [], ⟨hv0, hv1, hv2, hv3, hv4, _⟩, _ =>
      cases hv0
      cases hv1
      cases hv2
      cases hv3
      cases hv4
      exact l0 τ ρ  g1 g2 g3 g4 g5 g6
set_option maxRecDepth 100000 in
theorem pz_k24 {σ : pm_S} {Q : Option Value → pm_S → Prop} (x0 x1 x2 x3 : Int)  (hB : an_GB pm_B σ) (eF : (0 ≤ x0 ∧ x0 ≤ 400) ∧ (0 ≤ x1 ∧ x1 ≤ 78) ∧ (0 ≤ x2 ∧ x2 ≤ 78) ∧ (0 ≤ x3 ∧ x3 ≤ 78) ∧ True)
    (l0 : ∀ (τ : pm_S) (y : Nat → Int), an_GB pm_B τ → FQ [] σ τ → ((0 ≤ x0 ∧ x0 ≤ 400) ∧ (0 ≤ x1 ∧ x1 ≤ 78) ∧ (0 ≤ x2 ∧ x2 ≤ 78) ∧ (0 ≤ x3 ∧ x3 ≤ 78) ∧ True) → (True) → (True) → (True) → Q (some (.int (Int32.ofInt 1))) τ)
    : Ok 47 7 24 [.ref 67, .int (Int32.ofInt (x0)), .int (Int32.ofInt (x1)), .int (Int32.ofInt (x2)), .int (Int32.ofInt (x3))] [] σ Q := by
  refine an_seg (B := pm_B) (F := []) (T := []) (S := []) (fun _ h => absurd h List.not_mem_nil) (k := 47) (d := 6) (cs := []) 4 24 4 [(0, 0, 400), (1, 0, 78), (2, 0, 78), (3, 0, 78)] [] [(2, 67, 0), (0, 0, 0), (0, 1, 0), (0, 2, 0), (0, 3, 0)] [] [(9999, [], [(1, 0, 1)], [(0, 0, 400), (1, 0, 78), (2, 0, 78), (3, 0, 78)], [], [], [])] (by decide +kernel) (ρ0 := (fun s => [x0, x1, x2, x3].getD s 0)) hB eF trivial ⟨rfl, ⟨rfl, ⟨rfl, ⟨rfl, ⟨rfl, trivial⟩⟩⟩⟩⟩ trivial ?_
  refine List.forall_mem_cons.mpr ⟨?_, fun _ h => absurd h List.not_mem_nil⟩
  · intro ρ τ Lc stc hx g1 g2 g3 g4 g5 g6 g7 g8
    have e0 : ρ 0 = x0 := hx 0 (by decide)
    have e1 : ρ 1 = x1 := hx 1 (by decide)
    have e2 : ρ 2 = x2 := hx 2 (by decide)
    have e3 : ρ 3 = x3 := hx 3 (by decide)
    subst e0
    subst e1
    subst e2
    subst e3
    match stc, g8 with
    | [_], ⟨h, _⟩ => cases h; exact l0 τ ρ g1 g2 g3 g4 g5 g6
set_option maxRecDepth 100000 in
theorem pz_w0 {σ : pm_S} {Q : Option Value → pm_S → Prop} (x0 x1 : Int) (v3 : Value) (v4 : Value) (v5 : Value) (hv3 : v3.category = 1) (hv4 : v4.category = 1) (hv5 : v5.category = 1) (hB : an_GB pm_B σ) (eF : (0 ≤ x0 ∧ x0 ≤ 400) ∧ (0 ≤ x1 ∧ x1 ≤ 400) ∧ True)
    (l0 : ∀ (τ : pm_S) (y : Nat → Int), an_GB pm_B τ → FQ [] σ τ → ((0 ≤ x0 ∧ x0 ≤ 400) ∧ (0 ≤ x1 ∧ x1 ≤ 400) ∧ True) → (True) → (True) → (True) → Ok 46 9 6 [.ref 67, .int (Int32.ofInt (x0)), .int (Int32.ofInt (x1)), .int (Int32.ofInt 0), .int (Int32.ofInt 0), .int (Int32.ofInt 0)] [] τ Q)
    : Ok 46 9 0 [.ref 67, .int (Int32.ofInt (x0)), .int (Int32.ofInt (x1)), v3, v4, v5] [] σ Q := by
  refine an_seg (B := pm_B) (F := []) (T := []) (S := []) (fun _ h => absurd h List.not_mem_nil) (k := 46) (d := 8) (cs := [6]) 8 0 2 [(0, 0, 400), (1, 0, 400)] [] [(2, 67, 0), (0, 0, 0), (0, 1, 0), (5, 0, 0), (5, 0, 0), (5, 0, 0)] [] [(6, [(2, 67, 0), (0, 0, 0), (0, 1, 0), (1, 0, 0), (1, 0, 0), (1, 0, 0)], [], [(0, 0, 400), (1, 0, 400)], [], [], [])] (by decide +kernel) (ρ0 := (fun s => [x0, x1].getD s 0)) hB eF trivial ⟨rfl, ⟨rfl, ⟨rfl, ⟨hv3, ⟨hv4, ⟨hv5, trivial⟩⟩⟩⟩⟩⟩ trivial ?_
  refine List.forall_mem_cons.mpr ⟨?_, fun _ h => absurd h List.not_mem_nil⟩
  · intro ρ τ Lc stc hx g1 g2 g3 g4 g5 g6 g7 g8
    have e0 : ρ 0 = x0 := hx 0 (by decide)
    have e1 : ρ 1 = x1 := hx 1 (by decide)
    subst e0
    subst e1
    have g7 := g7 (by decide)
    match Lc, stc, g7, g8 with
    | [v0, v1, v2, v3, v4, v5], [], ⟨hv0, hv1, hv2, hv3, hv4, hv5, _⟩, _ =>
      cases hv0
      cases hv1
      cases hv2
      cases hv3
      cases hv4
      cases hv5
      exact l0 τ ρ  g1 g2 g3 g4 g5 g6
set_option maxRecDepth 100000 in
theorem pz_w6 {σ : pm_S} {Q : Option Value → pm_S → Prop} (x0 x1 x2 x3 x4 : Int)  (hB : an_GB pm_B σ) (eF : (0 ≤ x0 ∧ x0 ≤ 400) ∧ (0 ≤ x1 ∧ x1 ≤ 400) ∧ (0 ≤ x2 ∧ x2 ≤ 15) ∧ (0 ≤ x3 ∧ x3 ≤ 79) ∧ (0 ≤ x4 ∧ x4 ≤ 79) ∧ True)
    (l0 : ∀ (τ : pm_S) (y : Nat → Int), an_GB pm_B τ → FQ [] σ τ → ((0 ≤ x0 ∧ x0 ≤ 400) ∧ (0 ≤ x1 ∧ x1 ≤ 400) ∧ (0 ≤ x2 ∧ x2 ≤ 15) ∧ (0 ≤ x3 ∧ x3 ≤ 79) ∧ (79 ≤ x4 ∧ x4 ≤ 79) ∧ True) → (True) → (True) → (True) → Q (some (.int (Int32.ofInt (-27)))) τ)
    (l1 : ∀ (τ : pm_S) (y : Nat → Int), an_GB pm_B τ → FQ [] σ τ → ((0 ≤ x0 ∧ x0 ≤ 400) ∧ (0 ≤ x1 ∧ x1 ≤ 400) ∧ (0 ≤ x2 ∧ x2 ≤ 15) ∧ (0 ≤ x3 ∧ x3 ≤ 79) ∧ (0 ≤ x4 ∧ x4 ≤ 78) ∧ True) → (True) → (True) → (True) → Ok 46 9 12 [.ref 67, .int (Int32.ofInt (x0)), .int (Int32.ofInt (x1)), .int (Int32.ofInt (x2)), .int (Int32.ofInt (x3)), .int (Int32.ofInt (x4))] [.int (Int32.ofInt (x4)), .retAddr 0] τ Q)
    : Ok 46 9 6 [.ref 67, .int (Int32.ofInt (x0)), .int (Int32.ofInt (x1)), .int (Int32.ofInt (x2)), .int (Int32.ofInt (x3)), .int (Int32.ofInt (x4))] [] σ Q := by
  refine an_seg (B := pm_B) (F := []) (T := []) (S := []) (fun _ h => absurd h List.not_mem_nil) (k := 46) (d := 8) (cs := [12]) 21 6 5 [(0, 0, 400), (1, 0, 400), (2, 0, 15), (3, 0, 79), (4, 0, 79)] [] [(2, 67, 0), (0, 0, 0), (0, 1, 0), (0, 2, 0), (0, 3, 0), (0, 4, 0)] [] [(9999, [], [(1, 0, (-27))], [(0, 0, 400), (1, 0, 400), (2, 0, 15), (3, 0, 79), (4, 79, 79)], [], [], []),
    (12, [(2, 67, 0), (0, 0, 0), (0, 1, 0), (0, 2, 0), (0, 3, 0), (0, 4, 0)], [(0, 4, 0), (3, 0, 0)], [(0, 0, 400), (1, 0, 400), (2, 0, 15), (3, 0, 79), (4, 0, 78)], [], [], [])] (by decide +kernel) (ρ0 := (fun s => [x0, x1, x2, x3, x4].getD s 0)) hB eF trivial ⟨rfl, ⟨rfl, ⟨rfl, ⟨rfl, ⟨rfl, ⟨rfl, trivial⟩⟩⟩⟩⟩⟩ trivial ?_
  refine List.forall_mem_cons.mpr ⟨?_, List.forall_mem_cons.mpr ⟨?_, fun _ h => absurd h List.not_mem_nil⟩⟩
  · intro ρ τ Lc stc hx g1 g2 g3 g4 g5 g6 g7 g8
    have e0 : ρ 0 = x0 := hx 0 (by decide)
    have e1 : ρ 1 = x1 := hx 1 (by decide)
    have e2 : ρ 2 = x2 := hx 2 (by decide)
    have e3 : ρ 3 = x3 := hx 3 (by decide)
    have e4 : ρ 4 = x4 := hx 4 (by decide)
    subst e0
    subst e1
    subst e2
    subst e3
    subst e4
    match stc, g8 with
    | [_], ⟨h, _⟩ => cases h; exact l0 τ ρ g1 g2 g3 g4 g5 g6
  · intro ρ τ Lc stc hx g1 g2 g3 g4 g5 g6 g7 g8
    have e0 : ρ 0 = x0 := hx 0 (by decide)
    have e1 : ρ 1 = x1 := hx 1 (by decide)
    have e2 : ρ 2 = x2 := hx 2 (by decide)
    have e3 : ρ 3 = x3 := hx 3 (by decide)
    have e4 : ρ 4 = x4 := hx 4 (by decide)
    subst e0
    subst e1
    subst e2
    subst e3
    subst e4
    have g7 := g7 (by decide)
    match Lc, stc, g7, g8 with
    | [v0, v1, v2, v3, v4, v5], [w0, w1], ⟨hv0, hv1, hv2, hv3, hv4, hv5, _⟩, ⟨hw0, hw1, _⟩ =>
      cases hv0
      cases hv1
      cases hv2
      cases hv3
      cases hv4
      cases hv5
      cases hw0
      cases hw1
      exact l1 τ ρ  g1 g2 g3 g4 g5 g6
set_option maxRecDepth 100000 in
theorem pz_w13 {σ : pm_S} {Q : Option Value → pm_S → Prop} (x0 x1 x2 x3 x4 x5 : Int)  (hB : an_GB pm_B σ) (eF : (0 ≤ x0 ∧ x0 ≤ 400) ∧ (0 ≤ x1 ∧ x1 ≤ 400) ∧ (0 ≤ x2 ∧ x2 ≤ 15) ∧ (0 ≤ x3 ∧ x3 ≤ 79) ∧ (0 ≤ x4 ∧ x4 ≤ 78) ∧ (0 ≤ x5 ∧ x5 ≤ 255) ∧ True)
    (l0 : ∀ (τ : pm_S) (y : Nat → Int), an_GB pm_B τ → FQ [] σ τ → ((0 ≤ x0 ∧ x0 ≤ 400) ∧ (0 ≤ x1 ∧ x1 ≤ 400) ∧ (0 ≤ x2 ∧ x2 ≤ 15) ∧ (0 ≤ x3 ∧ x3 ≤ 79) ∧ (0 ≤ x4 ∧ x4 ≤ 78) ∧ (0 ≤ x5 ∧ x5 ≤ 255) ∧ True) → (x5 ≠ 32 ∧ True) → (True) → (True) → Ok 46 9 6 [.ref 67, .int (Int32.ofInt (x0)), .int (Int32.ofInt (x1)), .int (Int32.ofInt (x2)), .int (Int32.ofInt (x3)), .int (Int32.ofInt (x4 + 1))] [] τ Q)
    (l1 : ∀ (τ : pm_S) (y : Nat → Int), an_GB pm_B τ → FQ [] σ τ → ((0 ≤ x0 ∧ x0 ≤ 400) ∧ (0 ≤ x1 ∧ x1 ≤ 400) ∧ (0 ≤ x2 ∧ x2 ≤ 15) ∧ (0 ≤ x3 ∧ x3 ≤ 79) ∧ (0 ≤ x4 ∧ x4 ≤ 78) ∧ (32 ≤ x5 ∧ x5 ≤ 32) ∧ ((-79) ≤ y 6 ∧ y 6 ≤ 78) ∧ ((-400) ≤ y 7 ∧ y 7 ≤ 400) ∧ True) → (True) → ((an_f 1 (Int32.ofInt (x4)) (Int32.ofInt (x3))).toInt = y 6 ∧ (an_f 1 (Int32.ofInt (x1)) (Int32.ofInt (x0))).toInt = y 7 ∧ True) → (True) → Ok 46 9 21 [.ref 67, .int (Int32.ofInt (x0)), .int (Int32.ofInt (x1)), .int (Int32.ofInt (x2)), .int (Int32.ofInt (x3)), .int (Int32.ofInt (x4))] [.int (Int32.ofInt (y 7)), .int (Int32.ofInt (y 6))] τ Q)
    : Ok 46 9 13 [.ref 67, .int (Int32.ofInt (x0)), .int (Int32.ofInt (x1)), .int (Int32.ofInt (x2)), .int (Int32.ofInt (x3)), .int (Int32.ofInt (x4))] [.int (Int32.ofInt (x5))] σ Q := by
  refine an_seg (B := pm_B) (F := []) (T := []) (S := []) (fun _ h => absurd h List.not_mem_nil) (k := 46) (d := 8) (cs := [6, 21]) 10 13 6 [(0, 0, 400), (1, 0, 400), (2, 0, 15), (3, 0, 79), (4, 0, 78), (5, 0, 255)] [] [(2, 67, 0), (0, 0, 0), (0, 1, 0), (0, 2, 0), (0, 3, 0), (0, 4, 0)] [(0, 5, 0)] [(6, [(2, 67, 0), (0, 0, 0), (0, 1, 0), (0, 2, 0), (0, 3, 0), (0, 4, 1)], [], [(0, 0, 400), (1, 0, 400), (2, 0, 15), (3, 0, 79), (4, 0, 78), (5, 0, 255)], [(3, 5, 5, 32)], [], []),
    (21, [(2, 67, 0), (0, 0, 0), (0, 1, 0), (0, 2, 0), (0, 3, 0), (0, 4, 0)], [(0, 7, 0), (0, 6, 0)], [(0, 0, 400), (1, 0, 400), (2, 0, 15), (3, 0, 79), (4, 0, 78), (5, 32, 32), (6, (-79), 78), (7, (-400), 400)], [], [(1, (0, 4, 0), (0, 3, 0), 6), (1, (0, 1, 0), (0, 0, 0), 7)], [])] (by decide +kernel) (ρ0 := (fun s => [x0, x1, x2, x3, x4, x5].getD s 0)) hB eF trivial ⟨rfl, ⟨rfl, ⟨rfl, ⟨rfl, ⟨rfl, ⟨rfl, trivial⟩⟩⟩⟩⟩⟩ ⟨rfl, trivial⟩ ?_
  refine List.forall_mem_cons.mpr ⟨?_, List.forall_mem_cons.mpr ⟨?_, fun _ h => absurd h List.not_mem_nil⟩⟩
  · intro ρ τ Lc stc hx g1 g2 g3 g4 g5 g6 g7 g8
    have e0 : ρ 0 = x0 := hx 0 (by decide)
    have e1 : ρ 1 = x1 := hx 1 (by decide)
    have e2 : ρ 2 = x2 := hx 2 (by decide)
    have e3 : ρ 3 = x3 := hx 3 (by decide)
    have e4 : ρ 4 = x4 := hx 4 (by decide)
    have e5 : ρ 5 = x5 := hx 5 (by decide)
    subst e0
    subst e1
    subst e2
    subst e3
    subst e4
    subst e5
    have g7 := g7 (by decide)
    match Lc, stc, g7, g8 with
    | [v0, v1, v2, v3, v4, v5], [], ⟨hv0, hv1, hv2, hv3, hv4, hv5, _⟩, _ =>
      cases hv0
      cases hv1
      cases hv2
      cases hv3
      cases hv4
      cases hv5
      exact l0 τ ρ  g1 g2 g3 g4 g5 g6
  · intro ρ τ Lc stc hx g1 g2 g3 g4 g5 g6 g7 g8
    have e0 : ρ 0 = x0 := hx 0 (by decide)
    have e1 : ρ 1 = x1 := hx 1 (by decide)
    have e2 : ρ 2 = x2 := hx 2 (by decide)
    have e3 : ρ 3 = x3 := hx 3 (by decide)
    have e4 : ρ 4 = x4 := hx 4 (by decide)
    have e5 : ρ 5 = x5 := hx 5 (by decide)
    subst e0
    subst e1
    subst e2
    subst e3
    subst e4
    subst e5
    have g7 := g7 (by decide)
    match Lc, stc, g7, g8 with
    | [v0, v1, v2, v3, v4, v5], [w0, w1], ⟨hv0, hv1, hv2, hv3, hv4, hv5, _⟩, ⟨hw0, hw1, _⟩ =>
      cases hv0
      cases hv1
      cases hv2
      cases hv3
      cases hv4
      cases hv5
      cases hw0
      cases hw1
      exact l1 τ ρ  g1 g2 g3 g4 g5 g6
set_option maxRecDepth 100000 in
theorem pz_w22 {σ : pm_S} {Q : Option Value → pm_S → Prop} (x0 x1 x2 x3 x4 : Int)  (hB : an_GB pm_B σ) (eF : (0 ≤ x0 ∧ x0 ≤ 400) ∧ (0 ≤ x1 ∧ x1 ≤ 400) ∧ (0 ≤ x2 ∧ x2 ≤ 15) ∧ (0 ≤ x3 ∧ x3 ≤ 79) ∧ (0 ≤ x4 ∧ x4 ≤ 78) ∧ True)
    (l0 : ∀ (τ : pm_S) (y : Nat → Int), an_GB pm_B τ → FQ [] σ τ → ((0 ≤ x0 ∧ x0 ≤ 400) ∧ (0 ≤ x1 ∧ x1 ≤ 400) ∧ (0 ≤ x2 ∧ x2 ≤ 15) ∧ (0 ≤ x3 ∧ x3 ≤ 79) ∧ (0 ≤ x4 ∧ x4 ≤ 78) ∧ True) → (True) → (True) → (True) → Ok 46 9 26 [.ref 67, .int (Int32.ofInt (x0)), .int (Int32.ofInt (x1)), .int (Int32.ofInt (x2)), .int (Int32.ofInt (x3)), .int (Int32.ofInt (x4))] [.int (Int32.ofInt (x4)), .int (Int32.ofInt (x3)), .int (Int32.ofInt (x0)), .ref 67] τ Q)
    : Ok 46 9 22 [.ref 67, .int (Int32.ofInt (x0)), .int (Int32.ofInt (x1)), .int (Int32.ofInt (x2)), .int (Int32.ofInt (x3)), .int (Int32.ofInt (x4))] [] σ Q := by
  refine an_seg (B := pm_B) (F := []) (T := []) (S := []) (fun _ h => absurd h List.not_mem_nil) (k := 46) (d := 8) (cs := [26]) 6 22 5 [(0, 0, 400), (1, 0, 400), (2, 0, 15), (3, 0, 79), (4, 0, 78)] [] [(2, 67, 0), (0, 0, 0), (0, 1, 0), (0, 2, 0), (0, 3, 0), (0, 4, 0)] [] [(26, [(2, 67, 0), (0, 0, 0), (0, 1, 0), (0, 2, 0), (0, 3, 0), (0, 4, 0)], [(0, 4, 0), (0, 3, 0), (0, 0, 0), (2, 67, 0)], [(0, 0, 400), (1, 0, 400), (2, 0, 15), (3, 0, 79), (4, 0, 78)], [], [], [])] (by decide +kernel) (ρ0 := (fun s => [x0, x1, x2, x3, x4].getD s 0)) hB eF trivial ⟨rfl, ⟨rfl, ⟨rfl, ⟨rfl, ⟨rfl, ⟨rfl, trivial⟩⟩⟩⟩⟩⟩ trivial ?_
  refine List.forall_mem_cons.mpr ⟨?_, fun _ h => absurd h List.not_mem_nil⟩
  · intro ρ τ Lc stc hx g1 g2 g3 g4 g5 g6 g7 g8
    have e0 : ρ 0 = x0 := hx 0 (by decide)
    have e1 : ρ 1 = x1 := hx 1 (by decide)
    have e2 : ρ 2 = x2 := hx 2 (by decide)
    have e3 : ρ 3 = x3 := hx 3 (by decide)
    have e4 : ρ 4 = x4 := hx 4 (by decide)
    subst e0
    subst e1
    subst e2
    subst e3
    subst e4
    have g7 := g7 (by decide)
    match Lc, stc, g7, g8 with
    | [v0, v1, v2, v3, v4, v5], [w0, w1, w2, w3], ⟨hv0, hv1, hv2, hv3, hv4, hv5, _⟩, ⟨hw0, hw1, hw2, hw3, _⟩ =>
      cases hv0
      cases hv1
      cases hv2
      cases hv3
      cases hv4
      cases hv5
      cases hw0
      cases hw1
      cases hw2
      cases hw3
      exact l0 τ ρ  g1 g2 g3 g4 g5 g6
set_option maxRecDepth 100000 in
theorem pz_w27 {σ : pm_S} {Q : Option Value → pm_S → Prop} (x0 x1 x2 x3 x4 x5 : Int)  (hB : an_GB pm_B σ) (eF : (0 ≤ x0 ∧ x0 ≤ 400) ∧ (0 ≤ x1 ∧ x1 ≤ 400) ∧ (0 ≤ x2 ∧ x2 ≤ 14) ∧ (0 ≤ x3 ∧ x3 ≤ 79) ∧ (0 ≤ x4 ∧ x4 ≤ 78) ∧ (0 ≤ x5 ∧ x5 ≤ 1) ∧ True)
    (l0 : ∀ (τ : pm_S) (y : Nat → Int), an_GB pm_B τ → FQ [] σ τ → ((0 ≤ x0 ∧ x0 ≤ 400) ∧ (0 ≤ x1 ∧ x1 ≤ 400) ∧ (0 ≤ x2 ∧ x2 ≤ 14) ∧ (0 ≤ x3 ∧ x3 ≤ 79) ∧ (0 ≤ x4 ∧ x4 ≤ 78) ∧ (0 ≤ x5 ∧ x5 ≤ 0) ∧ True) → (True) → (True) → (True) → Ok 46 9 6 [.ref 67, .int (Int32.ofInt (x0)), .int (Int32.ofInt (x1)), .int (Int32.ofInt (x2 + 1)), .int (Int32.ofInt (x4 + 1)), .int (Int32.ofInt (x4 + 1))] [] τ Q)
    (l1 : ∀ (τ : pm_S) (y : Nat → Int), an_GB pm_B τ → FQ [] σ τ → ((0 ≤ x0 ∧ x0 ≤ 400) ∧ (0 ≤ x1 ∧ x1 ≤ 400) ∧ (0 ≤ x2 ∧ x2 ≤ 14) ∧ (0 ≤ x3 ∧ x3 ≤ 79) ∧ (0 ≤ x4 ∧ x4 ≤ 78) ∧ (1 ≤ x5 ∧ x5 ≤ 1) ∧ ((-15) ≤ y 6 ∧ y 6 ≤ (-1)) ∧ True) → (True) → ((an_f 1 (Int32.ofInt ((-1))) (Int32.ofInt (x2))).toInt = y 6 ∧ True) → (True) → Q (some (.int (Int32.ofInt (y 6)))) τ)
    : Ok 46 9 27 [.ref 67, .int (Int32.ofInt (x0)), .int (Int32.ofInt (x1)), .int (Int32.ofInt (x2)), .int (Int32.ofInt (x3)), .int (Int32.ofInt (x4))] [.int (Int32.ofInt (x5))] σ Q := by
  refine an_seg (B := pm_B) (F := []) (T := []) (S := []) (fun _ h => absurd h List.not_mem_nil) (k := 46) (d := 8) (cs := [6]) 10 27 6 [(0, 0, 400), (1, 0, 400), (2, 0, 14), (3, 0, 79), (4, 0, 78), (5, 0, 1)] [] [(2, 67, 0), (0, 0, 0), (0, 1, 0), (0, 2, 0), (0, 3, 0), (0, 4, 0)] [(0, 5, 0)] [(6, [(2, 67, 0), (0, 0, 0), (0, 1, 0), (0, 2, 1), (0, 4, 1), (0, 4, 1)], [], [(0, 0, 400), (1, 0, 400), (2, 0, 14), (3, 0, 79), (4, 0, 78), (5, 0, 0)], [], [], []),
    (9999, [], [(0, 6, 0)], [(0, 0, 400), (1, 0, 400), (2, 0, 14), (3, 0, 79), (4, 0, 78), (5, 1, 1), (6, (-15), (-1))], [], [(1, (1, 0, (-1)), (0, 2, 0), 6)], [])] (by decide +kernel) (ρ0 := (fun s => [x0, x1, x2, x3, x4, x5].getD s 0)) hB eF trivial ⟨rfl, ⟨rfl, ⟨rfl, ⟨rfl, ⟨rfl, ⟨rfl, trivial⟩⟩⟩⟩⟩⟩ ⟨rfl, trivial⟩ ?_
  refine List.forall_mem_cons.mpr ⟨?_, List.forall_mem_cons.mpr ⟨?_, fun _ h => absurd h List.not_mem_nil⟩⟩
  · intro ρ τ Lc stc hx g1 g2 g3 g4 g5 g6 g7 g8
    have e0 : ρ 0 = x0 := hx 0 (by decide)
    have e1 : ρ 1 = x1 := hx 1 (by decide)
    have e2 : ρ 2 = x2 := hx 2 (by decide)
    have e3 : ρ 3 = x3 := hx 3 (by decide)
    have e4 : ρ 4 = x4 := hx 4 (by decide)
    have e5 : ρ 5 = x5 := hx 5 (by decide)
    subst e0
    subst e1
    subst e2
    subst e3
    subst e4
    subst e5
    have g7 := g7 (by decide)
    match Lc, stc, g7, g8 with
    | [v0, v1, v2, v3, v4, v5], [], ⟨hv0, hv1, hv2, hv3, hv4, hv5, _⟩, _ =>
      cases hv0
      cases hv1
      cases hv2
      cases hv3
      cases hv4
      cases hv5
      exact l0 τ ρ  g1 g2 g3 g4 g5 g6
  · intro ρ τ Lc stc hx g1 g2 g3 g4 g5 g6 g7 g8
    have e0 : ρ 0 = x0 := hx 0 (by decide)
    have e1 : ρ 1 = x1 := hx 1 (by decide)
    have e2 : ρ 2 = x2 := hx 2 (by decide)
    have e3 : ρ 3 = x3 := hx 3 (by decide)
    have e4 : ρ 4 = x4 := hx 4 (by decide)
    have e5 : ρ 5 = x5 := hx 5 (by decide)
    subst e0
    subst e1
    subst e2
    subst e3
    subst e4
    subst e5
    match stc, g8 with
    | [_], ⟨h, _⟩ => cases h; exact l1 τ ρ g1 g2 g3 g4 g5 g6
set_option maxRecDepth 100000 in
theorem pz_w32 {σ : pm_S} {Q : Option Value → pm_S → Prop} (x0 x1 x2 x3 x4 : Int)  (hB : an_GB pm_B σ) (eF : (0 ≤ x0 ∧ x0 ≤ 400) ∧ (0 ≤ x1 ∧ x1 ≤ 400) ∧ (0 ≤ x2 ∧ x2 ≤ 14) ∧ (0 ≤ x3 ∧ x3 ≤ 79) ∧ (0 ≤ x4 ∧ x4 ≤ 78) ∧ True)
    (l0 : ∀ (τ : pm_S) (y : Nat → Int), an_GB pm_B τ → FQ [] σ τ → ((0 ≤ x0 ∧ x0 ≤ 400) ∧ (0 ≤ x1 ∧ x1 ≤ 400) ∧ (0 ≤ x2 ∧ x2 ≤ 14) ∧ (0 ≤ x3 ∧ x3 ≤ 79) ∧ (0 ≤ x4 ∧ x4 ≤ 78) ∧ True) → (True) → (True) → (True) → Ok 46 9 6 [.ref 67, .int (Int32.ofInt (x0)), .int (Int32.ofInt (x1)), .int (Int32.ofInt (x2 + 1)), .int (Int32.ofInt (x4 + 1)), .int (Int32.ofInt (x4 + 1))] [] τ Q)
    : Ok 46 9 32 [.ref 67, .int (Int32.ofInt (x0)), .int (Int32.ofInt (x1)), .int (Int32.ofInt (x2)), .int (Int32.ofInt (x3)), .int (Int32.ofInt (x4))] [] σ Q := by
  refine an_seg (B := pm_B) (F := []) (T := []) (S := []) (fun _ h => absurd h List.not_mem_nil) (k := 46) (d := 8) (cs := [6]) 9 32 5 [(0, 0, 400), (1, 0, 400), (2, 0, 14), (3, 0, 79), (4, 0, 78)] [] [(2, 67, 0), (0, 0, 0), (0, 1, 0), (0, 2, 0), (0, 3, 0), (0, 4, 0)] [] [(6, [(2, 67, 0), (0, 0, 0), (0, 1, 0), (0, 2, 1), (0, 4, 1), (0, 4, 1)], [], [(0, 0, 400), (1, 0, 400), (2, 0, 14), (3, 0, 79), (4, 0, 78)], [], [], [])] (by decide +kernel) (ρ0 := (fun s => [x0, x1, x2, x3, x4].getD s 0)) hB eF trivial ⟨rfl, ⟨rfl, ⟨rfl, ⟨rfl, ⟨rfl, ⟨rfl, trivial⟩⟩⟩⟩⟩⟩ trivial ?_
  refine List.forall_mem_cons.mpr ⟨?_, fun _ h => absurd h List.not_mem_nil⟩
  · intro ρ τ Lc stc hx g1 g2 g3 g4 g5 g6 g7 g8
    have e0 : ρ 0 = x0 := hx 0 (by decide)
    have e1 : ρ 1 = x1 := hx 1 (by decide)
    have e2 : ρ 2 = x2 := hx 2 (by decide)
    have e3 : ρ 3 = x3 := hx 3 (by decide)
    have e4 : ρ 4 = x4 := hx 4 (by decide)
    subst e0
    subst e1
    subst e2
    subst e3
    subst e4
    have g7 := g7 (by decide)
    match Lc, stc, g7, g8 with
    | [v0, v1, v2, v3, v4, v5], [], ⟨hv0, hv1, hv2, hv3, hv4, hv5, _⟩, _ =>
      cases hv0
      cases hv1
      cases hv2
      cases hv3
      cases hv4
      cases hv5
      exact l0 τ ρ  g1 g2 g3 g4 g5 g6
set_option maxRecDepth 100000 in
theorem pz_n0 {σ : pm_S} {Q : Option Value → pm_S → Prop} (x0 x1 : Int) (v3 : Value) (v4 : Value) (hv3 : v3.category = 1) (hv4 : v4.category = 1) (hB : an_GB pm_B σ) (eF : (0 ≤ x0 ∧ x0 ≤ 400) ∧ (0 ≤ x1 ∧ x1 ≤ 400) ∧ True)
    (l0 : ∀ (τ : pm_S) (y : Nat → Int), an_GB pm_B τ → FQ [] σ τ → ((0 ≤ x0 ∧ x0 ≤ 400) ∧ (0 ≤ x1 ∧ x1 ≤ 400) ∧ ((-400) ≤ y 2 ∧ y 2 ≤ 4) ∧ True) → (True) → ((an_f 1 (Int32.ofInt (x1)) (Int32.ofInt (x0))).toInt = y 2 ∧ True) → (True) → Ok 48 7 11 [.ref 67, .int (Int32.ofInt (x0)), .int (Int32.ofInt (x1)), .int (Int32.ofInt 0), .int (Int32.ofInt (x0))] [] τ Q)
    (l1 : ∀ (τ : pm_S) (y : Nat → Int), an_GB pm_B τ → FQ [] σ τ → ((0 ≤ x0 ∧ x0 ≤ 400) ∧ (0 ≤ x1 ∧ x1 ≤ 400) ∧ (5 ≤ y 2 ∧ y 2 ≤ 400) ∧ True) → (True) → ((an_f 1 (Int32.ofInt (x1)) (Int32.ofInt (x0))).toInt = y 2 ∧ True) → (True) → Q (some (.int (Int32.ofInt (-27)))) τ)
    : Ok 48 7 0 [.ref 67, .int (Int32.ofInt (x0)), .int (Int32.ofInt (x1)), v3, v4] [] σ Q := by
  refine an_seg (B := pm_B) (F := []) (T := []) (S := []) (fun _ h => absurd h List.not_mem_nil) (k := 48) (d := 6) (cs := [11]) 11 0 2 [(0, 0, 400), (1, 0, 400)] [] [(2, 67, 0), (0, 0, 0), (0, 1, 0), (5, 0, 0), (5, 0, 0)] [] [(11, [(2, 67, 0), (0, 0, 0), (0, 1, 0), (1, 0, 0), (0, 0, 0)], [], [(0, 0, 400), (1, 0, 400), (2, (-400), 4)], [], [(1, (0, 1, 0), (0, 0, 0), 2)], []),
    (9999, [], [(1, 0, (-27))], [(0, 0, 400), (1, 0, 400), (2, 5, 400)], [], [(1, (0, 1, 0), (0, 0, 0), 2)], [])] (by decide +kernel) (ρ0 := (fun s => [x0, x1].getD s 0)) hB eF trivial ⟨rfl, ⟨rfl, ⟨rfl, ⟨hv3, ⟨hv4, trivial⟩⟩⟩⟩⟩ trivial ?_
  refine List.forall_mem_cons.mpr ⟨?_, List.forall_mem_cons.mpr ⟨?_, fun _ h => absurd h List.not_mem_nil⟩⟩
  · intro ρ τ Lc stc hx g1 g2 g3 g4 g5 g6 g7 g8
    have e0 : ρ 0 = x0 := hx 0 (by decide)
    have e1 : ρ 1 = x1 := hx 1 (by decide)
    subst e0
    subst e1
    have g7 := g7 (by decide)
    match Lc, stc, g7, g8 with
    | [v0, v1, v2, v3, v4], [], ⟨hv0, hv1, hv2, hv3, hv4, _⟩, _ =>
      cases hv0
      cases hv1
      cases hv2
      cases hv3
      cases hv4
      exact l0 τ ρ  g1 g2 g3 g4 g5 g6
  · intro ρ τ Lc stc hx g1 g2 g3 g4 g5 g6 g7 g8
    have e0 : ρ 0 = x0 := hx 0 (by decide)
    have e1 : ρ 1 = x1 := hx 1 (by decide)
    subst e0
    subst e1
    match stc, g8 with
    | [_], ⟨h, _⟩ => cases h; exact l1 τ ρ g1 g2 g3 g4 g5 g6
set_option maxRecDepth 100000 in
theorem pz_n11 {σ : pm_S} {Q : Option Value → pm_S → Prop} (x0 x1 x2 x3 : Int)  (hB : an_GB pm_B σ) (eF : (0 ≤ x0 ∧ x0 ≤ 400) ∧ (0 ≤ x1 ∧ x1 ≤ 400) ∧ (0 ≤ x2 ∧ x2 ≤ 9999) ∧ (0 ≤ x3 ∧ x3 ≤ 400) ∧ True)
    (l0 : ∀ (τ : pm_S) (y : Nat → Int), an_GB pm_B τ → FQ [] σ τ → ((0 ≤ x0 ∧ x0 ≤ 400) ∧ (0 ≤ x1 ∧ x1 ≤ 400) ∧ (0 ≤ x2 ∧ x2 ≤ 9999) ∧ (0 ≤ x3 ∧ x3 ≤ 400) ∧ True) → (True) → (True) → (True) → Ok 48 7 13 [.ref 67, .int (Int32.ofInt (x0)), .int (Int32.ofInt (x1)), .int (Int32.ofInt (x2)), .int (Int32.ofInt (x3))] [.int (Int32.ofInt (x1)), .int (Int32.ofInt (x3))] τ Q)
    : Ok 48 7 11 [.ref 67, .int (Int32.ofInt (x0)), .int (Int32.ofInt (x1)), .int (Int32.ofInt (x2)), .int (Int32.ofInt (x3))] [] σ Q := by
  refine an_seg (B := pm_B) (F := []) (T := []) (S := []) (fun _ h => absurd h List.not_mem_nil) (k := 48) (d := 6) (cs := [13]) 4 11 4 [(0, 0, 400), (1, 0, 400), (2, 0, 9999), (3, 0, 400)] [] [(2, 67, 0), (0, 0, 0), (0, 1, 0), (0, 2, 0), (0, 3, 0)] [] [(13, [(2, 67, 0), (0, 0, 0), (0, 1, 0), (0, 2, 0), (0, 3, 0)], [(0, 1, 0), (0, 3, 0)], [(0, 0, 400), (1, 0, 400), (2, 0, 9999), (3, 0, 400)], [], [], [])] (by decide +kernel) (ρ0 := (fun s => [x0, x1, x2, x3].getD s 0)) hB eF trivial ⟨rfl, ⟨rfl, ⟨rfl, ⟨rfl, ⟨rfl, trivial⟩⟩⟩⟩⟩ trivial ?_
  refine List.forall_mem_cons.mpr ⟨?_, fun _ h => absurd h List.not_mem_nil⟩
  · intro ρ τ Lc stc hx g1 g2 g3 g4 g5 g6 g7 g8
    have e0 : ρ 0 = x0 := hx 0 (by decide)
    have e1 : ρ 1 = x1 := hx 1 (by decide)
    have e2 : ρ 2 = x2 := hx 2 (by decide)
    have e3 : ρ 3 = x3 := hx 3 (by decide)
    subst e0
    subst e1
    subst e2
    subst e3
    have g7 := g7 (by decide)
    match Lc, stc, g7, g8 with
    | [v0, v1, v2, v3, v4], [w0, w1], ⟨hv0, hv1, hv2, hv3, hv4, _⟩, ⟨hw0, hw1, _⟩ =>
      cases hv0
      cases hv1
      cases hv2
      cases hv3
      cases hv4
      cases hw0
      cases hw1
      exact l0 τ ρ  g1 g2 g3 g4 g5 g6
set_option maxRecDepth 100000 in
theorem pz_n14 {σ : pm_S} {Q : Option Value → pm_S → Prop} (x0 x1 x2 x3 : Int)  (hB : an_GB pm_B σ) (eF : (0 ≤ x0 ∧ x0 ≤ 400) ∧ (0 ≤ x1 ∧ x1 ≤ 400) ∧ (0 ≤ x2 ∧ x2 ≤ 999) ∧ (0 ≤ x3 ∧ x3 ≤ 399) ∧ True)
    (l0 : ∀ (τ : pm_S) (y : Nat → Int), an_GB pm_B τ → FQ [] σ τ → ((0 ≤ x0 ∧ x0 ≤ 400) ∧ (0 ≤ x1 ∧ x1 ≤ 400) ∧ (0 ≤ x2 ∧ x2 ≤ 999) ∧ (0 ≤ x3 ∧ x3 ≤ 399) ∧ (0 ≤ y 4 ∧ y 4 ≤ 9990) ∧ True) → (True) → ((an_f 2 (Int32.ofInt (x2)) (Int32.ofInt (10))).toInt = y 4 ∧ True) → (True) → Ok 48 7 19 [.ref 67, .int (Int32.ofInt (x0)), .int (Int32.ofInt (x1)), .int (Int32.ofInt (x2)), .int (Int32.ofInt (x3))] [.int (Int32.ofInt (x3)), .ref 67, .int (Int32.ofInt (y 4))] τ Q)
    : Ok 48 7 14 [.ref 67, .int (Int32.ofInt (x0)), .int (Int32.ofInt (x1)), .int (Int32.ofInt (x2)), .int (Int32.ofInt (x3))] [] σ Q := by
  refine an_seg (B := pm_B) (F := []) (T := []) (S := []) (fun _ h => absurd h List.not_mem_nil) (k := 48) (d := 6) (cs := [19]) 7 14 4 [(0, 0, 400), (1, 0, 400), (2, 0, 999), (3, 0, 399)] [] [(2, 67, 0), (0, 0, 0), (0, 1, 0), (0, 2, 0), (0, 3, 0)] [] [(19, [(2, 67, 0), (0, 0, 0), (0, 1, 0), (0, 2, 0), (0, 3, 0)], [(0, 3, 0), (2, 67, 0), (0, 4, 0)], [(0, 0, 400), (1, 0, 400), (2, 0, 999), (3, 0, 399), (4, 0, 9990)], [], [(2, (0, 2, 0), (1, 0, 10), 4)], [])] (by decide +kernel) (ρ0 := (fun s => [x0, x1, x2, x3].getD s 0)) hB eF trivial ⟨rfl, ⟨rfl, ⟨rfl, ⟨rfl, ⟨rfl, trivial⟩⟩⟩⟩⟩ trivial ?_
  refine List.forall_mem_cons.mpr ⟨?_, fun _ h => absurd h List.not_mem_nil⟩
  · intro ρ τ Lc stc hx g1 g2 g3 g4 g5 g6 g7 g8
    have e0 : ρ 0 = x0 := hx 0 (by decide)
    have e1 : ρ 1 = x1 := hx 1 (by decide)
    have e2 : ρ 2 = x2 := hx 2 (by decide)
    have e3 : ρ 3 = x3 := hx 3 (by decide)
    subst e0
    subst e1
    subst e2
    subst e3
    have g7 := g7 (by decide)
    match Lc, stc, g7, g8 with
    | [v0, v1, v2, v3, v4], [w0, w1, w2], ⟨hv0, hv1, hv2, hv3, hv4, _⟩, ⟨hw0, hw1, hw2, _⟩ =>
      cases hv0
      cases hv1
      cases hv2
      cases hv3
      cases hv4
      cases hw0
      cases hw1
      cases hw2
      exact l0 τ ρ  g1 g2 g3 g4 g5 g6
set_option maxRecDepth 100000 in
theorem pz_n20 {σ : pm_S} {Q : Option Value → pm_S → Prop} (x0 x1 x2 x3 x4 x5 : Int)  (hB : an_GB pm_B σ) (eF : (0 ≤ x0 ∧ x0 ≤ 400) ∧ (0 ≤ x1 ∧ x1 ≤ 400) ∧ (0 ≤ x2 ∧ x2 ≤ 999) ∧ (0 ≤ x3 ∧ x3 ≤ 399) ∧ (48 ≤ x4 ∧ x4 ≤ 57) ∧ (0 ≤ x5 ∧ x5 ≤ 9990) ∧ True)
    (l0 : ∀ (τ : pm_S) (y : Nat → Int), an_GB pm_B τ → FQ [] σ τ → ((0 ≤ x0 ∧ x0 ≤ 400) ∧ (0 ≤ x1 ∧ x1 ≤ 400) ∧ (0 ≤ x2 ∧ x2 ≤ 999) ∧ (0 ≤ x3 ∧ x3 ≤ 399) ∧ (48 ≤ x4 ∧ x4 ≤ 57) ∧ (0 ≤ x5 ∧ x5 ≤ 9990) ∧ (48 ≤ y 6 ∧ y 6 ≤ 10047) ∧ True) → (True) → ((an_f 0 (Int32.ofInt (x5)) (Int32.ofInt (x4))).toInt = y 6 ∧ True) → (True) → Ok 48 7 11 [.ref 67, .int (Int32.ofInt (x0)), .int (Int32.ofInt (x1)), .int (Int32.ofInt (y 6 + (-48))), .int (Int32.ofInt (x3 + 1))] [] τ Q)
    : Ok 48 7 20 [.ref 67, .int (Int32.ofInt (x0)), .int (Int32.ofInt (x1)), .int (Int32.ofInt (x2)), .int (Int32.ofInt (x3))] [.int (Int32.ofInt (x4)), .int (Int32.ofInt (x5))] σ Q := by
  refine an_seg (B := pm_B) (F := []) (T := []) (S := []) (fun _ h => absurd h List.not_mem_nil) (k := 48) (d := 6) (cs := [11]) 8 20 6 [(0, 0, 400), (1, 0, 400), (2, 0, 999), (3, 0, 399), (4, 48, 57), (5, 0, 9990)] [] [(2, 67, 0), (0, 0, 0), (0, 1, 0), (0, 2, 0), (0, 3, 0)] [(0, 4, 0), (0, 5, 0)] [(11, [(2, 67, 0), (0, 0, 0), (0, 1, 0), (0, 6, (-48)), (0, 3, 1)], [], [(0, 0, 400), (1, 0, 400), (2, 0, 999), (3, 0, 399), (4, 48, 57), (5, 0, 9990), (6, 48, 10047)], [], [(0, (0, 5, 0), (0, 4, 0), 6)], [])] (by decide +kernel) (ρ0 := (fun s => [x0, x1, x2, x3, x4, x5].getD s 0)) hB eF trivial ⟨rfl, ⟨rfl, ⟨rfl, ⟨rfl, ⟨rfl, trivial⟩⟩⟩⟩⟩ ⟨rfl, ⟨rfl, trivial⟩⟩ ?_
  refine List.forall_mem_cons.mpr ⟨?_, fun _ h => absurd h List.not_mem_nil⟩
  · intro ρ τ Lc stc hx g1 g2 g3 g4 g5 g6 g7 g8
    have e0 : ρ 0 = x0 := hx 0 (by decide)
    have e1 : ρ 1 = x1 := hx 1 (by decide)
    have e2 : ρ 2 = x2 := hx 2 (by decide)
    have e3 : ρ 3 = x3 := hx 3 (by decide)
    have e4 : ρ 4 = x4 := hx 4 (by decide)
    have e5 : ρ 5 = x5 := hx 5 (by decide)
    subst e0
    subst e1
    subst e2
    subst e3
    subst e4
    subst e5
    have g7 := g7 (by decide)
    match Lc, stc, g7, g8 with
    | [v0, v1, v2, v3, v4], [], ⟨hv0, hv1, hv2, hv3, hv4, _⟩, _ =>
      cases hv0
      cases hv1
      cases hv2
      cases hv3
      cases hv4
      exact l0 τ ρ  g1 g2 g3 g4 g5 g6
set_option maxRecDepth 100000 in
theorem pz_n26 {σ : pm_S} {Q : Option Value → pm_S → Prop} (x0 x1 x2 x3 : Int)  (hB : an_GB pm_B σ) (eF : (0 ≤ x0 ∧ x0 ≤ 400) ∧ (0 ≤ x1 ∧ x1 ≤ 400) ∧ (0 ≤ x2 ∧ x2 ≤ 9999) ∧ (0 ≤ x3 ∧ x3 ≤ 400) ∧ True)
    (l0 : ∀ (τ : pm_S) (y : Nat → Int), an_GB pm_B τ → FQ [] σ τ → ((0 ≤ x0 ∧ x0 ≤ 400) ∧ (0 ≤ x1 ∧ x1 ≤ 400) ∧ (0 ≤ x2 ∧ x2 ≤ 9999) ∧ (0 ≤ x3 ∧ x3 ≤ 400) ∧ True) → (True) → (True) → (True) → Q (some (.int (Int32.ofInt (x2)))) τ)
    : Ok 48 7 26 [.ref 67, .int (Int32.ofInt (x0)), .int (Int32.ofInt (x1)), .int (Int32.ofInt (x2)), .int (Int32.ofInt (x3))] [] σ Q := by
  refine an_seg (B := pm_B) (F := []) (T := []) (S := []) (fun _ h => absurd h List.not_mem_nil) (k := 48) (d := 6) (cs := []) 4 26 4 [(0, 0, 400), (1, 0, 400), (2, 0, 9999), (3, 0, 400)] [] [(2, 67, 0), (0, 0, 0), (0, 1, 0), (0, 2, 0), (0, 3, 0)] [] [(9999, [], [(0, 2, 0)], [(0, 0, 400), (1, 0, 400), (2, 0, 9999), (3, 0, 400)], [], [], [])] (by decide +kernel) (ρ0 := (fun s => [x0, x1, x2, x3].getD s 0)) hB eF trivial ⟨rfl, ⟨rfl, ⟨rfl, ⟨rfl, ⟨rfl, trivial⟩⟩⟩⟩⟩ trivial ?_
  refine List.forall_mem_cons.mpr ⟨?_, fun _ h => absurd h List.not_mem_nil⟩
  · intro ρ τ Lc stc hx g1 g2 g3 g4 g5 g6 g7 g8
    have e0 : ρ 0 = x0 := hx 0 (by decide)
    have e1 : ρ 1 = x1 := hx 1 (by decide)
    have e2 : ρ 2 = x2 := hx 2 (by decide)
    have e3 : ρ 3 = x3 := hx 3 (by decide)
    subst e0
    subst e1
    subst e2
    subst e3
    match stc, g8 with
    | [_], ⟨h, _⟩ => cases h; exact l0 τ ρ g1 g2 g3 g4 g5 g6
set_option maxRecDepth 100000 in
theorem pz_s {σ : pm_S} {Q : Option Value → pm_S → Prop} (x0 : Int) (v1 : Value) (hv1 : v1.category = 1) (hB : an_GB pm_B σ) (eF : (0 ≤ x0 ∧ x0 ≤ 255) ∧ True)
    (l0 : ∀ (τ : pm_S) (y : Nat → Int), an_GB pm_B τ → FQ [] σ τ → ((0 ≤ x0 ∧ x0 ≤ 255) ∧ True) → (x0 ≠ 62 ∧ x0 ≠ 61 ∧ x0 ≠ 60 ∧ x0 ≠ 41 ∧ x0 ≠ 40 ∧ x0 ≠ 47 ∧ x0 ≠ 42 ∧ x0 ≠ 45 ∧ x0 ≠ 43 ∧ x0 ≠ 59 ∧ True) → (True) → (True) → Q (some (.int (Int32.ofInt (-27)))) τ)
    (l1 : ∀ (τ : pm_S) (y : Nat → Int), an_GB pm_B τ → FQ [] σ τ → ((62 ≤ x0 ∧ x0 ≤ 62) ∧ True) → (x0 ≠ 61 ∧ x0 ≠ 60 ∧ x0 ≠ 41 ∧ x0 ≠ 40 ∧ x0 ≠ 47 ∧ x0 ≠ 42 ∧ x0 ≠ 45 ∧ x0 ≠ 43 ∧ x0 ≠ 59 ∧ True) → (True) → (True) → Q (some (.int (Int32.ofInt (-25)))) τ)
    (l2 : ∀ (τ : pm_S) (y : Nat → Int), an_GB pm_B τ → FQ [] σ τ → ((61 ≤ x0 ∧ x0 ≤ 61) ∧ True) → (x0 ≠ 60 ∧ x0 ≠ 41 ∧ x0 ≠ 40 ∧ x0 ≠ 47 ∧ x0 ≠ 42 ∧ x0 ≠ 45 ∧ x0 ≠ 43 ∧ x0 ≠ 59 ∧ True) → (True) → (True) → Q (some (.int (Int32.ofInt (-24)))) τ)
    (l3 : ∀ (τ : pm_S) (y : Nat → Int), an_GB pm_B τ → FQ [] σ τ → ((60 ≤ x0 ∧ x0 ≤ 60) ∧ True) → (x0 ≠ 41 ∧ x0 ≠ 40 ∧ x0 ≠ 47 ∧ x0 ≠ 42 ∧ x0 ≠ 45 ∧ x0 ≠ 43 ∧ x0 ≠ 59 ∧ True) → (True) → (True) → Q (some (.int (Int32.ofInt (-23)))) τ)
    (l4 : ∀ (τ : pm_S) (y : Nat → Int), an_GB pm_B τ → FQ [] σ τ → ((41 ≤ x0 ∧ x0 ≤ 41) ∧ True) → (x0 ≠ 40 ∧ x0 ≠ 47 ∧ x0 ≠ 42 ∧ x0 ≠ 45 ∧ x0 ≠ 43 ∧ x0 ≠ 59 ∧ True) → (True) → (True) → Q (some (.int (Int32.ofInt (-22)))) τ)
    (l5 : ∀ (τ : pm_S) (y : Nat → Int), an_GB pm_B τ → FQ [] σ τ → ((40 ≤ x0 ∧ x0 ≤ 40) ∧ True) → (x0 ≠ 47 ∧ x0 ≠ 42 ∧ x0 ≠ 45 ∧ x0 ≠ 43 ∧ x0 ≠ 59 ∧ True) → (True) → (True) → Q (some (.int (Int32.ofInt (-21)))) τ)
    (l6 : ∀ (τ : pm_S) (y : Nat → Int), an_GB pm_B τ → FQ [] σ τ → ((47 ≤ x0 ∧ x0 ≤ 47) ∧ True) → (x0 ≠ 42 ∧ x0 ≠ 45 ∧ x0 ≠ 43 ∧ x0 ≠ 59 ∧ True) → (True) → (True) → Q (some (.int (Int32.ofInt (-20)))) τ)
    (l7 : ∀ (τ : pm_S) (y : Nat → Int), an_GB pm_B τ → FQ [] σ τ → ((42 ≤ x0 ∧ x0 ≤ 42) ∧ True) → (x0 ≠ 45 ∧ x0 ≠ 43 ∧ x0 ≠ 59 ∧ True) → (True) → (True) → Q (some (.int (Int32.ofInt (-19)))) τ)
    (l8 : ∀ (τ : pm_S) (y : Nat → Int), an_GB pm_B τ → FQ [] σ τ → ((45 ≤ x0 ∧ x0 ≤ 45) ∧ True) → (x0 ≠ 43 ∧ x0 ≠ 59 ∧ True) → (True) → (True) → Q (some (.int (Int32.ofInt (-18)))) τ)
    (l9 : ∀ (τ : pm_S) (y : Nat → Int), an_GB pm_B τ → FQ [] σ τ → ((43 ≤ x0 ∧ x0 ≤ 43) ∧ True) → (x0 ≠ 59 ∧ True) → (True) → (True) → Q (some (.int (Int32.ofInt (-17)))) τ)
    (l10 : ∀ (τ : pm_S) (y : Nat → Int), an_GB pm_B τ → FQ [] σ τ → ((59 ≤ x0 ∧ x0 ≤ 59) ∧ True) → (True) → (True) → (True) → Q (some (.int (Int32.ofInt (-16)))) τ)
    : Ok 49 7 0 [.int (Int32.ofInt (x0)), v1] [] σ Q := by
  refine an_seg (B := pm_B) (F := []) (T := []) (S := []) (fun _ h => absurd h List.not_mem_nil) (k := 49) (d := 6) (cs := []) 663 0 1 [(0, 0, 255)] [] [(0, 0, 0), (5, 0, 0)] [] [(9999, [], [(1, 0, (-27))], [(0, 0, 255)], [(3, 0, 0, 62), (3, 0, 0, 61), (3, 0, 0, 60), (3, 0, 0, 41), (3, 0, 0, 40), (3, 0, 0, 47), (3, 0, 0, 42), (3, 0, 0, 45), (3, 0, 0, 43), (3, 0, 0, 59)], [], []),
    (9999, [], [(1, 0, (-25))], [(0, 62, 62)], [(3, 0, 0, 61), (3, 0, 0, 60), (3, 0, 0, 41), (3, 0, 0, 40), (3, 0, 0, 47), (3, 0, 0, 42), (3, 0, 0, 45), (3, 0, 0, 43), (3, 0, 0, 59)], [], []),
    (9999, [], [(1, 0, (-24))], [(0, 61, 61)], [(3, 0, 0, 60), (3, 0, 0, 41), (3, 0, 0, 40), (3, 0, 0, 47), (3, 0, 0, 42), (3, 0, 0, 45), (3, 0, 0, 43), (3, 0, 0, 59)], [], []),
    (9999, [], [(1, 0, (-23))], [(0, 60, 60)], [(3, 0, 0, 41), (3, 0, 0, 40), (3, 0, 0, 47), (3, 0, 0, 42), (3, 0, 0, 45), (3, 0, 0, 43), (3, 0, 0, 59)], [], []),
    (9999, [], [(1, 0, (-22))], [(0, 41, 41)], [(3, 0, 0, 40), (3, 0, 0, 47), (3, 0, 0, 42), (3, 0, 0, 45), (3, 0, 0, 43), (3, 0, 0, 59)], [], []),
    (9999, [], [(1, 0, (-21))], [(0, 40, 40)], [(3, 0, 0, 47), (3, 0, 0, 42), (3, 0, 0, 45), (3, 0, 0, 43), (3, 0, 0, 59)], [], []),
    (9999, [], [(1, 0, (-20))], [(0, 47, 47)], [(3, 0, 0, 42), (3, 0, 0, 45), (3, 0, 0, 43), (3, 0, 0, 59)], [], []),
    (9999, [], [(1, 0, (-19))], [(0, 42, 42)], [(3, 0, 0, 45), (3, 0, 0, 43), (3, 0, 0, 59)], [], []),
    (9999, [], [(1, 0, (-18))], [(0, 45, 45)], [(3, 0, 0, 43), (3, 0, 0, 59)], [], []),
    (9999, [], [(1, 0, (-17))], [(0, 43, 43)], [(3, 0, 0, 59)], [], []),
    (9999, [], [(1, 0, (-16))], [(0, 59, 59)], [], [], [])] (by decide +kernel) (ρ0 := (fun s => [x0].getD s 0)) hB eF trivial ⟨rfl, ⟨hv1, trivial⟩⟩ trivial ?_
  refine List.forall_mem_cons.mpr ⟨?_, List.forall_mem_cons.mpr ⟨?_, List.forall_mem_cons.mpr ⟨?_, List.forall_mem_cons.mpr ⟨?_, List.forall_mem_cons.mpr ⟨?_, List.forall_mem_cons.mpr ⟨?_, List.forall_mem_cons.mpr ⟨?_, List.forall_mem_cons.mpr ⟨?_, List.forall_mem_cons.mpr ⟨?_, List.forall_mem_cons.mpr ⟨?_, List.forall_mem_cons.mpr ⟨?_, fun _ h => absurd h List.not_mem_nil⟩⟩⟩⟩⟩⟩⟩⟩⟩⟩⟩
  · intro ρ τ Lc stc hx g1 g2 g3 g4 g5 g6 g7 g8
    have e0 : ρ 0 = x0 := hx 0 (by decide)
    subst e0
    match stc, g8 with
    | [_], ⟨h, _⟩ => cases h; exact l0 τ ρ g1 g2 g3 g4 g5 g6
  · intro ρ τ Lc stc hx g1 g2 g3 g4 g5 g6 g7 g8
    have e0 : ρ 0 = x0 := hx 0 (by decide)
    subst e0
    match stc, g8 with
    | [_], ⟨h, _⟩ => cases h; exact l1 τ ρ g1 g2 g3 g4 g5 g6
  · intro ρ τ Lc stc hx g1 g2 g3 g4 g5 g6 g7 g8
    have e0 : ρ 0 = x0 := hx 0 (by decide)
    subst e0
    match stc, g8 with
    | [_], ⟨h, _⟩ => cases h; exact l2 τ ρ g1 g2 g3 g4 g5 g6
  · intro ρ τ Lc stc hx g1 g2 g3 g4 g5 g6 g7 g8
    have e0 : ρ 0 = x0 := hx 0 (by decide)
    subst e0
    match stc, g8 with
    | [_], ⟨h, _⟩ => cases h; exact l3 τ ρ g1 g2 g3 g4 g5 g6
  · intro ρ τ Lc stc hx g1 g2 g3 g4 g5 g6 g7 g8
    have e0 : ρ 0 = x0 := hx 0 (by decide)
    subst e0
    match stc, g8 with
    | [_], ⟨h, _⟩ => cases h; exact l4 τ ρ g1 g2 g3 g4 g5 g6
  · intro ρ τ Lc stc hx g1 g2 g3 g4 g5 g6 g7 g8
    have e0 : ρ 0 = x0 := hx 0 (by decide)
    subst e0
    match stc, g8 with
    | [_], ⟨h, _⟩ => cases h; exact l5 τ ρ g1 g2 g3 g4 g5 g6
  · intro ρ τ Lc stc hx g1 g2 g3 g4 g5 g6 g7 g8
    have e0 : ρ 0 = x0 := hx 0 (by decide)
    subst e0
    match stc, g8 with
    | [_], ⟨h, _⟩ => cases h; exact l6 τ ρ g1 g2 g3 g4 g5 g6
  · intro ρ τ Lc stc hx g1 g2 g3 g4 g5 g6 g7 g8
    have e0 : ρ 0 = x0 := hx 0 (by decide)
    subst e0
    match stc, g8 with
    | [_], ⟨h, _⟩ => cases h; exact l7 τ ρ g1 g2 g3 g4 g5 g6
  · intro ρ τ Lc stc hx g1 g2 g3 g4 g5 g6 g7 g8
    have e0 : ρ 0 = x0 := hx 0 (by decide)
    subst e0
    match stc, g8 with
    | [_], ⟨h, _⟩ => cases h; exact l8 τ ρ g1 g2 g3 g4 g5 g6
  · intro ρ τ Lc stc hx g1 g2 g3 g4 g5 g6 g7 g8
    have e0 : ρ 0 = x0 := hx 0 (by decide)
    subst e0
    match stc, g8 with
    | [_], ⟨h, _⟩ => cases h; exact l9 τ ρ g1 g2 g3 g4 g5 g6
  · intro ρ τ Lc stc hx g1 g2 g3 g4 g5 g6 g7 g8
    have e0 : ρ 0 = x0 := hx 0 (by decide)
    subst e0
    match stc, g8 with
    | [_], ⟨h, _⟩ => cases h; exact l10 τ ρ g1 g2 g3 g4 g5 g6
set_option maxRecDepth 100000 in
theorem pz_a0 {σ : pm_S} {Q : Option Value → pm_S → Prop} (x0 x1 x2 : Int)  (hB : an_GB pm_B σ) (eF : ((-27) ≤ x0 ∧ x0 ≤ 9999) ∧ (0 ≤ x1 ∧ x1 ≤ 400) ∧ (0 ≤ x2 ∧ x2 ≤ 400) ∧ True) (eC : (σ.1 67 7).toInt = x2 ∧ True)
    (l0 : ∀ (τ : pm_S) (y : Nat → Int), an_GB pm_B τ → FQ [] σ τ → (((-27) ≤ x0 ∧ x0 ≤ 9999) ∧ (0 ≤ x1 ∧ x1 ≤ 400) ∧ (0 ≤ x2 ∧ x2 ≤ 400) ∧ True) → (True) → (True) → ((τ.1 67 7).toInt = x2 ∧ True) → Ok 39 4 11 [.ref 67, .int (Int32.ofInt (x0)), .int (Int32.ofInt (x1))] [.int (Int32.ofInt (x0)), .int (Int32.ofInt (x2)), .ref 72] τ Q)
    : Ok 39 4 0 [.ref 67, .int (Int32.ofInt (x0)), .int (Int32.ofInt (x1))] [] σ Q := by
  refine an_seg (B := pm_B) (F := []) (T := []) (S := []) (fun _ h => absurd h List.not_mem_nil) (k := 39) (d := 3) (cs := [11]) 13 0 3 [(0, (-27), 9999), (1, 0, 400), (2, 0, 400)] [(67, (1, 0, 7), (0, 2, 0))] [(2, 67, 0), (0, 0, 0), (0, 1, 0)] [] [(11, [(2, 67, 0), (0, 0, 0), (0, 1, 0)], [(0, 0, 0), (0, 2, 0), (2, 72, 0)], [(0, (-27), 9999), (1, 0, 400), (2, 0, 400)], [], [], [(67, (1, 0, 7), (0, 2, 0))])] (by decide +kernel) (ρ0 := (fun s => [x0, x1, x2].getD s 0)) hB eF eC ⟨rfl, ⟨rfl, ⟨rfl, trivial⟩⟩⟩ trivial ?_
  refine List.forall_mem_cons.mpr ⟨?_, fun _ h => absurd h List.not_mem_nil⟩
  · intro ρ τ Lc stc hx g1 g2 g3 g4 g5 g6 g7 g8
    have e0 : ρ 0 = x0 := hx 0 (by decide)
    have e1 : ρ 1 = x1 := hx 1 (by decide)
    have e2 : ρ 2 = x2 := hx 2 (by decide)
    subst e0
    subst e1
    subst e2
    have g7 := g7 (by decide)
    match Lc, stc, g7, g8 with
    | [v0, v1, v2], [w0, w1, w2], ⟨hv0, hv1, hv2, _⟩, ⟨hw0, hw1, hw2, _⟩ =>
      cases hv0
      cases hv1
      cases hv2
      cases hw0
      cases hw1
      cases hw2
      exact l0 τ ρ  g1 g2 g3 g4 g5 g6
set_option maxRecDepth 100000 in
theorem pz_a12 {σ : pm_S} {Q : Option Value → pm_S → Prop} (x0 x1 x2 : Int)  (hB : an_GB pm_B σ) (eF : ((-27) ≤ x0 ∧ x0 ≤ 9999) ∧ (0 ≤ x1 ∧ x1 ≤ 400) ∧ (0 ≤ x2 ∧ x2 ≤ 400) ∧ True) (eC : (σ.1 67 7).toInt = x2 ∧ True)
    (l0 : ∀ (τ : pm_S) (y : Nat → Int), an_GB pm_B τ → FQ [] σ τ → (((-27) ≤ x0 ∧ x0 ≤ 9999) ∧ (0 ≤ x1 ∧ x1 ≤ 400) ∧ (0 ≤ x2 ∧ x2 ≤ 400) ∧ True) → (True) → (True) → ((τ.1 67 7).toInt = x2 ∧ True) → Ok 39 4 17 [.ref 67, .int (Int32.ofInt (x0)), .int (Int32.ofInt (x1))] [.int (Int32.ofInt (x1)), .int (Int32.ofInt (x2)), .ref 73] τ Q)
    : Ok 39 4 12 [.ref 67, .int (Int32.ofInt (x0)), .int (Int32.ofInt (x1))] [] σ Q := by
  refine an_seg (B := pm_B) (F := []) (T := []) (S := []) (fun _ h => absurd h List.not_mem_nil) (k := 39) (d := 3) (cs := [17]) 7 12 3 [(0, (-27), 9999), (1, 0, 400), (2, 0, 400)] [(67, (1, 0, 7), (0, 2, 0))] [(2, 67, 0), (0, 0, 0), (0, 1, 0)] [] [(17, [(2, 67, 0), (0, 0, 0), (0, 1, 0)], [(0, 1, 0), (0, 2, 0), (2, 73, 0)], [(0, (-27), 9999), (1, 0, 400), (2, 0, 400)], [], [], [(67, (1, 0, 7), (0, 2, 0))])] (by decide +kernel) (ρ0 := (fun s => [x0, x1, x2].getD s 0)) hB eF eC ⟨rfl, ⟨rfl, ⟨rfl, trivial⟩⟩⟩ trivial ?_
  refine List.forall_mem_cons.mpr ⟨?_, fun _ h => absurd h List.not_mem_nil⟩
  · intro ρ τ Lc stc hx g1 g2 g3 g4 g5 g6 g7 g8
    have e0 : ρ 0 = x0 := hx 0 (by decide)
    have e1 : ρ 1 = x1 := hx 1 (by decide)
    have e2 : ρ 2 = x2 := hx 2 (by decide)
    subst e0
    subst e1
    subst e2
    have g7 := g7 (by decide)
    match Lc, stc, g7, g8 with
    | [v0, v1, v2], [w0, w1, w2], ⟨hv0, hv1, hv2, _⟩, ⟨hw0, hw1, hw2, _⟩ =>
      cases hv0
      cases hv1
      cases hv2
      cases hw0
      cases hw1
      cases hw2
      exact l0 τ ρ  g1 g2 g3 g4 g5 g6
set_option maxRecDepth 100000 in
theorem pz_a18 {σ : pm_S} {Q : Option Value → pm_S → Prop} (x0 x1 x2 : Int)  (hB : an_GB pm_B σ) (eF : ((-27) ≤ x0 ∧ x0 ≤ 9999) ∧ (0 ≤ x1 ∧ x1 ≤ 400) ∧ (0 ≤ x2 ∧ x2 ≤ 400) ∧ True) (eC : (σ.1 67 7).toInt = x2 ∧ True)
    (l0 : ∀ (τ : pm_S) (y : Nat → Int), an_GB pm_B τ → FQ [(67, 7)] σ τ → (((-27) ≤ x0 ∧ x0 ≤ 9999) ∧ (0 ≤ x1 ∧ x1 ≤ 400) ∧ (0 ≤ x2 ∧ x2 ≤ 400) ∧ True) → (True) → (True) → ((τ.1 67 7).toInt = x2 + 1 ∧ True) → Q none τ)
    : Ok 39 4 18 [.ref 67, .int (Int32.ofInt (x0)), .int (Int32.ofInt (x1))] [] σ Q := by
  refine an_seg (B := pm_B) (F := [(67, 7)]) (T := []) (S := []) (fun _ h => absurd h List.not_mem_nil) (k := 39) (d := 3) (cs := []) 9 18 3 [(0, (-27), 9999), (1, 0, 400), (2, 0, 400)] [(67, (1, 0, 7), (0, 2, 0))] [(2, 67, 0), (0, 0, 0), (0, 1, 0)] [] [(9999, [], [], [(0, (-27), 9999), (1, 0, 400), (2, 0, 400)], [], [], [(67, (1, 0, 7), (0, 2, 1))])] (by decide +kernel) (ρ0 := (fun s => [x0, x1, x2].getD s 0)) hB eF eC ⟨rfl, ⟨rfl, ⟨rfl, trivial⟩⟩⟩ trivial ?_
  refine List.forall_mem_cons.mpr ⟨?_, fun _ h => absurd h List.not_mem_nil⟩
  · intro ρ τ Lc stc hx g1 g2 g3 g4 g5 g6 g7 g8
    have e0 : ρ 0 = x0 := hx 0 (by decide)
    have e1 : ρ 1 = x1 := hx 1 (by decide)
    have e2 : ρ 2 = x2 := hx 2 (by decide)
    subst e0
    subst e1
    subst e2
    match stc, g8 with
    | [], _ => exact l0 τ ρ g1 g2 g3 g4 g5 g6
set_option maxRecDepth 100000 in
theorem pz_t0 {σ : pm_S} {Q : Option Value → pm_S → Prop} (v1 : Value) (v2 : Value) (v3 : Value) (v4 : Value) (hv1 : v1.category = 1) (hv2 : v2.category = 1) (hv3 : v3.category = 1) (hv4 : v4.category = 1) (hB : an_GB pm_B σ)
    (l0 : ∀ (τ : pm_S) (y : Nat → Int) (v3 : Value) (v4 : Value), v3.category = 1 → v4.category = 1 → an_GB pm_B τ → FQ [(67, 7)] σ τ → (True) → (True) → (True) → ((τ.1 67 7).toInt = 0 ∧ True) → Ok 38 13 7 [.ref 67, .int (Int32.ofInt 0), .int (Int32.ofInt 0), v3, v4] [] τ Q)
    : Ok 38 13 0 [.ref 67, v1, v2, v3, v4] [] σ Q := by
  refine an_seg (B := pm_B) (F := [(67, 7)]) (T := []) (S := []) (fun _ h => absurd h List.not_mem_nil) (k := 38) (d := 12) (cs := [7]) 9 0 0 [] [] [(2, 67, 0), (5, 0, 0), (5, 0, 0), (5, 0, 0), (5, 0, 0)] [] [(7, [(2, 67, 0), (1, 0, 0), (1, 0, 0), (5, 0, 0), (5, 0, 0)], [], [], [], [], [(67, (1, 0, 7), (1, 0, 0))])] (by decide +kernel) (ρ0 := (fun s => [].getD s 0)) hB trivial trivial ⟨rfl, ⟨hv1, ⟨hv2, ⟨hv3, ⟨hv4, trivial⟩⟩⟩⟩⟩ trivial ?_
  refine List.forall_mem_cons.mpr ⟨?_, fun _ h => absurd h List.not_mem_nil⟩
  · intro ρ τ Lc stc hx g1 g2 g3 g4 g5 g6 g7 g8
    have g7 := g7 (by decide)
    match Lc, stc, g7, g8 with
    | [v0, v1, v2, v3, v4], [], ⟨hv0, hv1, hv2, hv3, hv4, _⟩, _ =>
      cases hv0
      cases hv1
      cases hv2
      exact l0 τ ρ v3 v4 hv3 hv4 g1 g2 g3 g4 g5 g6
set_option maxRecDepth 100000 in
theorem pz_t7 {σ : pm_S} {Q : Option Value → pm_S → Prop} (x0 x1 x2 : Int) (v3 : Value) (v4 : Value) (hv3 : v3.category = 1) (hv4 : v4.category = 1) (hB : an_GB pm_B σ) (eF : (0 ≤ x0 ∧ x0 ≤ 400) ∧ (0 ≤ x1 ∧ x1 ≤ 400) ∧ (0 ≤ x2 ∧ x2 ≤ 400) ∧ True) (eC : (σ.1 67 2).toInt = x2 ∧ True)
    (l0 : ∀ (τ : pm_S) (y : Nat → Int) (v3 : Value) (v4 : Value), v3.category = 1 → v4.category = 1 → an_GB pm_B τ → FQ [] σ τ → ((0 ≤ x0 ∧ x0 ≤ 400) ∧ (400 ≤ x1 ∧ x1 ≤ 400) ∧ (0 ≤ x2 ∧ x2 ≤ 400) ∧ True) → (True) → (True) → ((τ.1 67 2).toInt = x2 ∧ True) → Ok 38 13 64 [.ref 67, .int (Int32.ofInt (x0)), .int (Int32.ofInt (x1)), v3, v4] [] τ Q)
    (l1 : ∀ (τ : pm_S) (y : Nat → Int) (v3 : Value) (v4 : Value), v3.category = 1 → v4.category = 1 → an_GB pm_B τ → FQ [] σ τ → ((0 ≤ x0 ∧ x0 ≤ 400) ∧ (0 ≤ x1 ∧ x1 ≤ 399) ∧ (0 ≤ x2 ∧ x2 ≤ 400) ∧ True) → (True) → (True) → ((τ.1 67 2).toInt = x2 ∧ True) → Ok 38 13 13 [.ref 67, .int (Int32.ofInt (x0)), .int (Int32.ofInt (x1)), v3, v4] [.int (Int32.ofInt (x2)), .int (Int32.ofInt (x0))] τ Q)
    : Ok 38 13 7 [.ref 67, .int (Int32.ofInt (x0)), .int (Int32.ofInt (x1)), v3, v4] [] σ Q := by
  refine an_seg (B := pm_B) (F := []) (T := []) (S := []) (fun _ h => absurd h List.not_mem_nil) (k := 38) (d := 12) (cs := [13, 64]) 8 7 3 [(0, 0, 400), (1, 0, 400), (2, 0, 400)] [(67, (1, 0, 2), (0, 2, 0))] [(2, 67, 0), (0, 0, 0), (0, 1, 0), (5, 0, 0), (5, 0, 0)] [] [(64, [(2, 67, 0), (0, 0, 0), (0, 1, 0), (5, 0, 0), (5, 0, 0)], [], [(0, 0, 400), (1, 400, 400), (2, 0, 400)], [], [], [(67, (1, 0, 2), (0, 2, 0))]),
    (13, [(2, 67, 0), (0, 0, 0), (0, 1, 0), (5, 0, 0), (5, 0, 0)], [(0, 2, 0), (0, 0, 0)], [(0, 0, 400), (1, 0, 399), (2, 0, 400)], [], [], [(67, (1, 0, 2), (0, 2, 0))])] (by decide +kernel) (ρ0 := (fun s => [x0, x1, x2].getD s 0)) hB eF eC ⟨rfl, ⟨rfl, ⟨rfl, ⟨hv3, ⟨hv4, trivial⟩⟩⟩⟩⟩ trivial ?_
  refine List.forall_mem_cons.mpr ⟨?_, List.forall_mem_cons.mpr ⟨?_, fun _ h => absurd h List.not_mem_nil⟩⟩
  · intro ρ τ Lc stc hx g1 g2 g3 g4 g5 g6 g7 g8
    have e0 : ρ 0 = x0 := hx 0 (by decide)
    have e1 : ρ 1 = x1 := hx 1 (by decide)
    have e2 : ρ 2 = x2 := hx 2 (by decide)
    subst e0
    subst e1
    subst e2
    have g7 := g7 (by decide)
    match Lc, stc, g7, g8 with
    | [v0, v1, v2, v3, v4], [], ⟨hv0, hv1, hv2, hv3, hv4, _⟩, _ =>
      cases hv0
      cases hv1
      cases hv2
      exact l0 τ ρ v3 v4 hv3 hv4 g1 g2 g3 g4 g5 g6
  · intro ρ τ Lc stc hx g1 g2 g3 g4 g5 g6 g7 g8
    have e0 : ρ 0 = x0 := hx 0 (by decide)
    have e1 : ρ 1 = x1 := hx 1 (by decide)
    have e2 : ρ 2 = x2 := hx 2 (by decide)
    subst e0
    subst e1
    subst e2
    have g7 := g7 (by decide)
    match Lc, stc, g7, g8 with
    | [v0, v1, v2, v3, v4], [w0, w1], ⟨hv0, hv1, hv2, hv3, hv4, _⟩, ⟨hw0, hw1, _⟩ =>
      cases hv0
      cases hv1
      cases hv2
      cases hw0
      cases hw1
      exact l1 τ ρ v3 v4 hv3 hv4 g1 g2 g3 g4 g5 g6
set_option maxRecDepth 100000 in
theorem pz_t14 {σ : pm_S} {Q : Option Value → pm_S → Prop} (x0 x1 : Int) (v3 : Value) (v4 : Value) (hv3 : v3.category = 1) (hv4 : v4.category = 1) (hB : an_GB pm_B σ) (eF : (0 ≤ x0 ∧ x0 ≤ 399) ∧ (0 ≤ x1 ∧ x1 ≤ 399) ∧ True)
    (l0 : ∀ (τ : pm_S) (y : Nat → Int) (v3 : Value) (v4 : Value), v3.category = 1 → v4.category = 1 → an_GB pm_B τ → FQ [] σ τ → ((0 ≤ x0 ∧ x0 ≤ 399) ∧ (0 ≤ x1 ∧ x1 ≤ 399) ∧ True) → (True) → (True) → (True) → Ok 38 13 16 [.ref 67, .int (Int32.ofInt (x0)), .int (Int32.ofInt (x1)), v3, v4] [.int (Int32.ofInt (x0)), .ref 67] τ Q)
    : Ok 38 13 14 [.ref 67, .int (Int32.ofInt (x0)), .int (Int32.ofInt (x1)), v3, v4] [] σ Q := by
  refine an_seg (B := pm_B) (F := []) (T := []) (S := []) (fun _ h => absurd h List.not_mem_nil) (k := 38) (d := 12) (cs := [16]) 4 14 2 [(0, 0, 399), (1, 0, 399)] [] [(2, 67, 0), (0, 0, 0), (0, 1, 0), (5, 0, 0), (5, 0, 0)] [] [(16, [(2, 67, 0), (0, 0, 0), (0, 1, 0), (5, 0, 0), (5, 0, 0)], [(0, 0, 0), (2, 67, 0)], [(0, 0, 399), (1, 0, 399)], [], [], [])] (by decide +kernel) (ρ0 := (fun s => [x0, x1].getD s 0)) hB eF trivial ⟨rfl, ⟨rfl, ⟨rfl, ⟨hv3, ⟨hv4, trivial⟩⟩⟩⟩⟩ trivial ?_
  refine List.forall_mem_cons.mpr ⟨?_, fun _ h => absurd h List.not_mem_nil⟩
  · intro ρ τ Lc stc hx g1 g2 g3 g4 g5 g6 g7 g8
    have e0 : ρ 0 = x0 := hx 0 (by decide)
    have e1 : ρ 1 = x1 := hx 1 (by decide)
    subst e0
    subst e1
    have g7 := g7 (by decide)
    match Lc, stc, g7, g8 with
    | [v0, v1, v2, v3, v4], [w0, w1], ⟨hv0, hv1, hv2, hv3, hv4, _⟩, ⟨hw0, hw1, _⟩ =>
      cases hv0
      cases hv1
      cases hv2
      cases hw0
      cases hw1
      exact l0 τ ρ v3 v4 hv3 hv4 g1 g2 g3 g4 g5 g6
set_option maxRecDepth 100000 in
theorem pz_t17 {σ : pm_S} {Q : Option Value → pm_S → Prop} (x0 x1 x2 : Int) (v3 : Value) (v4 : Value) (hv3 : v3.category = 1) (hv4 : v4.category = 1) (hB : an_GB pm_B σ) (eF : (0 ≤ x0 ∧ x0 ≤ 399) ∧ (0 ≤ x1 ∧ x1 ≤ 399) ∧ (0 ≤ x2 ∧ x2 ≤ 255) ∧ True)
    (l0 : ∀ (τ : pm_S) (y : Nat → Int), an_GB pm_B τ → FQ [] σ τ → ((0 ≤ x0 ∧ x0 ≤ 399) ∧ (0 ≤ x1 ∧ x1 ≤ 399) ∧ (32 ≤ x2 ∧ x2 ≤ 32) ∧ True) → (True) → (True) → (True) → Ok 38 13 7 [.ref 67, .int (Int32.ofInt (x0 + 1)), .int (Int32.ofInt (x1 + 1)), .int (Int32.ofInt (x2)), .int (Int32.ofInt (x0 + 1))] [] τ Q)
    (l1 : ∀ (τ : pm_S) (y : Nat → Int), an_GB pm_B τ → FQ [] σ τ → ((0 ≤ x0 ∧ x0 ≤ 399) ∧ (0 ≤ x1 ∧ x1 ≤ 399) ∧ (0 ≤ x2 ∧ x2 ≤ 47) ∧ True) → (x2 ≠ 10 ∧ x2 ≠ 32 ∧ True) → (True) → (True) → Ok 38 13 57 [.ref 67, .int (Int32.ofInt (x0)), .int (Int32.ofInt (x1)), .int (Int32.ofInt (x2)), .int (Int32.ofInt (x0 + 1))] [.int (Int32.ofInt (x2)), .ref 67] τ Q)
    (l2 : ∀ (τ : pm_S) (y : Nat → Int), an_GB pm_B τ → FQ [] σ τ → ((0 ≤ x0 ∧ x0 ≤ 399) ∧ (0 ≤ x1 ∧ x1 ≤ 399) ∧ (10 ≤ x2 ∧ x2 ≤ 10) ∧ True) → (x2 ≠ 32 ∧ True) → (True) → (True) → Ok 38 13 7 [.ref 67, .int (Int32.ofInt (x0 + 1)), .int (Int32.ofInt (x1 + 1)), .int (Int32.ofInt (x2)), .int (Int32.ofInt (x0 + 1))] [] τ Q)
    (l3 : ∀ (τ : pm_S) (y : Nat → Int), an_GB pm_B τ → FQ [] σ τ → ((0 ≤ x0 ∧ x0 ≤ 399) ∧ (0 ≤ x1 ∧ x1 ≤ 399) ∧ (58 ≤ x2 ∧ x2 ≤ 64) ∧ True) → (x2 ≠ 10 ∧ x2 ≠ 32 ∧ True) → (True) → (True) → Ok 38 13 57 [.ref 67, .int (Int32.ofInt (x0)), .int (Int32.ofInt (x1)), .int (Int32.ofInt (x2)), .int (Int32.ofInt (x0 + 1))] [.int (Int32.ofInt (x2)), .ref 67] τ Q)
    (l4 : ∀ (τ : pm_S) (y : Nat → Int), an_GB pm_B τ → FQ [] σ τ → ((0 ≤ x0 ∧ x0 ≤ 399) ∧ (0 ≤ x1 ∧ x1 ≤ 399) ∧ (48 ≤ x2 ∧ x2 ≤ 57) ∧ True) → (True) → (True) → (True) → Ok 38 13 42 [.ref 67, .int (Int32.ofInt (x0)), .int (Int32.ofInt (x1)), .int (Int32.ofInt (x2)), .int (Int32.ofInt (x0 + 1))] [.int (Int32.ofInt (x0)), .ref 67] τ Q)
    (l5 : ∀ (τ : pm_S) (y : Nat → Int), an_GB pm_B τ → FQ [] σ τ → ((0 ≤ x0 ∧ x0 ≤ 399) ∧ (0 ≤ x1 ∧ x1 ≤ 399) ∧ (91 ≤ x2 ∧ x2 ≤ 96) ∧ True) → (x2 ≠ 10 ∧ x2 ≠ 32 ∧ True) → (True) → (True) → Ok 38 13 57 [.ref 67, .int (Int32.ofInt (x0)), .int (Int32.ofInt (x1)), .int (Int32.ofInt (x2)), .int (Int32.ofInt (x0 + 1))] [.int (Int32.ofInt (x2)), .ref 67] τ Q)
    (l6 : ∀ (τ : pm_S) (y : Nat → Int), an_GB pm_B τ → FQ [] σ τ → ((0 ≤ x0 ∧ x0 ≤ 399) ∧ (0 ≤ x1 ∧ x1 ≤ 399) ∧ (65 ≤ x2 ∧ x2 ≤ 90) ∧ True) → (True) → (True) → (True) → Ok 38 13 27 [.ref 67, .int (Int32.ofInt (x0)), .int (Int32.ofInt (x1)), .int (Int32.ofInt (x2)), .int (Int32.ofInt (x0 + 1))] [.int (Int32.ofInt (x0)), .ref 67] τ Q)
    (l7 : ∀ (τ : pm_S) (y : Nat → Int), an_GB pm_B τ → FQ [] σ τ → ((0 ≤ x0 ∧ x0 ≤ 399) ∧ (0 ≤ x1 ∧ x1 ≤ 399) ∧ (97 ≤ x2 ∧ x2 ≤ 122) ∧ True) → (True) → (True) → (True) → Ok 38 13 27 [.ref 67, .int (Int32.ofInt (x0)), .int (Int32.ofInt (x1)), .int (Int32.ofInt (x2)), .int (Int32.ofInt (x0 + 1))] [.int (Int32.ofInt (x0)), .ref 67] τ Q)
    (l8 : ∀ (τ : pm_S) (y : Nat → Int), an_GB pm_B τ → FQ [] σ τ → ((0 ≤ x0 ∧ x0 ≤ 399) ∧ (0 ≤ x1 ∧ x1 ≤ 399) ∧ (123 ≤ x2 ∧ x2 ≤ 255) ∧ True) → (x2 ≠ 10 ∧ x2 ≠ 32 ∧ True) → (True) → (True) → Ok 38 13 57 [.ref 67, .int (Int32.ofInt (x0)), .int (Int32.ofInt (x1)), .int (Int32.ofInt (x2)), .int (Int32.ofInt (x0 + 1))] [.int (Int32.ofInt (x2)), .ref 67] τ Q)
    : Ok 38 13 17 [.ref 67, .int (Int32.ofInt (x0)), .int (Int32.ofInt (x1)), v3, v4] [.int (Int32.ofInt (x2))] σ Q := by
  refine an_seg (B := pm_B) (F := []) (T := []) (S := []) (fun _ h => absurd h List.not_mem_nil) (k := 38) (d := 12) (cs := [7, 27, 42, 57]) 48 17 3 [(0, 0, 399), (1, 0, 399), (2, 0, 255)] [] [(2, 67, 0), (0, 0, 0), (0, 1, 0), (5, 0, 0), (5, 0, 0)] [(0, 2, 0)] [(7, [(2, 67, 0), (0, 0, 1), (0, 1, 1), (0, 2, 0), (0, 0, 1)], [], [(0, 0, 399), (1, 0, 399), (2, 32, 32)], [], [], []),
    (57, [(2, 67, 0), (0, 0, 0), (0, 1, 0), (0, 2, 0), (0, 0, 1)], [(0, 2, 0), (2, 67, 0)], [(0, 0, 399), (1, 0, 399), (2, 0, 47)], [(3, 2, 2, 10), (3, 2, 2, 32)], [], []),
    (7, [(2, 67, 0), (0, 0, 1), (0, 1, 1), (0, 2, 0), (0, 0, 1)], [], [(0, 0, 399), (1, 0, 399), (2, 10, 10)], [(3, 2, 2, 32)], [], []),
    (57, [(2, 67, 0), (0, 0, 0), (0, 1, 0), (0, 2, 0), (0, 0, 1)], [(0, 2, 0), (2, 67, 0)], [(0, 0, 399), (1, 0, 399), (2, 58, 64)], [(3, 2, 2, 10), (3, 2, 2, 32)], [], []),
    (42, [(2, 67, 0), (0, 0, 0), (0, 1, 0), (0, 2, 0), (0, 0, 1)], [(0, 0, 0), (2, 67, 0)], [(0, 0, 399), (1, 0, 399), (2, 48, 57)], [], [], []),
    (57, [(2, 67, 0), (0, 0, 0), (0, 1, 0), (0, 2, 0), (0, 0, 1)], [(0, 2, 0), (2, 67, 0)], [(0, 0, 399), (1, 0, 399), (2, 91, 96)], [(3, 2, 2, 10), (3, 2, 2, 32)], [], []),
    (27, [(2, 67, 0), (0, 0, 0), (0, 1, 0), (0, 2, 0), (0, 0, 1)], [(0, 0, 0), (2, 67, 0)], [(0, 0, 399), (1, 0, 399), (2, 65, 90)], [], [], []),
    (27, [(2, 67, 0), (0, 0, 0), (0, 1, 0), (0, 2, 0), (0, 0, 1)], [(0, 0, 0), (2, 67, 0)], [(0, 0, 399), (1, 0, 399), (2, 97, 122)], [], [], []),
    (57, [(2, 67, 0), (0, 0, 0), (0, 1, 0), (0, 2, 0), (0, 0, 1)], [(0, 2, 0), (2, 67, 0)], [(0, 0, 399), (1, 0, 399), (2, 123, 255)], [(3, 2, 2, 10), (3, 2, 2, 32)], [], [])] (by decide +kernel) (ρ0 := (fun s => [x0, x1, x2].getD s 0)) hB eF trivial ⟨rfl, ⟨rfl, ⟨rfl, ⟨hv3, ⟨hv4, trivial⟩⟩⟩⟩⟩ ⟨rfl, trivial⟩ ?_
  refine List.forall_mem_cons.mpr ⟨?_, List.forall_mem_cons.mpr ⟨?_, List.forall_mem_cons.mpr ⟨?_, List.forall_mem_cons.mpr ⟨?_, List.forall_mem_cons.mpr ⟨?_, List.forall_mem_cons.mpr ⟨?_, List.forall_mem_cons.mpr ⟨?_, List.forall_mem_cons.mpr ⟨?_, List.forall_mem_cons.mpr ⟨?_, fun _ h => absurd h List.not_mem_nil⟩⟩⟩⟩⟩⟩⟩⟩⟩
  · intro ρ τ Lc stc hx g1 g2 g3 g4 g5 g6 g7 g8
    have e0 : ρ 0 = x0 := hx 0 (by decide)
    have e1 : ρ 1 = x1 := hx 1 (by decide)
    have e2 : ρ 2 = x2 := hx 2 (by decide)
    subst e0
    subst e1
    subst e2
    have g7 := g7 (by decide)
    match Lc, stc, g7, g8 with
    | [v0, v1, v2, v3, v4], [], ⟨hv0, hv1, hv2, hv3, hv4, _⟩, _ =>
      cases hv0
      cases hv1
      cases hv2
      cases hv3
      cases hv4
      exact l0 τ ρ  g1 g2 g3 g4 g5 g6
  · intro ρ τ Lc stc hx g1 g2 g3 g4 g5 g6 g7 g8
    have e0 : ρ 0 = x0 := hx 0 (by decide)
    have e1 : ρ 1 = x1 := hx 1 (by decide)
    have e2 : ρ 2 = x2 := hx 2 (by decide)
    subst e0
    subst e1
    subst e2
    have g7 := g7 (by decide)
    match Lc, stc, g7, g8 with
    | [v0, v1, v2, v3, v4], [w0, w1], ⟨hv0, hv1, hv2, hv3, hv4, _⟩, ⟨hw0, hw1, _⟩ =>
      cases hv0
      cases hv1
      cases hv2
      cases hv3
      cases hv4
      cases hw0
      cases hw1
      exact l1 τ ρ  g1 g2 g3 g4 g5 g6
  · intro ρ τ Lc stc hx g1 g2 g3 g4 g5 g6 g7 g8
    have e0 : ρ 0 = x0 := hx 0 (by decide)
    have e1 : ρ 1 = x1 := hx 1 (by decide)
    have e2 : ρ 2 = x2 := hx 2 (by decide)
    subst e0
    subst e1
    subst e2
    have g7 := g7 (by decide)
    match Lc, stc, g7, g8 with
    | [v0, v1, v2, v3, v4], [], ⟨hv0, hv1, hv2, hv3, hv4, _⟩, _ =>
      cases hv0
      cases hv1
      cases hv2
      cases hv3
      cases hv4
      exact l2 τ ρ  g1 g2 g3 g4 g5 g6
  · intro ρ τ Lc stc hx g1 g2 g3 g4 g5 g6 g7 g8
    have e0 : ρ 0 = x0 := hx 0 (by decide)
    have e1 : ρ 1 = x1 := hx 1 (by decide)
    have e2 : ρ 2 = x2 := hx 2 (by decide)
    subst e0
    subst e1
    subst e2
    have g7 := g7 (by decide)
    match Lc, stc, g7, g8 with
    | [v0, v1, v2, v3, v4], [w0, w1], ⟨hv0, hv1, hv2, hv3, hv4, _⟩, ⟨hw0, hw1, _⟩ =>
      cases hv0
      cases hv1
      cases hv2
      cases hv3
      cases hv4
      cases hw0
      cases hw1
      exact l3 τ ρ  g1 g2 g3 g4 g5 g6
  · intro ρ τ Lc stc hx g1 g2 g3 g4 g5 g6 g7 g8
    have e0 : ρ 0 = x0 := hx 0 (by decide)
    have e1 : ρ 1 = x1 := hx 1 (by decide)
    have e2 : ρ 2 = x2 := hx 2 (by decide)
    subst e0
    subst e1
    subst e2
    have g7 := g7 (by decide)
    match Lc, stc, g7, g8 with
    | [v0, v1, v2, v3, v4], [w0, w1], ⟨hv0, hv1, hv2, hv3, hv4, _⟩, ⟨hw0, hw1, _⟩ =>
      cases hv0
      cases hv1
      cases hv2
      cases hv3
      cases hv4
      cases hw0
      cases hw1
      exact l4 τ ρ  g1 g2 g3 g4 g5 g6
  · intro ρ τ Lc stc hx g1 g2 g3 g4 g5 g6 g7 g8
    have e0 : ρ 0 = x0 := hx 0 (by decide)
    have e1 : ρ 1 = x1 := hx 1 (by decide)
    have e2 : ρ 2 = x2 := hx 2 (by decide)
    subst e0
    subst e1
    subst e2
    have g7 := g7 (by decide)
    match Lc, stc, g7, g8 with
    | [v0, v1, v2, v3, v4], [w0, w1], ⟨hv0, hv1, hv2, hv3, hv4, _⟩, ⟨hw0, hw1, _⟩ =>
      cases hv0
      cases hv1
      cases hv2
      cases hv3
      cases hv4
      cases hw0
      cases hw1
      exact l5 τ ρ  g1 g2 g3 g4 g5 g6
  · intro ρ τ Lc stc hx g1 g2 g3 g4 g5 g6 g7 g8
    have e0 : ρ 0 = x0 := hx 0 (by decide)
    have e1 : ρ 1 = x1 := hx 1 (by decide)
    have e2 : ρ 2 = x2 := hx 2 (by decide)
    subst e0
    subst e1
    subst e2
    have g7 := g7 (by decide)
    match Lc, stc, g7, g8 with
    | [v0, v1, v2, v3, v4], [w0, w1], ⟨hv0, hv1, hv2, hv3, hv4, _⟩, ⟨hw0, hw1, _⟩ =>
      cases hv0
      cases hv1
      cases hv2
      cases hv3
      cases hv4
      cases hw0
      cases hw1
      exact l6 τ ρ  g1 g2 g3 g4 g5 g6
  · intro ρ τ Lc stc hx g1 g2 g3 g4 g5 g6 g7 g8
    have e0 : ρ 0 = x0 := hx 0 (by decide)
    have e1 : ρ 1 = x1 := hx 1 (by decide)
    have e2 : ρ 2 = x2 := hx 2 (by decide)
    subst e0
    subst e1
    subst e2
    have g7 := g7 (by decide)
    match Lc, stc, g7, g8 with
    | [v0, v1, v2, v3, v4], [w0, w1], ⟨hv0, hv1, hv2, hv3, hv4, _⟩, ⟨hw0, hw1, _⟩ =>
      cases hv0
      cases hv1
      cases hv2
      cases hv3
      cases hv4
      cases hw0
      cases hw1
      exact l7 τ ρ  g1 g2 g3 g4 g5 g6
  · intro ρ τ Lc stc hx g1 g2 g3 g4 g5 g6 g7 g8
    have e0 : ρ 0 = x0 := hx 0 (by decide)
    have e1 : ρ 1 = x1 := hx 1 (by decide)
    have e2 : ρ 2 = x2 := hx 2 (by decide)
    subst e0
    subst e1
    subst e2
    have g7 := g7 (by decide)
    match Lc, stc, g7, g8 with
    | [v0, v1, v2, v3, v4], [w0, w1], ⟨hv0, hv1, hv2, hv3, hv4, _⟩, ⟨hw0, hw1, _⟩ =>
      cases hv0
      cases hv1
      cases hv2
      cases hv3
      cases hv4
      cases hw0
      cases hw1
      exact l8 τ ρ  g1 g2 g3 g4 g5 g6
set_option maxRecDepth 100000 in
theorem pz_t28 {σ : pm_S} {Q : Option Value → pm_S → Prop} (x0 x1 x2 x3 : Int) (v4 : Value) (hv4 : v4.category = 1) (hB : an_GB pm_B σ) (eF : (0 ≤ x0 ∧ x0 ≤ 399) ∧ (0 ≤ x1 ∧ x1 ≤ 399) ∧ (0 ≤ x2 ∧ x2 ≤ 255) ∧ (0 ≤ x3 ∧ x3 ≤ 400) ∧ True)
    (l0 : ∀ (τ : pm_S) (y : Nat → Int), an_GB pm_B τ → FQ [] σ τ → ((0 ≤ x0 ∧ x0 ≤ 399) ∧ (0 ≤ x1 ∧ x1 ≤ 399) ∧ (0 ≤ x2 ∧ x2 ≤ 255) ∧ (0 ≤ x3 ∧ x3 ≤ 400) ∧ True) → (True) → (True) → (True) → Ok 38 13 33 [.ref 67, .int (Int32.ofInt (x0)), .int (Int32.ofInt (x1)), .int (Int32.ofInt (x2)), .int (Int32.ofInt (x3))] [.int (Int32.ofInt (x3)), .int (Int32.ofInt (x0)), .ref 67, .ref 67] τ Q)
    : Ok 38 13 28 [.ref 67, .int (Int32.ofInt (x0)), .int (Int32.ofInt (x1)), .int (Int32.ofInt (x2)), v4] [.int (Int32.ofInt (x3))] σ Q := by
  refine an_seg (B := pm_B) (F := []) (T := []) (S := []) (fun _ h => absurd h List.not_mem_nil) (k := 38) (d := 12) (cs := [33]) 7 28 4 [(0, 0, 399), (1, 0, 399), (2, 0, 255), (3, 0, 400)] [] [(2, 67, 0), (0, 0, 0), (0, 1, 0), (0, 2, 0), (5, 0, 0)] [(0, 3, 0)] [(33, [(2, 67, 0), (0, 0, 0), (0, 1, 0), (0, 2, 0), (0, 3, 0)], [(0, 3, 0), (0, 0, 0), (2, 67, 0), (2, 67, 0)], [(0, 0, 399), (1, 0, 399), (2, 0, 255), (3, 0, 400)], [], [], [])] (by decide +kernel) (ρ0 := (fun s => [x0, x1, x2, x3].getD s 0)) hB eF trivial ⟨rfl, ⟨rfl, ⟨rfl, ⟨rfl, ⟨hv4, trivial⟩⟩⟩⟩⟩ ⟨rfl, trivial⟩ ?_
  refine List.forall_mem_cons.mpr ⟨?_, fun _ h => absurd h List.not_mem_nil⟩
  · intro ρ τ Lc stc hx g1 g2 g3 g4 g5 g6 g7 g8
    have e0 : ρ 0 = x0 := hx 0 (by decide)
    have e1 : ρ 1 = x1 := hx 1 (by decide)
    have e2 : ρ 2 = x2 := hx 2 (by decide)
    have e3 : ρ 3 = x3 := hx 3 (by decide)
    subst e0
    subst e1
    subst e2
    subst e3
    have g7 := g7 (by decide)
    match Lc, stc, g7, g8 with
    | [v0, v1, v2, v3, v4], [w0, w1, w2, w3], ⟨hv0, hv1, hv2, hv3, hv4, _⟩, ⟨hw0, hw1, hw2, hw3, _⟩ =>
      cases hv0
      cases hv1
      cases hv2
      cases hv3
      cases hv4
      cases hw0
      cases hw1
      cases hw2
      cases hw3
      exact l0 τ ρ  g1 g2 g3 g4 g5 g6
set_option maxRecDepth 100000 in
theorem pz_t34 {σ : pm_S} {Q : Option Value → pm_S → Prop} (x0 x1 x2 x3 x4 : Int)  (hB : an_GB pm_B σ) (eF : (0 ≤ x0 ∧ x0 ≤ 399) ∧ (0 ≤ x1 ∧ x1 ≤ 399) ∧ (0 ≤ x2 ∧ x2 ≤ 255) ∧ (0 ≤ x3 ∧ x3 ≤ 400) ∧ ((-27) ≤ x4 ∧ x4 ≤ 9999) ∧ True)
    (l0 : ∀ (τ : pm_S) (y : Nat → Int), an_GB pm_B τ → FQ [] σ τ → ((0 ≤ x0 ∧ x0 ≤ 399) ∧ (0 ≤ x1 ∧ x1 ≤ 399) ∧ (0 ≤ x2 ∧ x2 ≤ 255) ∧ (0 ≤ x3 ∧ x3 ≤ 400) ∧ ((-27) ≤ x4 ∧ x4 ≤ 9999) ∧ True) → (True) → (True) → (True) → Ok 38 13 35 [.ref 67, .int (Int32.ofInt (x0)), .int (Int32.ofInt (x1)), .int (Int32.ofInt (x2)), .int (Int32.ofInt (x3))] [.int (Int32.ofInt (x0)), .int (Int32.ofInt (x4)), .ref 67] τ Q)
    : Ok 38 13 34 [.ref 67, .int (Int32.ofInt (x0)), .int (Int32.ofInt (x1)), .int (Int32.ofInt (x2)), .int (Int32.ofInt (x3))] [.int (Int32.ofInt (x4)), .ref 67] σ Q := by
  refine an_seg (B := pm_B) (F := []) (T := []) (S := []) (fun _ h => absurd h List.not_mem_nil) (k := 38) (d := 12) (cs := [35]) 3 34 5 [(0, 0, 399), (1, 0, 399), (2, 0, 255), (3, 0, 400), (4, (-27), 9999)] [] [(2, 67, 0), (0, 0, 0), (0, 1, 0), (0, 2, 0), (0, 3, 0)] [(0, 4, 0), (2, 67, 0)] [(35, [(2, 67, 0), (0, 0, 0), (0, 1, 0), (0, 2, 0), (0, 3, 0)], [(0, 0, 0), (0, 4, 0), (2, 67, 0)], [(0, 0, 399), (1, 0, 399), (2, 0, 255), (3, 0, 400), (4, (-27), 9999)], [], [], [])] (by decide +kernel) (ρ0 := (fun s => [x0, x1, x2, x3, x4].getD s 0)) hB eF trivial ⟨rfl, ⟨rfl, ⟨rfl, ⟨rfl, ⟨rfl, trivial⟩⟩⟩⟩⟩ ⟨rfl, ⟨rfl, trivial⟩⟩ ?_
  refine List.forall_mem_cons.mpr ⟨?_, fun _ h => absurd h List.not_mem_nil⟩
  · intro ρ τ Lc stc hx g1 g2 g3 g4 g5 g6 g7 g8
    have e0 : ρ 0 = x0 := hx 0 (by decide)
    have e1 : ρ 1 = x1 := hx 1 (by decide)
    have e2 : ρ 2 = x2 := hx 2 (by decide)
    have e3 : ρ 3 = x3 := hx 3 (by decide)
    have e4 : ρ 4 = x4 := hx 4 (by decide)
    subst e0
    subst e1
    subst e2
    subst e3
    subst e4
    have g7 := g7 (by decide)
    match Lc, stc, g7, g8 with
    | [v0, v1, v2, v3, v4], [w0, w1, w2], ⟨hv0, hv1, hv2, hv3, hv4, _⟩, ⟨hw0, hw1, hw2, _⟩ =>
      cases hv0
      cases hv1
      cases hv2
      cases hv3
      cases hv4
      cases hw0
      cases hw1
      cases hw2
      exact l0 τ ρ  g1 g2 g3 g4 g5 g6
set_option maxRecDepth 100000 in
theorem pz_t36 {σ : pm_S} {Q : Option Value → pm_S → Prop} (x0 x1 x2 x3 : Int)  (hB : an_GB pm_B σ) (eF : (0 ≤ x0 ∧ x0 ≤ 399) ∧ (0 ≤ x1 ∧ x1 ≤ 399) ∧ (0 ≤ x2 ∧ x2 ≤ 255) ∧ (0 ≤ x3 ∧ x3 ≤ 400) ∧ True)
    (l0 : ∀ (τ : pm_S) (y : Nat → Int), an_GB pm_B τ → FQ [] σ τ → ((0 ≤ x0 ∧ x0 ≤ 399) ∧ (0 ≤ x1 ∧ x1 ≤ 399) ∧ (0 ≤ x2 ∧ x2 ≤ 255) ∧ (0 ≤ x3 ∧ x3 ≤ 400) ∧ True) → (True) → (True) → (True) → Ok 38 13 7 [.ref 67, .int (Int32.ofInt (x3)), .int (Int32.ofInt (x1 + 1)), .int (Int32.ofInt (x2)), .int (Int32.ofInt (x3))] [] τ Q)
    : Ok 38 13 36 [.ref 67, .int (Int32.ofInt (x0)), .int (Int32.ofInt (x1)), .int (Int32.ofInt (x2)), .int (Int32.ofInt (x3))] [] σ Q := by
  refine an_seg (B := pm_B) (F := []) (T := []) (S := []) (fun _ h => absurd h List.not_mem_nil) (k := 38) (d := 12) (cs := [7]) 7 36 4 [(0, 0, 399), (1, 0, 399), (2, 0, 255), (3, 0, 400)] [] [(2, 67, 0), (0, 0, 0), (0, 1, 0), (0, 2, 0), (0, 3, 0)] [] [(7, [(2, 67, 0), (0, 3, 0), (0, 1, 1), (0, 2, 0), (0, 3, 0)], [], [(0, 0, 399), (1, 0, 399), (2, 0, 255), (3, 0, 400)], [], [], [])] (by decide +kernel) (ρ0 := (fun s => [x0, x1, x2, x3].getD s 0)) hB eF trivial ⟨rfl, ⟨rfl, ⟨rfl, ⟨rfl, ⟨rfl, trivial⟩⟩⟩⟩⟩ trivial ?_
  refine List.forall_mem_cons.mpr ⟨?_, fun _ h => absurd h List.not_mem_nil⟩
  · intro ρ τ Lc stc hx g1 g2 g3 g4 g5 g6 g7 g8
    have e0 : ρ 0 = x0 := hx 0 (by decide)
    have e1 : ρ 1 = x1 := hx 1 (by decide)
    have e2 : ρ 2 = x2 := hx 2 (by decide)
    have e3 : ρ 3 = x3 := hx 3 (by decide)
    subst e0
    subst e1
    subst e2
    subst e3
    have g7 := g7 (by decide)
    match Lc, stc, g7, g8 with
    | [v0, v1, v2, v3, v4], [], ⟨hv0, hv1, hv2, hv3, hv4, _⟩, _ =>
      cases hv0
      cases hv1
      cases hv2
      cases hv3
      cases hv4
      exact l0 τ ρ  g1 g2 g3 g4 g5 g6
set_option maxRecDepth 100000 in
theorem pz_t43 {σ : pm_S} {Q : Option Value → pm_S → Prop} (x0 x1 x2 x3 : Int) (v4 : Value) (hv4 : v4.category = 1) (hB : an_GB pm_B σ) (eF : (0 ≤ x0 ∧ x0 ≤ 399) ∧ (0 ≤ x1 ∧ x1 ≤ 399) ∧ (0 ≤ x2 ∧ x2 ≤ 255) ∧ (0 ≤ x3 ∧ x3 ≤ 400) ∧ True)
    (l0 : ∀ (τ : pm_S) (y : Nat → Int), an_GB pm_B τ → FQ [] σ τ → ((0 ≤ x0 ∧ x0 ≤ 399) ∧ (0 ≤ x1 ∧ x1 ≤ 399) ∧ (0 ≤ x2 ∧ x2 ≤ 255) ∧ (0 ≤ x3 ∧ x3 ≤ 400) ∧ True) → (True) → (True) → (True) → Ok 38 13 48 [.ref 67, .int (Int32.ofInt (x0)), .int (Int32.ofInt (x1)), .int (Int32.ofInt (x2)), .int (Int32.ofInt (x3))] [.int (Int32.ofInt (x3)), .int (Int32.ofInt (x0)), .ref 67, .ref 67] τ Q)
    : Ok 38 13 43 [.ref 67, .int (Int32.ofInt (x0)), .int (Int32.ofInt (x1)), .int (Int32.ofInt (x2)), v4] [.int (Int32.ofInt (x3))] σ Q := by
  refine an_seg (B := pm_B) (F := []) (T := []) (S := []) (fun _ h => absurd h List.not_mem_nil) (k := 38) (d := 12) (cs := [48]) 7 43 4 [(0, 0, 399), (1, 0, 399), (2, 0, 255), (3, 0, 400)] [] [(2, 67, 0), (0, 0, 0), (0, 1, 0), (0, 2, 0), (5, 0, 0)] [(0, 3, 0)] [(48, [(2, 67, 0), (0, 0, 0), (0, 1, 0), (0, 2, 0), (0, 3, 0)], [(0, 3, 0), (0, 0, 0), (2, 67, 0), (2, 67, 0)], [(0, 0, 399), (1, 0, 399), (2, 0, 255), (3, 0, 400)], [], [], [])] (by decide +kernel) (ρ0 := (fun s => [x0, x1, x2, x3].getD s 0)) hB eF trivial ⟨rfl, ⟨rfl, ⟨rfl, ⟨rfl, ⟨hv4, trivial⟩⟩⟩⟩⟩ ⟨rfl, trivial⟩ ?_
  refine List.forall_mem_cons.mpr ⟨?_, fun _ h => absurd h List.not_mem_nil⟩
  · intro ρ τ Lc stc hx g1 g2 g3 g4 g5 g6 g7 g8
    have e0 : ρ 0 = x0 := hx 0 (by decide)
    have e1 : ρ 1 = x1 := hx 1 (by decide)
    have e2 : ρ 2 = x2 := hx 2 (by decide)
    have e3 : ρ 3 = x3 := hx 3 (by decide)
    subst e0
    subst e1
    subst e2
    subst e3
    have g7 := g7 (by decide)
    match Lc, stc, g7, g8 with
    | [v0, v1, v2, v3, v4], [w0, w1, w2, w3], ⟨hv0, hv1, hv2, hv3, hv4, _⟩, ⟨hw0, hw1, hw2, hw3, _⟩ =>
      cases hv0
      cases hv1
      cases hv2
      cases hv3
      cases hv4
      cases hw0
      cases hw1
      cases hw2
      cases hw3
      exact l0 τ ρ  g1 g2 g3 g4 g5 g6
set_option maxRecDepth 100000 in
theorem pz_t49 {σ : pm_S} {Q : Option Value → pm_S → Prop} (x0 x1 x2 x3 x4 : Int)  (hB : an_GB pm_B σ) (eF : (0 ≤ x0 ∧ x0 ≤ 399) ∧ (0 ≤ x1 ∧ x1 ≤ 399) ∧ (0 ≤ x2 ∧ x2 ≤ 255) ∧ (0 ≤ x3 ∧ x3 ≤ 400) ∧ ((-27) ≤ x4 ∧ x4 ≤ 9999) ∧ True)
    (l0 : ∀ (τ : pm_S) (y : Nat → Int), an_GB pm_B τ → FQ [] σ τ → ((0 ≤ x0 ∧ x0 ≤ 399) ∧ (0 ≤ x1 ∧ x1 ≤ 399) ∧ (0 ≤ x2 ∧ x2 ≤ 255) ∧ (0 ≤ x3 ∧ x3 ≤ 400) ∧ ((-27) ≤ x4 ∧ x4 ≤ 9999) ∧ True) → (True) → (True) → (True) → Ok 38 13 50 [.ref 67, .int (Int32.ofInt (x0)), .int (Int32.ofInt (x1)), .int (Int32.ofInt (x2)), .int (Int32.ofInt (x3))] [.int (Int32.ofInt (x0)), .int (Int32.ofInt (x4)), .ref 67] τ Q)
    : Ok 38 13 49 [.ref 67, .int (Int32.ofInt (x0)), .int (Int32.ofInt (x1)), .int (Int32.ofInt (x2)), .int (Int32.ofInt (x3))] [.int (Int32.ofInt (x4)), .ref 67] σ Q := by
  refine an_seg (B := pm_B) (F := []) (T := []) (S := []) (fun _ h => absurd h List.not_mem_nil) (k := 38) (d := 12) (cs := [50]) 3 49 5 [(0, 0, 399), (1, 0, 399), (2, 0, 255), (3, 0, 400), (4, (-27), 9999)] [] [(2, 67, 0), (0, 0, 0), (0, 1, 0), (0, 2, 0), (0, 3, 0)] [(0, 4, 0), (2, 67, 0)] [(50, [(2, 67, 0), (0, 0, 0), (0, 1, 0), (0, 2, 0), (0, 3, 0)], [(0, 0, 0), (0, 4, 0), (2, 67, 0)], [(0, 0, 399), (1, 0, 399), (2, 0, 255), (3, 0, 400), (4, (-27), 9999)], [], [], [])] (by decide +kernel) (ρ0 := (fun s => [x0, x1, x2, x3, x4].getD s 0)) hB eF trivial ⟨rfl, ⟨rfl, ⟨rfl, ⟨rfl, ⟨rfl, trivial⟩⟩⟩⟩⟩ ⟨rfl, ⟨rfl, trivial⟩⟩ ?_
  refine List.forall_mem_cons.mpr ⟨?_, fun _ h => absurd h List.not_mem_nil⟩
  · intro ρ τ Lc stc hx g1 g2 g3 g4 g5 g6 g7 g8
    have e0 : ρ 0 = x0 := hx 0 (by decide)
    have e1 : ρ 1 = x1 := hx 1 (by decide)
    have e2 : ρ 2 = x2 := hx 2 (by decide)
    have e3 : ρ 3 = x3 := hx 3 (by decide)
    have e4 : ρ 4 = x4 := hx 4 (by decide)
    subst e0
    subst e1
    subst e2
    subst e3
    subst e4
    have g7 := g7 (by decide)
    match Lc, stc, g7, g8 with
    | [v0, v1, v2, v3, v4], [w0, w1, w2], ⟨hv0, hv1, hv2, hv3, hv4, _⟩, ⟨hw0, hw1, hw2, _⟩ =>
      cases hv0
      cases hv1
      cases hv2
      cases hv3
      cases hv4
      cases hw0
      cases hw1
      cases hw2
      exact l0 τ ρ  g1 g2 g3 g4 g5 g6
set_option maxRecDepth 100000 in
theorem pz_t51 {σ : pm_S} {Q : Option Value → pm_S → Prop} (x0 x1 x2 x3 : Int)  (hB : an_GB pm_B σ) (eF : (0 ≤ x0 ∧ x0 ≤ 399) ∧ (0 ≤ x1 ∧ x1 ≤ 399) ∧ (0 ≤ x2 ∧ x2 ≤ 255) ∧ (0 ≤ x3 ∧ x3 ≤ 400) ∧ True)
    (l0 : ∀ (τ : pm_S) (y : Nat → Int), an_GB pm_B τ → FQ [] σ τ → ((0 ≤ x0 ∧ x0 ≤ 399) ∧ (0 ≤ x1 ∧ x1 ≤ 399) ∧ (0 ≤ x2 ∧ x2 ≤ 255) ∧ (0 ≤ x3 ∧ x3 ≤ 400) ∧ True) → (True) → (True) → (True) → Ok 38 13 7 [.ref 67, .int (Int32.ofInt (x3)), .int (Int32.ofInt (x1 + 1)), .int (Int32.ofInt (x2)), .int (Int32.ofInt (x3))] [] τ Q)
    : Ok 38 13 51 [.ref 67, .int (Int32.ofInt (x0)), .int (Int32.ofInt (x1)), .int (Int32.ofInt (x2)), .int (Int32.ofInt (x3))] [] σ Q := by
  refine an_seg (B := pm_B) (F := []) (T := []) (S := []) (fun _ h => absurd h List.not_mem_nil) (k := 38) (d := 12) (cs := [7]) 7 51 4 [(0, 0, 399), (1, 0, 399), (2, 0, 255), (3, 0, 400)] [] [(2, 67, 0), (0, 0, 0), (0, 1, 0), (0, 2, 0), (0, 3, 0)] [] [(7, [(2, 67, 0), (0, 3, 0), (0, 1, 1), (0, 2, 0), (0, 3, 0)], [], [(0, 0, 399), (1, 0, 399), (2, 0, 255), (3, 0, 400)], [], [], [])] (by decide +kernel) (ρ0 := (fun s => [x0, x1, x2, x3].getD s 0)) hB eF trivial ⟨rfl, ⟨rfl, ⟨rfl, ⟨rfl, ⟨rfl, trivial⟩⟩⟩⟩⟩ trivial ?_
  refine List.forall_mem_cons.mpr ⟨?_, fun _ h => absurd h List.not_mem_nil⟩
  · intro ρ τ Lc stc hx g1 g2 g3 g4 g5 g6 g7 g8
    have e0 : ρ 0 = x0 := hx 0 (by decide)
    have e1 : ρ 1 = x1 := hx 1 (by decide)
    have e2 : ρ 2 = x2 := hx 2 (by decide)
    have e3 : ρ 3 = x3 := hx 3 (by decide)
    subst e0
    subst e1
    subst e2
    subst e3
    have g7 := g7 (by decide)
    match Lc, stc, g7, g8 with
    | [v0, v1, v2, v3, v4], [], ⟨hv0, hv1, hv2, hv3, hv4, _⟩, _ =>
      cases hv0
      cases hv1
      cases hv2
      cases hv3
      cases hv4
      exact l0 τ ρ  g1 g2 g3 g4 g5 g6
set_option maxRecDepth 100000 in
theorem pz_t58 {σ : pm_S} {Q : Option Value → pm_S → Prop} (x0 x1 x2 x3 x4 : Int)  (hB : an_GB pm_B σ) (eF : (0 ≤ x0 ∧ x0 ≤ 399) ∧ (0 ≤ x1 ∧ x1 ≤ 399) ∧ (0 ≤ x2 ∧ x2 ≤ 255) ∧ (0 ≤ x3 ∧ x3 ≤ 400) ∧ ((-27) ≤ x4 ∧ x4 ≤ 9999) ∧ True)
    (l0 : ∀ (τ : pm_S) (y : Nat → Int), an_GB pm_B τ → FQ [] σ τ → ((0 ≤ x0 ∧ x0 ≤ 399) ∧ (0 ≤ x1 ∧ x1 ≤ 399) ∧ (0 ≤ x2 ∧ x2 ≤ 255) ∧ (0 ≤ x3 ∧ x3 ≤ 400) ∧ ((-27) ≤ x4 ∧ x4 ≤ 9999) ∧ True) → (True) → (True) → (True) → Ok 38 13 59 [.ref 67, .int (Int32.ofInt (x0)), .int (Int32.ofInt (x1)), .int (Int32.ofInt (x2)), .int (Int32.ofInt (x3))] [.int (Int32.ofInt (x0)), .int (Int32.ofInt (x4)), .ref 67] τ Q)
    : Ok 38 13 58 [.ref 67, .int (Int32.ofInt (x0)), .int (Int32.ofInt (x1)), .int (Int32.ofInt (x2)), .int (Int32.ofInt (x3))] [.int (Int32.ofInt (x4)), .ref 67] σ Q := by
  refine an_seg (B := pm_B) (F := []) (T := []) (S := []) (fun _ h => absurd h List.not_mem_nil) (k := 38) (d := 12) (cs := [59]) 3 58 5 [(0, 0, 399), (1, 0, 399), (2, 0, 255), (3, 0, 400), (4, (-27), 9999)] [] [(2, 67, 0), (0, 0, 0), (0, 1, 0), (0, 2, 0), (0, 3, 0)] [(0, 4, 0), (2, 67, 0)] [(59, [(2, 67, 0), (0, 0, 0), (0, 1, 0), (0, 2, 0), (0, 3, 0)], [(0, 0, 0), (0, 4, 0), (2, 67, 0)], [(0, 0, 399), (1, 0, 399), (2, 0, 255), (3, 0, 400), (4, (-27), 9999)], [], [], [])] (by decide +kernel) (ρ0 := (fun s => [x0, x1, x2, x3, x4].getD s 0)) hB eF trivial ⟨rfl, ⟨rfl, ⟨rfl, ⟨rfl, ⟨rfl, trivial⟩⟩⟩⟩⟩ ⟨rfl, ⟨rfl, trivial⟩⟩ ?_
  refine List.forall_mem_cons.mpr ⟨?_, fun _ h => absurd h List.not_mem_nil⟩
  · intro ρ τ Lc stc hx g1 g2 g3 g4 g5 g6 g7 g8
    have e0 : ρ 0 = x0 := hx 0 (by decide)
    have e1 : ρ 1 = x1 := hx 1 (by decide)
    have e2 : ρ 2 = x2 := hx 2 (by decide)
    have e3 : ρ 3 = x3 := hx 3 (by decide)
    have e4 : ρ 4 = x4 := hx 4 (by decide)
    subst e0
    subst e1
    subst e2
    subst e3
    subst e4
    have g7 := g7 (by decide)
    match Lc, stc, g7, g8 with
    | [v0, v1, v2, v3, v4], [w0, w1, w2], ⟨hv0, hv1, hv2, hv3, hv4, _⟩, ⟨hw0, hw1, hw2, _⟩ =>
      cases hv0
      cases hv1
      cases hv2
      cases hv3
      cases hv4
      cases hw0
      cases hw1
      cases hw2
      exact l0 τ ρ  g1 g2 g3 g4 g5 g6
set_option maxRecDepth 100000 in
theorem pz_t60 {σ : pm_S} {Q : Option Value → pm_S → Prop} (x0 x1 x2 x3 : Int)  (hB : an_GB pm_B σ) (eF : (0 ≤ x0 ∧ x0 ≤ 399) ∧ (0 ≤ x1 ∧ x1 ≤ 399) ∧ (0 ≤ x2 ∧ x2 ≤ 255) ∧ (0 ≤ x3 ∧ x3 ≤ 400) ∧ True)
    (l0 : ∀ (τ : pm_S) (y : Nat → Int), an_GB pm_B τ → FQ [] σ τ → ((0 ≤ x0 ∧ x0 ≤ 399) ∧ (0 ≤ x1 ∧ x1 ≤ 399) ∧ (0 ≤ x2 ∧ x2 ≤ 255) ∧ (0 ≤ x3 ∧ x3 ≤ 400) ∧ True) → (True) → (True) → (True) → Ok 38 13 7 [.ref 67, .int (Int32.ofInt (x3)), .int (Int32.ofInt (x1 + 1)), .int (Int32.ofInt (x2)), .int (Int32.ofInt (x3))] [] τ Q)
    : Ok 38 13 60 [.ref 67, .int (Int32.ofInt (x0)), .int (Int32.ofInt (x1)), .int (Int32.ofInt (x2)), .int (Int32.ofInt (x3))] [] σ Q := by
  refine an_seg (B := pm_B) (F := []) (T := []) (S := []) (fun _ h => absurd h List.not_mem_nil) (k := 38) (d := 12) (cs := [7]) 6 60 4 [(0, 0, 399), (1, 0, 399), (2, 0, 255), (3, 0, 400)] [] [(2, 67, 0), (0, 0, 0), (0, 1, 0), (0, 2, 0), (0, 3, 0)] [] [(7, [(2, 67, 0), (0, 3, 0), (0, 1, 1), (0, 2, 0), (0, 3, 0)], [], [(0, 0, 399), (1, 0, 399), (2, 0, 255), (3, 0, 400)], [], [], [])] (by decide +kernel) (ρ0 := (fun s => [x0, x1, x2, x3].getD s 0)) hB eF trivial ⟨rfl, ⟨rfl, ⟨rfl, ⟨rfl, ⟨rfl, trivial⟩⟩⟩⟩⟩ trivial ?_
  refine List.forall_mem_cons.mpr ⟨?_, fun _ h => absurd h List.not_mem_nil⟩
  · intro ρ τ Lc stc hx g1 g2 g3 g4 g5 g6 g7 g8
    have e0 : ρ 0 = x0 := hx 0 (by decide)
    have e1 : ρ 1 = x1 := hx 1 (by decide)
    have e2 : ρ 2 = x2 := hx 2 (by decide)
    have e3 : ρ 3 = x3 := hx 3 (by decide)
    subst e0
    subst e1
    subst e2
    subst e3
    have g7 := g7 (by decide)
    match Lc, stc, g7, g8 with
    | [v0, v1, v2, v3, v4], [], ⟨hv0, hv1, hv2, hv3, hv4, _⟩, _ =>
      cases hv0
      cases hv1
      cases hv2
      cases hv3
      cases hv4
      exact l0 τ ρ  g1 g2 g3 g4 g5 g6
set_option maxRecDepth 100000 in
theorem pz_t64 {σ : pm_S} {Q : Option Value → pm_S → Prop} (x0 : Int) (v1 : Value) (v2 : Value) (v3 : Value) (v4 : Value) (hv1 : v1.category = 1) (hv2 : v2.category = 1) (hv3 : v3.category = 1) (hv4 : v4.category = 1) (hB : an_GB pm_B σ) (eF : (0 ≤ x0 ∧ x0 ≤ 400) ∧ True) (eC : (σ.1 67 2).toInt = x0 ∧ True)
    (l0 : ∀ (τ : pm_S) (y : Nat → Int) (v1 : Value) (v2 : Value) (v3 : Value) (v4 : Value), v1.category = 1 → v2.category = 1 → v3.category = 1 → v4.category = 1 → an_GB pm_B τ → FQ [] σ τ → ((0 ≤ x0 ∧ x0 ≤ 400) ∧ True) → (True) → (True) → ((τ.1 67 2).toInt = x0 ∧ True) → Ok 38 13 68 [.ref 67, v1, v2, v3, v4] [.int (Int32.ofInt (x0)), .int (Int32.ofInt (-26)), .ref 67] τ Q)
    : Ok 38 13 64 [.ref 67, v1, v2, v3, v4] [] σ Q := by
  refine an_seg (B := pm_B) (F := []) (T := []) (S := []) (fun _ h => absurd h List.not_mem_nil) (k := 38) (d := 12) (cs := [68]) 6 64 1 [(0, 0, 400)] [(67, (1, 0, 2), (0, 0, 0))] [(2, 67, 0), (5, 0, 0), (5, 0, 0), (5, 0, 0), (5, 0, 0)] [] [(68, [(2, 67, 0), (5, 0, 0), (5, 0, 0), (5, 0, 0), (5, 0, 0)], [(0, 0, 0), (1, 0, (-26)), (2, 67, 0)], [(0, 0, 400)], [], [], [(67, (1, 0, 2), (0, 0, 0))])] (by decide +kernel) (ρ0 := (fun s => [x0].getD s 0)) hB eF eC ⟨rfl, ⟨hv1, ⟨hv2, ⟨hv3, ⟨hv4, trivial⟩⟩⟩⟩⟩ trivial ?_
  refine List.forall_mem_cons.mpr ⟨?_, fun _ h => absurd h List.not_mem_nil⟩
  · intro ρ τ Lc stc hx g1 g2 g3 g4 g5 g6 g7 g8
    have e0 : ρ 0 = x0 := hx 0 (by decide)
    subst e0
    have g7 := g7 (by decide)
    match Lc, stc, g7, g8 with
    | [v0, v1, v2, v3, v4], [w0, w1, w2], ⟨hv0, hv1, hv2, hv3, hv4, _⟩, ⟨hw0, hw1, hw2, _⟩ =>
      cases hv0
      cases hw0
      cases hw1
      cases hw2
      exact l0 τ ρ v1 v2 v3 v4 hv1 hv2 hv3 hv4 g1 g2 g3 g4 g5 g6
set_option maxRecDepth 100000 in
theorem pz_t69 {σ : pm_S} {Q : Option Value → pm_S → Prop} (v1 : Value) (v2 : Value) (v3 : Value) (v4 : Value) (hv1 : v1.category = 1) (hv2 : v2.category = 1) (hv3 : v3.category = 1) (hv4 : v4.category = 1) (hB : an_GB pm_B σ)
    (l0 : ∀ (τ : pm_S) (y : Nat → Int), an_GB pm_B τ → FQ [] σ τ → (True) → (True) → (True) → (True) → Q none τ)
    : Ok 38 13 69 [.ref 67, v1, v2, v3, v4] [] σ Q := by
  refine an_seg (B := pm_B) (F := []) (T := []) (S := []) (fun _ h => absurd h List.not_mem_nil) (k := 38) (d := 12) (cs := []) 3 69 0 [] [] [(2, 67, 0), (5, 0, 0), (5, 0, 0), (5, 0, 0), (5, 0, 0)] [] [(9999, [], [], [], [], [], [])] (by decide +kernel) (ρ0 := (fun s => [].getD s 0)) hB trivial trivial ⟨rfl, ⟨hv1, ⟨hv2, ⟨hv3, ⟨hv4, trivial⟩⟩⟩⟩⟩ trivial ?_
  refine List.forall_mem_cons.mpr ⟨?_, fun _ h => absurd h List.not_mem_nil⟩
  · intro ρ τ Lc stc hx g1 g2 g3 g4 g5 g6 g7 g8
    match stc, g8 with
    | [], _ => exact l0 τ ρ g1 g2 g3 g4 g5 g6
set_option maxRecDepth 100000 in
theorem pz_r0 {σ : pm_S} {Q : Option Value → pm_S → Prop} (v2 : Value) (hv2 : v2.category = 1) (hB : an_GB pm_B σ)
    (l0 : ∀ (τ : pm_S) (y : Nat → Int) (v2 : Value), v2.category = 1 → an_GB pm_B τ → FQ [] σ τ → (True) → (True) → (True) → (True) → Ok 27 130 1 [.ref 67, .ref 31, v2] [.ref 67] τ Q)
    : Ok 27 130 0 [.ref 67, .ref 31, v2] [] σ Q := by
  refine an_seg (B := pm_B) (F := []) (T := []) (S := []) (fun _ h => absurd h List.not_mem_nil) (k := 27) (d := 129) (cs := [1]) 3 0 0 [] [] [(2, 67, 0), (2, 31, 0), (5, 0, 0)] [] [(1, [(2, 67, 0), (2, 31, 0), (5, 0, 0)], [(2, 67, 0)], [], [], [], [])] (by decide +kernel) (ρ0 := (fun s => [].getD s 0)) hB trivial trivial ⟨rfl, ⟨rfl, ⟨hv2, trivial⟩⟩⟩ trivial ?_
  refine List.forall_mem_cons.mpr ⟨?_, fun _ h => absurd h List.not_mem_nil⟩
  · intro ρ τ Lc stc hx g1 g2 g3 g4 g5 g6 g7 g8
    have g7 := g7 (by decide)
    match Lc, stc, g7, g8 with
    | [v0, v1, v2], [w0], ⟨hv0, hv1, hv2, _⟩, ⟨hw0, _⟩ =>
      cases hv0
      cases hv1
      cases hw0
      exact l0 τ ρ v2 hv2 g1 g2 g3 g4 g5 g6
set_option maxRecDepth 100000 in
theorem pz_r2 {σ : pm_S} {Q : Option Value → pm_S → Prop} (v2 : Value) (hv2 : v2.category = 1) (hB : an_GB pm_B σ)
    (l0 : ∀ (τ : pm_S) (y : Nat → Int), an_GB pm_B τ → FQ [(67, 0), (67, 1), (67, 2), (67, 8), (67, 9), (69, 0), (69, 1)] σ τ → (((-2147483648) ≤ y 0 ∧ y 0 ≤ 2147483647) ∧ True) → (True) → (True) → ((τ.1 67 0).toInt = 0 ∧ (τ.1 67 1).toInt = (-1) ∧ (τ.1 67 2).toInt = 0 ∧ (τ.1 67 8).toInt = 0 ∧ (τ.1 67 9).toInt = y 0 ∧ (τ.1 69 0).toInt = 0 ∧ (τ.1 69 1).toInt = 0 ∧ (τ.1 72 0).toInt = y 0 ∧ True) → Ok 27 130 25 [.ref 67, .ref 31, .int (Int32.ofInt 0)] [] τ Q)
    : Ok 27 130 2 [.ref 67, .ref 31, v2] [] σ Q := by
  refine an_seg (B := pm_B) (F := [(67, 0), (67, 1), (67, 2), (67, 8), (67, 9), (69, 0), (69, 1)]) (T := [72]) (S := []) (fun _ h => absurd h List.not_mem_nil) (k := 27) (d := 129) (cs := [25]) 32 2 0 [] [] [(2, 67, 0), (2, 31, 0), (5, 0, 0)] [] [(25, [(2, 67, 0), (2, 31, 0), (1, 0, 0)], [], [(0, (-2147483648), 2147483647)], [], [], [(67, (1, 0, 0), (1, 0, 0)), (67, (1, 0, 1), (1, 0, (-1))), (67, (1, 0, 2), (1, 0, 0)), (67, (1, 0, 8), (1, 0, 0)), (67, (1, 0, 9), (0, 0, 0)), (69, (1, 0, 0), (1, 0, 0)), (69, (1, 0, 1), (1, 0, 0)), (72, (1, 0, 0), (0, 0, 0))])] (by decide +kernel) (ρ0 := (fun s => [].getD s 0)) hB trivial trivial ⟨rfl, ⟨rfl, ⟨hv2, trivial⟩⟩⟩ trivial ?_
  refine List.forall_mem_cons.mpr ⟨?_, fun _ h => absurd h List.not_mem_nil⟩
  · intro ρ τ Lc stc hx g1 g2 g3 g4 g5 g6 g7 g8
    have g7 := g7 (by decide)
    match Lc, stc, g7, g8 with
    | [v0, v1, v2], [], ⟨hv0, hv1, hv2, _⟩, _ =>
      cases hv0
      cases hv1
      cases hv2
      exact l0 τ ρ  g1 g2 g3 g4 g5 g6
set_option maxRecDepth 100000 in
theorem pz_r25 {σ : pm_S} {Q : Option Value → pm_S → Prop} (x0 x1 x2 : Int)  (hB : an_GB pm_B σ) (eF : (0 ≤ x0 ∧ x0 ≤ 17) ∧ (0 ≤ x1 ∧ x1 ≤ 3) ∧ ((-2147483648) ≤ x2 ∧ x2 ≤ 2147483647) ∧ True) (eC : (σ.1 67 0).toInt = x1 ∧ (σ.1 67 9).toInt = x2 ∧ True)
    (l0 : ∀ (τ : pm_S) (y : Nat → Int), an_GB pm_B τ → FQ [] σ τ → ((17 ≤ x0 ∧ x0 ≤ 17) ∧ (0 ≤ x1 ∧ x1 ≤ 3) ∧ ((-2147483648) ≤ x2 ∧ x2 ≤ 2147483647) ∧ True) → (True) → (True) → ((τ.1 67 0).toInt = x1 ∧ (τ.1 67 9).toInt = x2 ∧ True) → Ok 27 130 39 [.ref 67, .ref 31, .int (Int32.ofInt (x0))] [] τ Q)
    (l1 : ∀ (τ : pm_S) (y : Nat → Int), an_GB pm_B τ → FQ [] σ τ → ((0 ≤ x0 ∧ x0 ≤ 16) ∧ (1 ≤ x1 ∧ x1 ≤ 3) ∧ ((-2147483648) ≤ x2 ∧ x2 ≤ 2147483647) ∧ True) → (True) → (True) → ((τ.1 67 0).toInt = x1 ∧ (τ.1 67 9).toInt = x2 ∧ True) → Ok 27 130 39 [.ref 67, .ref 31, .int (Int32.ofInt (x0))] [] τ Q)
    (l2 : ∀ (τ : pm_S) (y : Nat → Int), an_GB pm_B τ → FQ [] σ τ → ((0 ≤ x0 ∧ x0 ≤ 16) ∧ (0 ≤ x1 ∧ x1 ≤ 0) ∧ ((-26) ≤ x2 ∧ x2 ≤ (-26)) ∧ True) → (True) → (True) → ((τ.1 67 0).toInt = x1 ∧ (τ.1 67 9).toInt = x2 ∧ True) → Ok 27 130 39 [.ref 67, .ref 31, .int (Int32.ofInt (x0))] [] τ Q)
    (l3 : ∀ (τ : pm_S) (y : Nat → Int), an_GB pm_B τ → FQ [] σ τ → ((0 ≤ x0 ∧ x0 ≤ 16) ∧ (0 ≤ x1 ∧ x1 ≤ 0) ∧ ((-2147483648) ≤ x2 ∧ x2 ≤ 2147483647) ∧ True) → (x2 ≠ (-26) ∧ True) → (True) → ((τ.1 67 0).toInt = x1 ∧ (τ.1 67 9).toInt = x2 ∧ True) → Ok 27 130 36 [.ref 67, .ref 31, .int (Int32.ofInt (x0))] [.ref 67] τ Q)
    : Ok 27 130 25 [.ref 67, .ref 31, .int (Int32.ofInt (x0))] [] σ Q := by
  refine an_seg (B := pm_B) (F := []) (T := []) (S := []) (fun _ h => absurd h List.not_mem_nil) (k := 27) (d := 129) (cs := [36, 39]) 13 25 3 [(0, 0, 17), (1, 0, 3), (2, (-2147483648), 2147483647)] [(67, (1, 0, 0), (0, 1, 0)), (67, (1, 0, 9), (0, 2, 0))] [(2, 67, 0), (2, 31, 0), (0, 0, 0)] [] [(39, [(2, 67, 0), (2, 31, 0), (0, 0, 0)], [], [(0, 17, 17), (1, 0, 3), (2, (-2147483648), 2147483647)], [], [], [(67, (1, 0, 0), (0, 1, 0)), (67, (1, 0, 9), (0, 2, 0))]),
    (39, [(2, 67, 0), (2, 31, 0), (0, 0, 0)], [], [(0, 0, 16), (1, 1, 3), (2, (-2147483648), 2147483647)], [], [], [(67, (1, 0, 0), (0, 1, 0)), (67, (1, 0, 9), (0, 2, 0))]),
    (39, [(2, 67, 0), (2, 31, 0), (0, 0, 0)], [], [(0, 0, 16), (1, 0, 0), (2, (-26), (-26))], [], [], [(67, (1, 0, 0), (0, 1, 0)), (67, (1, 0, 9), (0, 2, 0))]),
    (36, [(2, 67, 0), (2, 31, 0), (0, 0, 0)], [(2, 67, 0)], [(0, 0, 16), (1, 0, 0), (2, (-2147483648), 2147483647)], [(3, 2, 2, (-26))], [], [(67, (1, 0, 0), (0, 1, 0)), (67, (1, 0, 9), (0, 2, 0))])] (by decide +kernel) (ρ0 := (fun s => [x0, x1, x2].getD s 0)) hB eF eC ⟨rfl, ⟨rfl, ⟨rfl, trivial⟩⟩⟩ trivial ?_
  refine List.forall_mem_cons.mpr ⟨?_, List.forall_mem_cons.mpr ⟨?_, List.forall_mem_cons.mpr ⟨?_, List.forall_mem_cons.mpr ⟨?_, fun _ h => absurd h List.not_mem_nil⟩⟩⟩⟩
  · intro ρ τ Lc stc hx g1 g2 g3 g4 g5 g6 g7 g8
    have e0 : ρ 0 = x0 := hx 0 (by decide)
    have e1 : ρ 1 = x1 := hx 1 (by decide)
    have e2 : ρ 2 = x2 := hx 2 (by decide)
    subst e0
    subst e1
    subst e2
    have g7 := g7 (by decide)
    match Lc, stc, g7, g8 with
    | [v0, v1, v2], [], ⟨hv0, hv1, hv2, _⟩, _ =>
      cases hv0
      cases hv1
      cases hv2
      exact l0 τ ρ  g1 g2 g3 g4 g5 g6
  · intro ρ τ Lc stc hx g1 g2 g3 g4 g5 g6 g7 g8
    have e0 : ρ 0 = x0 := hx 0 (by decide)
    have e1 : ρ 1 = x1 := hx 1 (by decide)
    have e2 : ρ 2 = x2 := hx 2 (by decide)
    subst e0
    subst e1
    subst e2
    have g7 := g7 (by decide)
    match Lc, stc, g7, g8 with
    | [v0, v1, v2], [], ⟨hv0, hv1, hv2, _⟩, _ =>
      cases hv0
      cases hv1
      cases hv2
      exact l1 τ ρ  g1 g2 g3 g4 g5 g6
  · intro ρ τ Lc stc hx g1 g2 g3 g4 g5 g6 g7 g8
    have e0 : ρ 0 = x0 := hx 0 (by decide)
    have e1 : ρ 1 = x1 := hx 1 (by decide)
    have e2 : ρ 2 = x2 := hx 2 (by decide)
    subst e0
    subst e1
    subst e2
    have g7 := g7 (by decide)
    match Lc, stc, g7, g8 with
    | [v0, v1, v2], [], ⟨hv0, hv1, hv2, _⟩, _ =>
      cases hv0
      cases hv1
      cases hv2
      exact l2 τ ρ  g1 g2 g3 g4 g5 g6
  · intro ρ τ Lc stc hx g1 g2 g3 g4 g5 g6 g7 g8
    have e0 : ρ 0 = x0 := hx 0 (by decide)
    have e1 : ρ 1 = x1 := hx 1 (by decide)
    have e2 : ρ 2 = x2 := hx 2 (by decide)
    subst e0
    subst e1
    subst e2
    have g7 := g7 (by decide)
    match Lc, stc, g7, g8 with
    | [v0, v1, v2], [w0], ⟨hv0, hv1, hv2, _⟩, ⟨hw0, _⟩ =>
      cases hv0
      cases hv1
      cases hv2
      cases hw0
      exact l3 τ ρ  g1 g2 g3 g4 g5 g6
set_option maxRecDepth 100000 in
theorem pz_r37 {σ : pm_S} {Q : Option Value → pm_S → Prop} (x0 : Int)  (hB : an_GB pm_B σ) (eF : (0 ≤ x0 ∧ x0 ≤ 16) ∧ True)
    (l0 : ∀ (τ : pm_S) (y : Nat → Int), an_GB pm_B τ → FQ [] σ τ → ((0 ≤ x0 ∧ x0 ≤ 16) ∧ True) → (True) → (True) → (True) → Ok 27 130 25 [.ref 67, .ref 31, .int (Int32.ofInt (x0 + 1))] [] τ Q)
    : Ok 27 130 37 [.ref 67, .ref 31, .int (Int32.ofInt (x0))] [] σ Q := by
  refine an_seg (B := pm_B) (F := []) (T := []) (S := []) (fun _ h => absurd h List.not_mem_nil) (k := 27) (d := 129) (cs := [25]) 4 37 1 [(0, 0, 16)] [] [(2, 67, 0), (2, 31, 0), (0, 0, 0)] [] [(25, [(2, 67, 0), (2, 31, 0), (0, 0, 1)], [], [(0, 0, 16)], [], [], [])] (by decide +kernel) (ρ0 := (fun s => [x0].getD s 0)) hB eF trivial ⟨rfl, ⟨rfl, ⟨rfl, trivial⟩⟩⟩ trivial ?_
  refine List.forall_mem_cons.mpr ⟨?_, fun _ h => absurd h List.not_mem_nil⟩
  · intro ρ τ Lc stc hx g1 g2 g3 g4 g5 g6 g7 g8
    have e0 : ρ 0 = x0 := hx 0 (by decide)
    subst e0
    have g7 := g7 (by decide)
    match Lc, stc, g7, g8 with
    | [v0, v1, v2], [], ⟨hv0, hv1, hv2, _⟩, _ =>
      cases hv0
      cases hv1
      cases hv2
      exact l0 τ ρ  g1 g2 g3 g4 g5 g6
set_option maxRecDepth 100000 in
theorem pz_r39 {σ : pm_S} {Q : Option Value → pm_S → Prop} (x0 : Int) (v2 : Value) (hv2 : v2.category = 1) (hB : an_GB pm_B σ) (eF : (0 ≤ x0 ∧ x0 ≤ 3) ∧ True) (eC : (σ.1 67 0).toInt = x0 ∧ True)
    (l0 : ∀ (τ : pm_S) (y : Nat → Int) (v2 : Value), v2.category = 1 → an_GB pm_B τ → FQ [] σ τ → ((0 ≤ x0 ∧ x0 ≤ 0) ∧ True) → (True) → (True) → ((τ.1 67 0).toInt = x0 ∧ True) → Ok 27 130 47 [.ref 67, .ref 31, v2] [.ref 69, .ref 31] τ Q)
    (l1 : ∀ (τ : pm_S) (y : Nat → Int), an_GB pm_B τ → FQ [] σ τ → ((1 ≤ x0 ∧ x0 ≤ 3) ∧ True) → (True) → (True) → ((τ.1 67 0).toInt = x0 ∧ True) → Q (some (.int (Int32.ofInt (-1)))) τ)
    : Ok 27 130 39 [.ref 67, .ref 31, v2] [] σ Q := by
  refine an_seg (B := pm_B) (F := []) (T := []) (S := []) (fun _ h => absurd h List.not_mem_nil) (k := 27) (d := 129) (cs := [47]) 8 39 1 [(0, 0, 3)] [(67, (1, 0, 0), (0, 0, 0))] [(2, 67, 0), (2, 31, 0), (5, 0, 0)] [] [(47, [(2, 67, 0), (2, 31, 0), (5, 0, 0)], [(2, 69, 0), (2, 31, 0)], [(0, 0, 0)], [], [], [(67, (1, 0, 0), (0, 0, 0))]),
    (9999, [], [(1, 0, (-1))], [(0, 1, 3)], [], [], [(67, (1, 0, 0), (0, 0, 0))])] (by decide +kernel) (ρ0 := (fun s => [x0].getD s 0)) hB eF eC ⟨rfl, ⟨rfl, ⟨hv2, trivial⟩⟩⟩ trivial ?_
  refine List.forall_mem_cons.mpr ⟨?_, List.forall_mem_cons.mpr ⟨?_, fun _ h => absurd h List.not_mem_nil⟩⟩
  · intro ρ τ Lc stc hx g1 g2 g3 g4 g5 g6 g7 g8
    have e0 : ρ 0 = x0 := hx 0 (by decide)
    subst e0
    have g7 := g7 (by decide)
    match Lc, stc, g7, g8 with
    | [v0, v1, v2], [w0, w1], ⟨hv0, hv1, hv2, _⟩, ⟨hw0, hw1, _⟩ =>
      cases hv0
      cases hv1
      cases hw0
      cases hw1
      exact l0 τ ρ v2 hv2 g1 g2 g3 g4 g5 g6
  · intro ρ τ Lc stc hx g1 g2 g3 g4 g5 g6 g7 g8
    have e0 : ρ 0 = x0 := hx 0 (by decide)
    subst e0
    match stc, g8 with
    | [_], ⟨h, _⟩ => cases h; exact l1 τ ρ g1 g2 g3 g4 g5 g6
set_option maxRecDepth 100000 in
theorem pz_r48 {σ : pm_S} {Q : Option Value → pm_S → Prop} (x0 : Int) (v2 : Value) (hv2 : v2.category = 1) (hB : an_GB pm_B σ) (eF : (0 ≤ x0 ∧ x0 ≤ 16) ∧ True) (eC : (σ.1 31 0).toInt = x0 ∧ True)
    (l0 : ∀ (τ : pm_S) (y : Nat → Int), an_GB pm_B τ → FQ [] σ τ → ((0 ≤ x0 ∧ x0 ≤ 16) ∧ True) → (True) → (True) → (True) → Q (some (.int (Int32.ofInt (x0)))) τ)
    : Ok 27 130 48 [.ref 67, .ref 31, v2] [] σ Q := by
  refine an_seg (B := pm_B) (F := []) (T := []) (S := []) (fun _ h => absurd h List.not_mem_nil) (k := 27) (d := 129) (cs := []) 5 48 1 [(0, 0, 16)] [(31, (1, 0, 0), (0, 0, 0))] [(2, 67, 0), (2, 31, 0), (5, 0, 0)] [] [(9999, [], [(0, 0, 0)], [(0, 0, 16)], [], [], [])] (by decide +kernel) (ρ0 := (fun s => [x0].getD s 0)) hB eF eC ⟨rfl, ⟨rfl, ⟨hv2, trivial⟩⟩⟩ trivial ?_
  refine List.forall_mem_cons.mpr ⟨?_, fun _ h => absurd h List.not_mem_nil⟩
  · intro ρ τ Lc stc hx g1 g2 g3 g4 g5 g6 g7 g8
    have e0 : ρ 0 = x0 := hx 0 (by decide)
    subst e0
    match stc, g8 with
    | [_], ⟨h, _⟩ => cases h; exact l0 τ ρ g1 g2 g3 g4 g5 g6
