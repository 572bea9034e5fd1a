/-! a Sunday but its rounds, the class: pieces -/
set_option maxRecDepth 100000 in
theorem pf_h0 {σ : pm_S} {Q : Option Value → pm_S → Prop} (x0 x1 : Int)  (hB : an_GB pm_B σ) (eF : (0 ≤ x0 ∧ x0 ≤ 29) ∧ (0 ≤ x1 ∧ x1 ≤ 30) ∧ True) (eC : (σ.1 13 0).toInt = x1 ∧ True)
    (l0 : ∀ (τ : pm_S) (y : Nat → Int), an_GB pm_B τ → FQ [] σ τ → ((0 ≤ x0 ∧ x0 ≤ 29) ∧ (0 ≤ x1 ∧ x1 ≤ 30) ∧ True) → (True) → (True) → ((τ.1 13 0).toInt = x1 ∧ True) → Ok 1 2 5 [.ref 13, .int (Int32.ofInt (x0))] [.int (Int32.ofInt (x1)), .int (Int32.ofInt (x0))] τ Q)
    : Ok 1 2 0 [.ref 13, .int (Int32.ofInt (x0))] [] σ Q := by
  refine an_seg (B := pm_B) (F := []) (T := []) (S := []) (fun _ h => absurd h List.not_mem_nil) (k := 1) (d := 1) (cs := [5]) 7 0 2 [(0, 0, 29), (1, 0, 30)] [(13, (1, 0, 0), (0, 1, 0))] [(2, 13, 0), (0, 0, 0)] [] [(5, [(2, 13, 0), (0, 0, 0)], [(0, 1, 0), (0, 0, 0)], [(0, 0, 29), (1, 0, 30)], [], [], [(13, (1, 0, 0), (0, 1, 0))])] (by decide +kernel) (ρ0 := (fun s => [x0, x1].getD s 0)) hB eF eC ⟨rfl, ⟨rfl, trivial⟩⟩ trivial ?_
  refine List.forall_mem_cons.mpr ⟨?_, fun _ h => absurd h List.not_mem_nil⟩
  · intro ρ τ Lc stc hx g1 g2 g3 g4 g5 g6 g7 g8
    have e0 : ρ 0 = x0 := hx 0 (by decide)
    have e1 : ρ 1 = x1 := hx 1 (by decide)
    subst e0
    subst e1
    have g7 := g7 (by decide)
    match Lc, stc, g7, g8 with
    | [v0, v1], [w0, w1], ⟨hv0, hv1, _⟩, ⟨hw0, hw1, _⟩ =>
      cases hv0
      cases hv1
      cases hw0
      cases hw1
      exact l0 τ ρ  g1 g2 g3 g4 g5 g6
set_option maxRecDepth 100000 in
theorem pf_h6 {σ : pm_S} {Q : Option Value → pm_S → Prop} (x0 : Int)  (hB : an_GB pm_B σ) (eF : (0 ≤ x0 ∧ x0 ≤ 29) ∧ True)
    (l0 : ∀ (τ : pm_S) (y : Nat → Int), an_GB pm_B τ → FQ [] σ τ → ((0 ≤ x0 ∧ x0 ≤ 29) ∧ True) → (True) → (True) → (True) → Q (some (.int (Int32.ofInt 1))) τ)
    : Ok 1 2 6 [.ref 13, .int (Int32.ofInt (x0))] [] σ Q := by
  refine an_seg (B := pm_B) (F := []) (T := []) (S := []) (fun _ h => absurd h List.not_mem_nil) (k := 1) (d := 1) (cs := []) 5 6 1 [(0, 0, 29)] [] [(2, 13, 0), (0, 0, 0)] [] [(9999, [], [(1, 0, 1)], [(0, 0, 29)], [], [], [])] (by decide +kernel) (ρ0 := (fun s => [x0].getD s 0)) hB eF trivial ⟨rfl, ⟨rfl, trivial⟩⟩ trivial ?_
  refine List.forall_mem_cons.mpr ⟨?_, fun _ h => absurd h List.not_mem_nil⟩
  · intro ρ τ Lc stc hx g1 g2 g3 g4 g5 g6 g7 g8
    have e0 : ρ 0 = x0 := hx 0 (by decide)
    subst e0
    match stc, g8 with
    | [_], ⟨h, _⟩ => cases h; exact l0 τ ρ g1 g2 g3 g4 g5 g6
set_option maxRecDepth 100000 in
theorem pf_h8 {σ : pm_S} {Q : Option Value → pm_S → Prop} (x0 : Int)  (hB : an_GB pm_B σ) (eF : (0 ≤ x0 ∧ x0 ≤ 29) ∧ True)
    (l0 : ∀ (τ : pm_S) (y : Nat → Int), an_GB pm_B τ → FQ [] σ τ → ((0 ≤ x0 ∧ x0 ≤ 29) ∧ True) → (True) → (True) → (True) → Q (some (.int (Int32.ofInt 0))) τ)
    : Ok 1 2 8 [.ref 13, .int (Int32.ofInt (x0))] [] σ Q := by
  refine an_seg (B := pm_B) (F := []) (T := []) (S := []) (fun _ h => absurd h List.not_mem_nil) (k := 1) (d := 1) (cs := []) 4 8 1 [(0, 0, 29)] [] [(2, 13, 0), (0, 0, 0)] [] [(9999, [], [(1, 0, 0)], [(0, 0, 29)], [], [], [])] (by decide +kernel) (ρ0 := (fun s => [x0].getD s 0)) hB eF trivial ⟨rfl, ⟨rfl, trivial⟩⟩ trivial ?_
  refine List.forall_mem_cons.mpr ⟨?_, fun _ h => absurd h List.not_mem_nil⟩
  · intro ρ τ Lc stc hx g1 g2 g3 g4 g5 g6 g7 g8
    have e0 : ρ 0 = x0 := hx 0 (by decide)
    subst e0
    match stc, g8 with
    | [_], ⟨h, _⟩ => cases h; exact l0 τ ρ g1 g2 g3 g4 g5 g6
set_option maxRecDepth 100000 in
theorem pf_i0 {σ : pm_S} {Q : Option Value → pm_S → Prop} (x0 x1 : Int)  (hB : an_GB pm_B σ) (eF : (0 ≤ x0 ∧ x0 ≤ 29) ∧ (0 ≤ x1 ∧ x1 ≤ 30) ∧ True) (eC : (σ.1 13 0).toInt = x1 ∧ True)
    (l0 : ∀ (τ : pm_S) (y : Nat → Int), an_GB pm_B τ → FQ [] σ τ → ((0 ≤ x0 ∧ x0 ≤ 29) ∧ (0 ≤ x1 ∧ x1 ≤ 30) ∧ True) → (True) → (True) → ((τ.1 13 0).toInt = x1 ∧ True) → Ok 3 2 5 [.ref 13, .int (Int32.ofInt (x0))] [.int (Int32.ofInt (x1)), .int (Int32.ofInt (x0))] τ Q)
    : Ok 3 2 0 [.ref 13, .int (Int32.ofInt (x0))] [] σ Q := by
  refine an_seg (B := pm_B) (F := []) (T := []) (S := []) (fun _ h => absurd h List.not_mem_nil) (k := 3) (d := 1) (cs := [5]) 7 0 2 [(0, 0, 29), (1, 0, 30)] [(13, (1, 0, 0), (0, 1, 0))] [(2, 13, 0), (0, 0, 0)] [] [(5, [(2, 13, 0), (0, 0, 0)], [(0, 1, 0), (0, 0, 0)], [(0, 0, 29), (1, 0, 30)], [], [], [(13, (1, 0, 0), (0, 1, 0))])] (by decide +kernel) (ρ0 := (fun s => [x0, x1].getD s 0)) hB eF eC ⟨rfl, ⟨rfl, trivial⟩⟩ trivial ?_
  refine List.forall_mem_cons.mpr ⟨?_, fun _ h => absurd h List.not_mem_nil⟩
  · intro ρ τ Lc stc hx g1 g2 g3 g4 g5 g6 g7 g8
    have e0 : ρ 0 = x0 := hx 0 (by decide)
    have e1 : ρ 1 = x1 := hx 1 (by decide)
    subst e0
    subst e1
    have g7 := g7 (by decide)
    match Lc, stc, g7, g8 with
    | [v0, v1], [w0, w1], ⟨hv0, hv1, _⟩, ⟨hw0, hw1, _⟩ =>
      cases hv0
      cases hv1
      cases hw0
      cases hw1
      exact l0 τ ρ  g1 g2 g3 g4 g5 g6
set_option maxRecDepth 100000 in
theorem pf_i6 {σ : pm_S} {Q : Option Value → pm_S → Prop} (x0 x1 : Int)  (hB : an_GB pm_B σ) (eF : (0 ≤ x0 ∧ x0 ≤ 29) ∧ ((-2147483648) ≤ x1 ∧ x1 ≤ 2147483647) ∧ True) (eC : (σ.1 20 (x0).toNat).toInt = x1 ∧ True)
    (l0 : ∀ (τ : pm_S) (y : Nat → Int), an_GB pm_B τ → FQ [] σ τ → ((0 ≤ x0 ∧ x0 ≤ 29) ∧ ((-2147483648) ≤ x1 ∧ x1 ≤ 2147483647) ∧ True) → (x1 ≠ 0 ∧ True) → (True) → ((τ.1 20 (x0).toNat).toInt = x1 ∧ True) → Q (some (.int (Int32.ofInt 0))) τ)
    (l1 : ∀ (τ : pm_S) (y : Nat → Int), an_GB pm_B τ → FQ [] σ τ → ((0 ≤ x0 ∧ x0 ≤ 29) ∧ (0 ≤ x1 ∧ x1 ≤ 0) ∧ True) → (True) → (True) → ((τ.1 20 (x0).toNat).toInt = x1 ∧ True) → Q (some (.int (Int32.ofInt 1))) τ)
    : Ok 3 2 6 [.ref 13, .int (Int32.ofInt (x0))] [] σ Q := by
  refine an_seg (B := pm_B) (F := []) (T := [20]) (S := []) (fun _ h => absurd h List.not_mem_nil) (k := 3) (d := 1) (cs := []) 10 6 2 [(0, 0, 29), (1, (-2147483648), 2147483647)] [(20, (0, 0, 0), (0, 1, 0))] [(2, 13, 0), (0, 0, 0)] [] [(9999, [], [(1, 0, 0)], [(0, 0, 29), (1, (-2147483648), 2147483647)], [(3, 1, 1, 0)], [], [(20, (0, 0, 0), (0, 1, 0))]),
    (9999, [], [(1, 0, 1)], [(0, 0, 29), (1, 0, 0)], [], [], [(20, (0, 0, 0), (0, 1, 0))])] (by decide +kernel) (ρ0 := (fun s => [x0, x1].getD s 0)) hB eF eC ⟨rfl, ⟨rfl, trivial⟩⟩ trivial ?_
  refine List.forall_mem_cons.mpr ⟨?_, List.forall_mem_cons.mpr ⟨?_, fun _ h => absurd h List.not_mem_nil⟩⟩
  · intro ρ τ Lc stc hx g1 g2 g3 g4 g5 g6 g7 g8
    have e0 : ρ 0 = x0 := hx 0 (by decide)
    have e1 : ρ 1 = x1 := hx 1 (by decide)
    subst e0
    subst e1
    match stc, g8 with
    | [_], ⟨h, _⟩ => cases h; exact l0 τ ρ g1 g2 g3 g4 g5 g6
  · intro ρ τ Lc stc hx g1 g2 g3 g4 g5 g6 g7 g8
    have e0 : ρ 0 = x0 := hx 0 (by decide)
    have e1 : ρ 1 = x1 := hx 1 (by decide)
    subst e0
    subst e1
    match stc, g8 with
    | [_], ⟨h, _⟩ => cases h; exact l1 τ ρ g1 g2 g3 g4 g5 g6
set_option maxRecDepth 100000 in
theorem pf_i13 {σ : pm_S} {Q : Option Value → pm_S → Prop} (x0 : Int)  (hB : an_GB pm_B σ) (eF : (0 ≤ x0 ∧ x0 ≤ 29) ∧ True)
    (l0 : ∀ (τ : pm_S) (y : Nat → Int), an_GB pm_B τ → FQ [] σ τ → ((0 ≤ x0 ∧ x0 ≤ 29) ∧ True) → (True) → (True) → (True) → Q (some (.int (Int32.ofInt 0))) τ)
    : Ok 3 2 13 [.ref 13, .int (Int32.ofInt (x0))] [] σ Q := by
  refine an_seg (B := pm_B) (F := []) (T := []) (S := []) (fun _ h => absurd h List.not_mem_nil) (k := 3) (d := 1) (cs := []) 4 13 1 [(0, 0, 29)] [] [(2, 13, 0), (0, 0, 0)] [] [(9999, [], [(1, 0, 0)], [(0, 0, 29)], [], [], [])] (by decide +kernel) (ρ0 := (fun s => [x0].getD s 0)) hB eF trivial ⟨rfl, ⟨rfl, trivial⟩⟩ trivial ?_
  refine List.forall_mem_cons.mpr ⟨?_, fun _ h => absurd h List.not_mem_nil⟩
  · intro ρ τ Lc stc hx g1 g2 g3 g4 g5 g6 g7 g8
    have e0 : ρ 0 = x0 := hx 0 (by decide)
    subst e0
    match stc, g8 with
    | [_], ⟨h, _⟩ => cases h; exact l0 τ ρ g1 g2 g3 g4 g5 g6
set_option maxRecDepth 100000 in
theorem pf_c0 {σ : pm_S} {Q : Option Value → pm_S → Prop} (x0 x1 x2 : Int)  (hB : an_GB pm_B σ) (eF : (0 ≤ x0 ∧ x0 ≤ 29) ∧ ((-2147483648) ≤ x1 ∧ x1 ≤ 2147483647) ∧ (1 ≤ x2 ∧ x2 ≤ 2) ∧ True)
    (l0 : ∀ (τ : pm_S) (y : Nat → Int), an_GB pm_B τ → FQ [] σ τ → ((0 ≤ x0 ∧ x0 ≤ 29) ∧ ((-2147483648) ≤ x1 ∧ x1 ≤ 2147483647) ∧ (1 ≤ x2 ∧ x2 ≤ 2) ∧ True) → (True) → (True) → (True) → Ok 4 4 2 [.ref 13, .int (Int32.ofInt (x0)), .int (Int32.ofInt (x1)), .int (Int32.ofInt (x2))] [.int (Int32.ofInt (x0)), .ref 13] τ Q)
    : Ok 4 4 0 [.ref 13, .int (Int32.ofInt (x0)), .int (Int32.ofInt (x1)), .int (Int32.ofInt (x2))] [] σ Q := by
  refine an_seg (B := pm_B) (F := []) (T := []) (S := []) (fun _ h => absurd h List.not_mem_nil) (k := 4) (d := 3) (cs := [2]) 4 0 3 [(0, 0, 29), (1, (-2147483648), 2147483647), (2, 1, 2)] [] [(2, 13, 0), (0, 0, 0), (0, 1, 0), (0, 2, 0)] [] [(2, [(2, 13, 0), (0, 0, 0), (0, 1, 0), (0, 2, 0)], [(0, 0, 0), (2, 13, 0)], [(0, 0, 29), (1, (-2147483648), 2147483647), (2, 1, 2)], [], [], [])] (by decide +kernel) (ρ0 := (fun s => [x0, x1, x2].getD s 0)) hB eF trivial ⟨rfl, ⟨rfl, ⟨rfl, ⟨rfl, trivial⟩⟩⟩⟩ trivial ?_
  refine List.forall_mem_cons.mpr ⟨?_, fun _ h => absurd h List.not_mem_nil⟩
  · intro ρ τ Lc stc hx g1 g2 g3 g4 g5 g6 g7 g8
    have e0 : ρ 0 = x0 := hx 0 (by decide)
    have e1 : ρ 1 = x1 := hx 1 (by decide)
    have e2 : ρ 2 = x2 := hx 2 (by decide)
    subst e0
    subst e1
    subst e2
    have g7 := g7 (by decide)
    match Lc, stc, g7, g8 with
    | [v0, v1, v2, v3], [w0, w1], ⟨hv0, hv1, hv2, hv3, _⟩, ⟨hw0, hw1, _⟩ =>
      cases hv0
      cases hv1
      cases hv2
      cases hv3
      cases hw0
      cases hw1
      exact l0 τ ρ  g1 g2 g3 g4 g5 g6
set_option maxRecDepth 100000 in
theorem pf_c3 {σ : pm_S} {Q : Option Value → pm_S → Prop} (x0 x1 x2 x3 : Int)  (hB : an_GB pm_B σ) (eF : (0 ≤ x0 ∧ x0 ≤ 29) ∧ ((-2147483648) ≤ x1 ∧ x1 ≤ 2147483647) ∧ (1 ≤ x2 ∧ x2 ≤ 2) ∧ (0 ≤ x3 ∧ x3 ≤ 1) ∧ True)
    (l0 : ∀ (τ : pm_S) (y : Nat → Int), an_GB pm_B τ → FQ [] σ τ → ((0 ≤ x0 ∧ x0 ≤ 29) ∧ ((-2147483648) ≤ x1 ∧ x1 ≤ 2147483647) ∧ (1 ≤ x2 ∧ x2 ≤ 2) ∧ (0 ≤ x3 ∧ x3 ≤ 0) ∧ True) → (True) → (True) → (True) → Q none τ)
    (l1 : ∀ (τ : pm_S) (y : Nat → Int), an_GB pm_B τ → FQ [] σ τ → ((0 ≤ x0 ∧ x0 ≤ 29) ∧ ((-2147483648) ≤ x1 ∧ x1 ≤ 2147483647) ∧ (1 ≤ x2 ∧ x2 ≤ 2) ∧ (1 ≤ x3 ∧ x3 ≤ 1) ∧ True) → (True) → (True) → (True) → Ok 4 4 8 [.ref 13, .int (Int32.ofInt (x0)), .int (Int32.ofInt (x1)), .int (Int32.ofInt (x2))] [.int (Int32.ofInt (x1)), .int (Int32.ofInt (x0)), .ref 19] τ Q)
    : Ok 4 4 3 [.ref 13, .int (Int32.ofInt (x0)), .int (Int32.ofInt (x1)), .int (Int32.ofInt (x2))] [.int (Int32.ofInt (x3))] σ Q := by
  refine an_seg (B := pm_B) (F := []) (T := []) (S := []) (fun _ h => absurd h List.not_mem_nil) (k := 4) (d := 3) (cs := [8]) 7 3 4 [(0, 0, 29), (1, (-2147483648), 2147483647), (2, 1, 2), (3, 0, 1)] [] [(2, 13, 0), (0, 0, 0), (0, 1, 0), (0, 2, 0)] [(0, 3, 0)] [(9999, [], [], [(0, 0, 29), (1, (-2147483648), 2147483647), (2, 1, 2), (3, 0, 0)], [], [], []),
    (8, [(2, 13, 0), (0, 0, 0), (0, 1, 0), (0, 2, 0)], [(0, 1, 0), (0, 0, 0), (2, 19, 0)], [(0, 0, 29), (1, (-2147483648), 2147483647), (2, 1, 2), (3, 1, 1)], [], [], [])] (by decide +kernel) (ρ0 := (fun s => [x0, x1, x2, x3].getD s 0)) hB eF trivial ⟨rfl, ⟨rfl, ⟨rfl, ⟨rfl, trivial⟩⟩⟩⟩ ⟨rfl, trivial⟩ ?_
  refine List.forall_mem_cons.mpr ⟨?_, List.forall_mem_cons.mpr ⟨?_, fun _ h => absurd h List.not_mem_nil⟩⟩
  · intro ρ τ Lc stc hx g1 g2 g3 g4 g5 g6 g7 g8
    have e0 : ρ 0 = x0 := hx 0 (by decide)
    have e1 : ρ 1 = x1 := hx 1 (by decide)
    have e2 : ρ 2 = x2 := hx 2 (by decide)
    have e3 : ρ 3 = x3 := hx 3 (by decide)
    subst e0
    subst e1
    subst e2
    subst e3
    match stc, g8 with
    | [], _ => exact l0 τ ρ g1 g2 g3 g4 g5 g6
  · intro ρ τ Lc stc hx g1 g2 g3 g4 g5 g6 g7 g8
    have e0 : ρ 0 = x0 := hx 0 (by decide)
    have e1 : ρ 1 = x1 := hx 1 (by decide)
    have e2 : ρ 2 = x2 := hx 2 (by decide)
    have e3 : ρ 3 = x3 := hx 3 (by decide)
    subst e0
    subst e1
    subst e2
    subst e3
    have g7 := g7 (by decide)
    match Lc, stc, g7, g8 with
    | [v0, v1, v2, v3], [w0, w1, w2], ⟨hv0, hv1, hv2, hv3, _⟩, ⟨hw0, hw1, hw2, _⟩ =>
      cases hv0
      cases hv1
      cases hv2
      cases hv3
      cases hw0
      cases hw1
      cases hw2
      exact l1 τ ρ  g1 g2 g3 g4 g5 g6
set_option maxRecDepth 100000 in
theorem pf_c9 {σ : pm_S} {Q : Option Value → pm_S → Prop} (x0 x1 x2 : Int)  (hB : an_GB pm_B σ) (eF : (0 ≤ x0 ∧ x0 ≤ 29) ∧ ((-2147483648) ≤ x1 ∧ x1 ≤ 2147483647) ∧ (1 ≤ x2 ∧ x2 ≤ 2) ∧ True)
    (l0 : ∀ (τ : pm_S) (y : Nat → Int), an_GB pm_B τ → FQ [] σ τ → ((0 ≤ x0 ∧ x0 ≤ 29) ∧ ((-2147483648) ≤ x1 ∧ x1 ≤ 2147483647) ∧ (1 ≤ x2 ∧ x2 ≤ 2) ∧ True) → (True) → (True) → (True) → Ok 4 4 13 [.ref 13, .int (Int32.ofInt (x0)), .int (Int32.ofInt (x1)), .int (Int32.ofInt (x2))] [.int (Int32.ofInt (x2)), .int (Int32.ofInt (x0)), .ref 20] τ Q)
    : Ok 4 4 9 [.ref 13, .int (Int32.ofInt (x0)), .int (Int32.ofInt (x1)), .int (Int32.ofInt (x2))] [] σ Q := by
  refine an_seg (B := pm_B) (F := []) (T := []) (S := []) (fun _ h => absurd h List.not_mem_nil) (k := 4) (d := 3) (cs := [13]) 6 9 3 [(0, 0, 29), (1, (-2147483648), 2147483647), (2, 1, 2)] [] [(2, 13, 0), (0, 0, 0), (0, 1, 0), (0, 2, 0)] [] [(13, [(2, 13, 0), (0, 0, 0), (0, 1, 0), (0, 2, 0)], [(0, 2, 0), (0, 0, 0), (2, 20, 0)], [(0, 0, 29), (1, (-2147483648), 2147483647), (2, 1, 2)], [], [], [])] (by decide +kernel) (ρ0 := (fun s => [x0, x1, x2].getD s 0)) hB eF trivial ⟨rfl, ⟨rfl, ⟨rfl, ⟨rfl, trivial⟩⟩⟩⟩ trivial ?_
  refine List.forall_mem_cons.mpr ⟨?_, fun _ h => absurd h List.not_mem_nil⟩
  · intro ρ τ Lc stc hx g1 g2 g3 g4 g5 g6 g7 g8
    have e0 : ρ 0 = x0 := hx 0 (by decide)
    have e1 : ρ 1 = x1 := hx 1 (by decide)
    have e2 : ρ 2 = x2 := hx 2 (by decide)
    subst e0
    subst e1
    subst e2
    have g7 := g7 (by decide)
    match Lc, stc, g7, g8 with
    | [v0, v1, v2, v3], [w0, w1, w2], ⟨hv0, hv1, hv2, hv3, _⟩, ⟨hw0, hw1, hw2, _⟩ =>
      cases hv0
      cases hv1
      cases hv2
      cases hv3
      cases hw0
      cases hw1
      cases hw2
      exact l0 τ ρ  g1 g2 g3 g4 g5 g6
set_option maxRecDepth 100000 in
theorem pf_c14 {σ : pm_S} {Q : Option Value → pm_S → Prop} (x0 x1 x2 : Int)  (hB : an_GB pm_B σ) (eF : (0 ≤ x0 ∧ x0 ≤ 29) ∧ ((-2147483648) ≤ x1 ∧ x1 ≤ 2147483647) ∧ (1 ≤ x2 ∧ x2 ≤ 2) ∧ True)
    (l0 : ∀ (τ : pm_S) (y : Nat → Int), an_GB pm_B τ → FQ [] σ τ → ((0 ≤ x0 ∧ x0 ≤ 29) ∧ ((-2147483648) ≤ x1 ∧ x1 ≤ 2147483647) ∧ (1 ≤ x2 ∧ x2 ≤ 2) ∧ True) → (True) → (True) → (True) → Q none τ)
    : Ok 4 4 14 [.ref 13, .int (Int32.ofInt (x0)), .int (Int32.ofInt (x1)), .int (Int32.ofInt (x2))] [] σ Q := by
  refine an_seg (B := pm_B) (F := []) (T := []) (S := []) (fun _ h => absurd h List.not_mem_nil) (k := 4) (d := 3) (cs := []) 3 14 3 [(0, 0, 29), (1, (-2147483648), 2147483647), (2, 1, 2)] [] [(2, 13, 0), (0, 0, 0), (0, 1, 0), (0, 2, 0)] [] [(9999, [], [], [(0, 0, 29), (1, (-2147483648), 2147483647), (2, 1, 2)], [], [], [])] (by decide +kernel) (ρ0 := (fun s => [x0, x1, x2].getD s 0)) hB eF trivial ⟨rfl, ⟨rfl, ⟨rfl, ⟨rfl, trivial⟩⟩⟩⟩ trivial ?_
  refine List.forall_mem_cons.mpr ⟨?_, fun _ h => absurd h List.not_mem_nil⟩
  · intro ρ τ Lc stc hx g1 g2 g3 g4 g5 g6 g7 g8
    have e0 : ρ 0 = x0 := hx 0 (by decide)
    have e1 : ρ 1 = x1 := hx 1 (by decide)
    have e2 : ρ 2 = x2 := hx 2 (by decide)
    subst e0
    subst e1
    subst e2
    match stc, g8 with
    | [], _ => exact l0 τ ρ g1 g2 g3 g4 g5 g6
set_option maxRecDepth 100000 in
theorem pf_m0 {σ : pm_S} {Q : Option Value → pm_S → Prop} (x0 x1 : Int)  (hB : an_GB pm_B σ) (eF : (0 ≤ x0 ∧ x0 ≤ 9) ∧ (0 ≤ x1 ∧ x1 ≤ 9) ∧ True)
    (l0 : ∀ (τ : pm_S) (y : Nat → Int), an_GB pm_B τ → FQ [] σ τ → ((0 ≤ x0 ∧ x0 ≤ 9) ∧ (0 ≤ x1 ∧ x1 ≤ 9) ∧ True) → (True) → (True) → (True) → Ok 85 4 2 [.ref 3, .int (Int32.ofInt (x0)), .int (Int32.ofInt (x1))] [.int (Int32.ofInt (x0)), .ref 3] τ Q)
    : Ok 85 4 0 [.ref 3, .int (Int32.ofInt (x0)), .int (Int32.ofInt (x1))] [] σ Q := by
  refine an_seg (B := pm_B) (F := []) (T := []) (S := []) (fun _ h => absurd h List.not_mem_nil) (k := 85) (d := 3) (cs := [2]) 4 0 2 [(0, 0, 9), (1, 0, 9)] [] [(2, 3, 0), (0, 0, 0), (0, 1, 0)] [] [(2, [(2, 3, 0), (0, 0, 0), (0, 1, 0)], [(0, 0, 0), (2, 3, 0)], [(0, 0, 9), (1, 0, 9)], [], [], [])] (by decide +kernel) (ρ0 := (fun s => [x0, x1].getD s 0)) hB eF trivial ⟨rfl, ⟨rfl, ⟨rfl, trivial⟩⟩⟩ trivial ?_
  refine List.forall_mem_cons.mpr ⟨?_, fun _ h => absurd h List.not_mem_nil⟩
  · intro ρ τ Lc stc hx g1 g2 g3 g4 g5 g6 g7 g8
    have e0 : ρ 0 = x0 := hx 0 (by decide)
    have e1 : ρ 1 = x1 := hx 1 (by decide)
    subst e0
    subst e1
    have g7 := g7 (by decide)
    match Lc, stc, g7, g8 with
    | [v0, v1, v2], [w0, w1], ⟨hv0, hv1, hv2, _⟩, ⟨hw0, hw1, _⟩ =>
      cases hv0
      cases hv1
      cases hv2
      cases hw0
      cases hw1
      exact l0 τ ρ  g1 g2 g3 g4 g5 g6
set_option maxRecDepth 100000 in
theorem pf_m3 {σ : pm_S} {Q : Option Value → pm_S → Prop} (x0 x1 x2 : Int)  (hB : an_GB pm_B σ) (eF : (0 ≤ x0 ∧ x0 ≤ 9) ∧ (0 ≤ x1 ∧ x1 ≤ 9) ∧ (0 ≤ x2 ∧ x2 ≤ 1) ∧ True)
    (l0 : ∀ (τ : pm_S) (y : Nat → Int), an_GB pm_B τ → FQ [] σ τ → ((0 ≤ x0 ∧ x0 ≤ 9) ∧ (0 ≤ x1 ∧ x1 ≤ 9) ∧ (0 ≤ x2 ∧ x2 ≤ 0) ∧ True) → (True) → (True) → (True) → Q (some (.int (Int32.ofInt 0))) τ)
    (l1 : ∀ (τ : pm_S) (y : Nat → Int), an_GB pm_B τ → FQ [] σ τ → ((0 ≤ x0 ∧ x0 ≤ 9) ∧ (0 ≤ x1 ∧ x1 ≤ 9) ∧ (1 ≤ x2 ∧ x2 ≤ 1) ∧ True) → (True) → (True) → (True) → Ok 85 4 6 [.ref 3, .int (Int32.ofInt (x0)), .int (Int32.ofInt (x1))] [.int (Int32.ofInt (x1)), .ref 3] τ Q)
    : Ok 85 4 3 [.ref 3, .int (Int32.ofInt (x0)), .int (Int32.ofInt (x1))] [.int (Int32.ofInt (x2))] σ Q := by
  refine an_seg (B := pm_B) (F := []) (T := []) (S := []) (fun _ h => absurd h List.not_mem_nil) (k := 85) (d := 3) (cs := [6]) 5 3 3 [(0, 0, 9), (1, 0, 9), (2, 0, 1)] [] [(2, 3, 0), (0, 0, 0), (0, 1, 0)] [(0, 2, 0)] [(9999, [], [(1, 0, 0)], [(0, 0, 9), (1, 0, 9), (2, 0, 0)], [], [], []),
    (6, [(2, 3, 0), (0, 0, 0), (0, 1, 0)], [(0, 1, 0), (2, 3, 0)], [(0, 0, 9), (1, 0, 9), (2, 1, 1)], [], [], [])] (by decide +kernel) (ρ0 := (fun s => [x0, x1, x2].getD s 0)) hB eF trivial ⟨rfl, ⟨rfl, ⟨rfl, trivial⟩⟩⟩ ⟨rfl, trivial⟩ ?_
  refine List.forall_mem_cons.mpr ⟨?_, List.forall_mem_cons.mpr ⟨?_, fun _ h => absurd h List.not_mem_nil⟩⟩
  · intro ρ τ Lc stc hx g1 g2 g3 g4 g5 g6 g7 g8
    have e0 : ρ 0 = x0 := hx 0 (by decide)
    have e1 : ρ 1 = x1 := hx 1 (by decide)
    have e2 : ρ 2 = x2 := hx 2 (by decide)
    subst e0
    subst e1
    subst e2
    match stc, g8 with
    | [_], ⟨h, _⟩ => cases h; exact l0 τ ρ g1 g2 g3 g4 g5 g6
  · intro ρ τ Lc stc hx g1 g2 g3 g4 g5 g6 g7 g8
    have e0 : ρ 0 = x0 := hx 0 (by decide)
    have e1 : ρ 1 = x1 := hx 1 (by decide)
    have e2 : ρ 2 = x2 := hx 2 (by decide)
    subst e0
    subst e1
    subst e2
    have g7 := g7 (by decide)
    match Lc, stc, g7, g8 with
    | [v0, v1, v2], [w0, w1], ⟨hv0, hv1, hv2, _⟩, ⟨hw0, hw1, _⟩ =>
      cases hv0
      cases hv1
      cases hv2
      cases hw0
      cases hw1
      exact l1 τ ρ  g1 g2 g3 g4 g5 g6
set_option maxRecDepth 100000 in
theorem pf_m7 {σ : pm_S} {Q : Option Value → pm_S → Prop} (x0 x1 x2 : Int)  (hB : an_GB pm_B σ) (eF : (0 ≤ x0 ∧ x0 ≤ 9) ∧ (0 ≤ x1 ∧ x1 ≤ 9) ∧ (0 ≤ x2 ∧ x2 ≤ 1) ∧ True)
    (l0 : ∀ (τ : pm_S) (y : Nat → Int), an_GB pm_B τ → FQ [] σ τ → ((0 ≤ x0 ∧ x0 ≤ 9) ∧ (0 ≤ x1 ∧ x1 ≤ 9) ∧ (0 ≤ x2 ∧ x2 ≤ 0) ∧ True) → (True) → (True) → (True) → Q (some (.int (Int32.ofInt 0))) τ)
    (l1 : ∀ (τ : pm_S) (y : Nat → Int), an_GB pm_B τ → FQ [] σ τ → ((0 ≤ x0 ∧ x0 ≤ 9) ∧ (0 ≤ x1 ∧ x1 ≤ 9) ∧ (1 ≤ x2 ∧ x2 ≤ 1) ∧ (0 ≤ y 3 ∧ y 3 ≤ 90) ∧ (0 ≤ y 4 ∧ y 4 ≤ 99) ∧ True) → (True) → ((an_f 2 (Int32.ofInt (x0)) (Int32.ofInt (10))).toInt = y 3 ∧ (an_f 0 (Int32.ofInt (y 3)) (Int32.ofInt (x1))).toInt = y 4 ∧ True) → (True) → Ok 85 4 15 [.ref 3, .int (Int32.ofInt (x0)), .int (Int32.ofInt (x1))] [.int (Int32.ofInt (y 4)), .ref 5] τ Q)
    : Ok 85 4 7 [.ref 3, .int (Int32.ofInt (x0)), .int (Int32.ofInt (x1))] [.int (Int32.ofInt (x2))] σ Q := by
  refine an_seg (B := pm_B) (F := []) (T := []) (S := []) (fun _ h => absurd h List.not_mem_nil) (k := 85) (d := 3) (cs := [15]) 10 7 3 [(0, 0, 9), (1, 0, 9), (2, 0, 1)] [] [(2, 3, 0), (0, 0, 0), (0, 1, 0)] [(0, 2, 0)] [(9999, [], [(1, 0, 0)], [(0, 0, 9), (1, 0, 9), (2, 0, 0)], [], [], []),
    (15, [(2, 3, 0), (0, 0, 0), (0, 1, 0)], [(0, 4, 0), (2, 5, 0)], [(0, 0, 9), (1, 0, 9), (2, 1, 1), (3, 0, 90), (4, 0, 99)], [], [(2, (0, 0, 0), (1, 0, 10), 3), (0, (0, 3, 0), (0, 1, 0), 4)], [])] (by decide +kernel) (ρ0 := (fun s => [x0, x1, x2].getD s 0)) hB eF trivial ⟨rfl, ⟨rfl, ⟨rfl, trivial⟩⟩⟩ ⟨rfl, trivial⟩ ?_
  refine List.forall_mem_cons.mpr ⟨?_, List.forall_mem_cons.mpr ⟨?_, fun _ h => absurd h List.not_mem_nil⟩⟩
  · intro ρ τ Lc stc hx g1 g2 g3 g4 g5 g6 g7 g8
    have e0 : ρ 0 = x0 := hx 0 (by decide)
    have e1 : ρ 1 = x1 := hx 1 (by decide)
    have e2 : ρ 2 = x2 := hx 2 (by decide)
    subst e0
    subst e1
    subst e2
    match stc, g8 with
    | [_], ⟨h, _⟩ => cases h; exact l0 τ ρ g1 g2 g3 g4 g5 g6
  · intro ρ τ Lc stc hx g1 g2 g3 g4 g5 g6 g7 g8
    have e0 : ρ 0 = x0 := hx 0 (by decide)
    have e1 : ρ 1 = x1 := hx 1 (by decide)
    have e2 : ρ 2 = x2 := hx 2 (by decide)
    subst e0
    subst e1
    subst e2
    have g7 := g7 (by decide)
    match Lc, stc, g7, g8 with
    | [v0, v1, v2], [w0, w1], ⟨hv0, hv1, hv2, _⟩, ⟨hw0, hw1, _⟩ =>
      cases hv0
      cases hv1
      cases hv2
      cases hw0
      cases hw1
      exact l1 τ ρ  g1 g2 g3 g4 g5 g6
set_option maxRecDepth 100000 in
theorem pf_m16 {σ : pm_S} {Q : Option Value → pm_S → Prop} (x0 x1 x2 : Int)  (hB : an_GB pm_B σ) (eF : (0 ≤ x0 ∧ x0 ≤ 9) ∧ (0 ≤ x1 ∧ x1 ≤ 9) ∧ ((-2147483648) ≤ x2 ∧ x2 ≤ 2147483647) ∧ True)
    (l0 : ∀ (τ : pm_S) (y : Nat → Int), an_GB pm_B τ → FQ [] σ τ → ((0 ≤ x0 ∧ x0 ≤ 9) ∧ (0 ≤ x1 ∧ x1 ≤ 9) ∧ ((-2147483648) ≤ x2 ∧ x2 ≤ 2147483647) ∧ True) → (True) → (True) → (True) → Q (some (.int (Int32.ofInt (x2)))) τ)
    : Ok 85 4 16 [.ref 3, .int (Int32.ofInt (x0)), .int (Int32.ofInt (x1))] [.int (Int32.ofInt (x2))] σ Q := by
  refine an_seg (B := pm_B) (F := []) (T := []) (S := []) (fun _ h => absurd h List.not_mem_nil) (k := 85) (d := 3) (cs := []) 4 16 3 [(0, 0, 9), (1, 0, 9), (2, (-2147483648), 2147483647)] [] [(2, 3, 0), (0, 0, 0), (0, 1, 0)] [(0, 2, 0)] [(9999, [], [(0, 2, 0)], [(0, 0, 9), (1, 0, 9), (2, (-2147483648), 2147483647)], [], [], [])] (by decide +kernel) (ρ0 := (fun s => [x0, x1, x2].getD s 0)) hB eF trivial ⟨rfl, ⟨rfl, ⟨rfl, trivial⟩⟩⟩ ⟨rfl, trivial⟩ ?_
  refine List.forall_mem_cons.mpr ⟨?_, fun _ h => absurd h List.not_mem_nil⟩
  · intro ρ τ Lc stc hx g1 g2 g3 g4 g5 g6 g7 g8
    have e0 : ρ 0 = x0 := hx 0 (by decide)
    have e1 : ρ 1 = x1 := hx 1 (by decide)
    have e2 : ρ 2 = x2 := hx 2 (by decide)
    subst e0
    subst e1
    subst e2
    match stc, g8 with
    | [_], ⟨h, _⟩ => cases h; exact l0 τ ρ g1 g2 g3 g4 g5 g6
set_option maxRecDepth 100000 in
theorem pf_a0 {σ : pm_S} {Q : Option Value → pm_S → Prop} (x0 x1 : Int)  (hB : an_GB pm_B σ) (eF : (0 ≤ x0 ∧ x0 ≤ 9) ∧ (0 ≤ x1 ∧ x1 ≤ 9) ∧ True)
    (l0 : ∀ (τ : pm_S) (y : Nat → Int), an_GB pm_B τ → FQ [] σ τ → ((0 ≤ x0 ∧ x0 ≤ 9) ∧ (0 ≤ x1 ∧ x1 ≤ 9) ∧ True) → (True) → (True) → (True) → Ok 92 7 4 [.ref 74, .int (Int32.ofInt (x0)), .int (Int32.ofInt (x1))] [.int (Int32.ofInt (x1)), .ref 3] τ Q)
    : Ok 92 7 0 [.ref 74, .int (Int32.ofInt (x0)), .int (Int32.ofInt (x1))] [] σ Q := by
  refine an_seg (B := pm_B) (F := []) (T := []) (S := []) (fun _ h => absurd h List.not_mem_nil) (k := 92) (d := 6) (cs := [4]) 6 0 2 [(0, 0, 9), (1, 0, 9)] [] [(2, 74, 0), (0, 0, 0), (0, 1, 0)] [] [(4, [(2, 74, 0), (0, 0, 0), (0, 1, 0)], [(0, 1, 0), (2, 3, 0)], [(0, 0, 9), (1, 0, 9)], [], [], [])] (by decide +kernel) (ρ0 := (fun s => [x0, x1].getD s 0)) hB eF trivial ⟨rfl, ⟨rfl, ⟨rfl, trivial⟩⟩⟩ trivial ?_
  refine List.forall_mem_cons.mpr ⟨?_, fun _ h => absurd h List.not_mem_nil⟩
  · intro ρ τ Lc stc hx g1 g2 g3 g4 g5 g6 g7 g8
    have e0 : ρ 0 = x0 := hx 0 (by decide)
    have e1 : ρ 1 = x1 := hx 1 (by decide)
    subst e0
    subst e1
    have g7 := g7 (by decide)
    match Lc, stc, g7, g8 with
    | [v0, v1, v2], [w0, w1], ⟨hv0, hv1, hv2, _⟩, ⟨hw0, hw1, _⟩ =>
      cases hv0
      cases hv1
      cases hv2
      cases hw0
      cases hw1
      exact l0 τ ρ  g1 g2 g3 g4 g5 g6
set_option maxRecDepth 100000 in
theorem pf_a5 {σ : pm_S} {Q : Option Value → pm_S → Prop} (x0 x1 x2 x3 x4 : Int)  (hB : an_GB pm_B σ) (eF : (0 ≤ x0 ∧ x0 ≤ 9) ∧ (0 ≤ x1 ∧ x1 ≤ 9) ∧ (0 ≤ x2 ∧ x2 ≤ 1) ∧ ((-2147483648) ≤ x3 ∧ x3 ≤ 2147483647) ∧ (0 ≤ x4 ∧ x4 ≤ 99) ∧ True) (eC : (σ.1 9 (x0).toNat).toInt = x3 ∧ (σ.1 4 (x1).toNat).toInt = x4 ∧ True)
    (l0 : ∀ (τ : pm_S) (y : Nat → Int), an_GB pm_B τ → FQ [] σ τ → ((0 ≤ x0 ∧ x0 ≤ 9) ∧ (0 ≤ x1 ∧ x1 ≤ 9) ∧ (0 ≤ x2 ∧ x2 ≤ 0) ∧ ((-2147483648) ≤ x3 ∧ x3 ≤ 2147483647) ∧ (0 ≤ x4 ∧ x4 ≤ 99) ∧ True) → (True) → (True) → ((τ.1 4 (x1).toNat).toInt = x4 ∧ (τ.1 9 (x0).toNat).toInt = x3 ∧ True) → Q none τ)
    (l1 : ∀ (τ : pm_S) (y : Nat → Int), an_GB pm_B τ → FQ [] σ τ → ((0 ≤ x0 ∧ x0 ≤ 9) ∧ (0 ≤ x1 ∧ x1 ≤ 9) ∧ (1 ≤ x2 ∧ x2 ≤ 1) ∧ ((-2147483648) ≤ x3 ∧ x3 ≤ 2147483647) ∧ (0 ≤ x4 ∧ x4 ≤ 99) ∧ True) → (True) → (True) → ((τ.1 4 (x1).toNat).toInt = x4 ∧ (τ.1 9 (x0).toNat).toInt = x3 ∧ True) → Ok 92 7 18 [.ref 74, .int (Int32.ofInt (x0)), .int (Int32.ofInt (x1))] [.int (Int32.ofInt (x4)), .int (Int32.ofInt (x3))] τ Q)
    : Ok 92 7 5 [.ref 74, .int (Int32.ofInt (x0)), .int (Int32.ofInt (x1))] [.int (Int32.ofInt (x2))] σ Q := by
  refine an_seg (B := pm_B) (F := []) (T := [4, 9]) (S := []) (fun _ h => absurd h List.not_mem_nil) (k := 92) (d := 6) (cs := [18]) 15 5 5 [(0, 0, 9), (1, 0, 9), (2, 0, 1), (3, (-2147483648), 2147483647), (4, 0, 99)] [(9, (0, 0, 0), (0, 3, 0)), (4, (0, 1, 0), (0, 4, 0))] [(2, 74, 0), (0, 0, 0), (0, 1, 0)] [(0, 2, 0)] [(9999, [], [], [(0, 0, 9), (1, 0, 9), (2, 0, 0), (3, (-2147483648), 2147483647), (4, 0, 99)], [], [], [(4, (0, 1, 0), (0, 4, 0)), (9, (0, 0, 0), (0, 3, 0))]),
    (18, [(2, 74, 0), (0, 0, 0), (0, 1, 0)], [(0, 4, 0), (0, 3, 0)], [(0, 0, 9), (1, 0, 9), (2, 1, 1), (3, (-2147483648), 2147483647), (4, 0, 99)], [], [], [(4, (0, 1, 0), (0, 4, 0)), (9, (0, 0, 0), (0, 3, 0))])] (by decide +kernel) (ρ0 := (fun s => [x0, x1, x2, x3, x4].getD s 0)) hB eF eC ⟨rfl, ⟨rfl, ⟨rfl, trivial⟩⟩⟩ ⟨rfl, trivial⟩ ?_
  refine List.forall_mem_cons.mpr ⟨?_, List.forall_mem_cons.mpr ⟨?_, fun _ h => absurd h List.not_mem_nil⟩⟩
  · intro ρ τ Lc stc hx g1 g2 g3 g4 g5 g6 g7 g8
    have e0 : ρ 0 = x0 := hx 0 (by decide)
    have e1 : ρ 1 = x1 := hx 1 (by decide)
    have e2 : ρ 2 = x2 := hx 2 (by decide)
    have e3 : ρ 3 = x3 := hx 3 (by decide)
    have e4 : ρ 4 = x4 := hx 4 (by decide)
    subst e0
    subst e1
    subst e2
    subst e3
    subst e4
    match stc, g8 with
    | [], _ => exact l0 τ ρ g1 g2 g3 g4 g5 g6
  · intro ρ τ Lc stc hx g1 g2 g3 g4 g5 g6 g7 g8
    have e0 : ρ 0 = x0 := hx 0 (by decide)
    have e1 : ρ 1 = x1 := hx 1 (by decide)
    have e2 : ρ 2 = x2 := hx 2 (by decide)
    have e3 : ρ 3 = x3 := hx 3 (by decide)
    have e4 : ρ 4 = x4 := hx 4 (by decide)
    subst e0
    subst e1
    subst e2
    subst e3
    subst e4
    have g7 := g7 (by decide)
    match Lc, stc, g7, g8 with
    | [v0, v1, v2], [w0, w1], ⟨hv0, hv1, hv2, _⟩, ⟨hw0, hw1, _⟩ =>
      cases hv0
      cases hv1
      cases hv2
      cases hw0
      cases hw1
      exact l1 τ ρ  g1 g2 g3 g4 g5 g6
set_option maxRecDepth 100000 in
theorem pf_a19 {σ : pm_S} {Q : Option Value → pm_S → Prop} (x0 x1 x2 x3 : Int)  (hB : an_GB pm_B σ) (eF : (0 ≤ x0 ∧ x0 ≤ 9) ∧ (0 ≤ x1 ∧ x1 ≤ 9) ∧ ((-2147483648) ≤ x2 ∧ x2 ≤ 2147483647) ∧ (0 ≤ x3 ∧ x3 ≤ 99) ∧ True) (eC : (σ.1 9 (x0).toNat).toInt = x2 ∧ (σ.1 4 (x1).toNat).toInt = x3 ∧ True)
    (l0 : ∀ (τ : pm_S) (y : Nat → Int), an_GB pm_B τ → FQ [] σ τ → ((0 ≤ x0 ∧ x0 ≤ 9) ∧ (0 ≤ x1 ∧ x1 ≤ 9) ∧ ((-2147483648) ≤ x2 ∧ x2 ≤ 2147483647) ∧ (0 ≤ x3 ∧ x3 ≤ 99) ∧ ((-2147483648) ≤ y 4 ∧ y 4 ≤ 2147483647) ∧ True) → (True) → ((an_f 1 (Int32.ofInt (x2)) (Int32.ofInt (x3))).toInt = y 4 ∧ True) → ((τ.1 4 (x1).toNat).toInt = x3 ∧ (τ.1 9 (x0).toNat).toInt = x2 ∧ True) → Ok 92 7 33 [.ref 74, .int (Int32.ofInt (x0)), .int (Int32.ofInt (x1))] [.int (Int32.ofInt (y 4)), .int (Int32.ofInt (x0)), .ref 9] τ Q)
    : Ok 92 7 19 [.ref 74, .int (Int32.ofInt (x0)), .int (Int32.ofInt (x1))] [] σ Q := by
  refine an_seg (B := pm_B) (F := []) (T := [4, 9]) (S := []) (fun _ h => absurd h List.not_mem_nil) (k := 92) (d := 6) (cs := [33]) 16 19 4 [(0, 0, 9), (1, 0, 9), (2, (-2147483648), 2147483647), (3, 0, 99)] [(9, (0, 0, 0), (0, 2, 0)), (4, (0, 1, 0), (0, 3, 0))] [(2, 74, 0), (0, 0, 0), (0, 1, 0)] [] [(33, [(2, 74, 0), (0, 0, 0), (0, 1, 0)], [(0, 4, 0), (0, 0, 0), (2, 9, 0)], [(0, 0, 9), (1, 0, 9), (2, (-2147483648), 2147483647), (3, 0, 99), (4, (-2147483648), 2147483647)], [], [(1, (0, 2, 0), (0, 3, 0), 4)], [(4, (0, 1, 0), (0, 3, 0)), (9, (0, 0, 0), (0, 2, 0))])] (by decide +kernel) (ρ0 := (fun s => [x0, x1, x2, x3].getD s 0)) hB eF eC ⟨rfl, ⟨rfl, ⟨rfl, trivial⟩⟩⟩ trivial ?_
  refine List.forall_mem_cons.mpr ⟨?_, fun _ h => absurd h List.not_mem_nil⟩
  · intro ρ τ Lc stc hx g1 g2 g3 g4 g5 g6 g7 g8
    have e0 : ρ 0 = x0 := hx 0 (by decide)
    have e1 : ρ 1 = x1 := hx 1 (by decide)
    have e2 : ρ 2 = x2 := hx 2 (by decide)
    have e3 : ρ 3 = x3 := hx 3 (by decide)
    subst e0
    subst e1
    subst e2
    subst e3
    have g7 := g7 (by decide)
    match Lc, stc, g7, g8 with
    | [v0, v1, v2], [w0, w1, w2], ⟨hv0, hv1, hv2, _⟩, ⟨hw0, hw1, hw2, _⟩ =>
      cases hv0
      cases hv1
      cases hv2
      cases hw0
      cases hw1
      cases hw2
      exact l0 τ ρ  g1 g2 g3 g4 g5 g6
set_option maxRecDepth 100000 in
theorem pf_a34 {σ : pm_S} {Q : Option Value → pm_S → Prop} (x0 x1 : Int)  (hB : an_GB pm_B σ) (eF : (0 ≤ x0 ∧ x0 ≤ 9) ∧ (0 ≤ x1 ∧ x1 ≤ 9) ∧ True)
    (l0 : ∀ (τ : pm_S) (y : Nat → Int), an_GB pm_B τ → FQ [] σ τ → ((0 ≤ x0 ∧ x0 ≤ 9) ∧ (0 ≤ x1 ∧ x1 ≤ 9) ∧ True) → (True) → (True) → (True) → Ok 92 7 40 [.ref 74, .int (Int32.ofInt (x0)), .int (Int32.ofInt (x1))] [.int (Int32.ofInt (x1)), .int (Int32.ofInt (x0)), .ref 12] τ Q)
    : Ok 92 7 34 [.ref 74, .int (Int32.ofInt (x0)), .int (Int32.ofInt (x1))] [] σ Q := by
  refine an_seg (B := pm_B) (F := []) (T := []) (S := []) (fun _ h => absurd h List.not_mem_nil) (k := 92) (d := 6) (cs := [40]) 8 34 2 [(0, 0, 9), (1, 0, 9)] [] [(2, 74, 0), (0, 0, 0), (0, 1, 0)] [] [(40, [(2, 74, 0), (0, 0, 0), (0, 1, 0)], [(0, 1, 0), (0, 0, 0), (2, 12, 0)], [(0, 0, 9), (1, 0, 9)], [], [], [])] (by decide +kernel) (ρ0 := (fun s => [x0, x1].getD s 0)) hB eF trivial ⟨rfl, ⟨rfl, ⟨rfl, trivial⟩⟩⟩ trivial ?_
  refine List.forall_mem_cons.mpr ⟨?_, fun _ h => absurd h List.not_mem_nil⟩
  · intro ρ τ Lc stc hx g1 g2 g3 g4 g5 g6 g7 g8
    have e0 : ρ 0 = x0 := hx 0 (by decide)
    have e1 : ρ 1 = x1 := hx 1 (by decide)
    subst e0
    subst e1
    have g7 := g7 (by decide)
    match Lc, stc, g7, g8 with
    | [v0, v1, v2], [w0, w1, w2], ⟨hv0, hv1, hv2, _⟩, ⟨hw0, hw1, hw2, _⟩ =>
      cases hv0
      cases hv1
      cases hv2
      cases hw0
      cases hw1
      cases hw2
      exact l0 τ ρ  g1 g2 g3 g4 g5 g6
set_option maxRecDepth 100000 in
theorem pf_a41 {σ : pm_S} {Q : Option Value → pm_S → Prop} (x0 x1 x2 x3 : Int)  (hB : an_GB pm_B σ) (eF : (0 ≤ x0 ∧ x0 ≤ 9) ∧ (0 ≤ x1 ∧ x1 ≤ 9) ∧ (0 ≤ x2 ∧ x2 ≤ 9) ∧ ((-2147483648) ≤ x3 ∧ x3 ≤ 2147483647) ∧ True) (eC : (σ.1 8 (x0).toNat).toInt = x2 ∧ (σ.1 1 2).toInt = x3 ∧ True)
    (l0 : ∀ (τ : pm_S) (y : Nat → Int), an_GB pm_B τ → FQ [] σ τ → ((0 ≤ x0 ∧ x0 ≤ 9) ∧ (0 ≤ x1 ∧ x1 ≤ 9) ∧ (0 ≤ x2 ∧ x2 ≤ 9) ∧ ((-2147483648) ≤ x3 ∧ x3 ≤ 2147483647) ∧ True) → (True) → (True) → ((τ.1 1 2).toInt = x3 ∧ (τ.1 8 (x0).toNat).toInt = x2 ∧ True) → Ok 92 7 56 [.ref 74, .int (Int32.ofInt (x0)), .int (Int32.ofInt (x1))] [.int (Int32.ofInt (x1)), .int (Int32.ofInt (x2)), .ref 3, .int (Int32.ofInt 2), .int (Int32.ofInt (x3)), .ref 1] τ Q)
    : Ok 92 7 41 [.ref 74, .int (Int32.ofInt (x0)), .int (Int32.ofInt (x1))] [] σ Q := by
  refine an_seg (B := pm_B) (F := []) (T := [8]) (S := []) (fun _ h => absurd h List.not_mem_nil) (k := 92) (d := 6) (cs := [56]) 17 41 4 [(0, 0, 9), (1, 0, 9), (2, 0, 9), (3, (-2147483648), 2147483647)] [(8, (0, 0, 0), (0, 2, 0)), (1, (1, 0, 2), (0, 3, 0))] [(2, 74, 0), (0, 0, 0), (0, 1, 0)] [] [(56, [(2, 74, 0), (0, 0, 0), (0, 1, 0)], [(0, 1, 0), (0, 2, 0), (2, 3, 0), (1, 0, 2), (0, 3, 0), (2, 1, 0)], [(0, 0, 9), (1, 0, 9), (2, 0, 9), (3, (-2147483648), 2147483647)], [], [], [(1, (1, 0, 2), (0, 3, 0)), (8, (0, 0, 0), (0, 2, 0))])] (by decide +kernel) (ρ0 := (fun s => [x0, x1, x2, x3].getD s 0)) hB eF eC ⟨rfl, ⟨rfl, ⟨rfl, trivial⟩⟩⟩ trivial ?_
  refine List.forall_mem_cons.mpr ⟨?_, fun _ h => absurd h List.not_mem_nil⟩
  · intro ρ τ Lc stc hx g1 g2 g3 g4 g5 g6 g7 g8
    have e0 : ρ 0 = x0 := hx 0 (by decide)
    have e1 : ρ 1 = x1 := hx 1 (by decide)
    have e2 : ρ 2 = x2 := hx 2 (by decide)
    have e3 : ρ 3 = x3 := hx 3 (by decide)
    subst e0
    subst e1
    subst e2
    subst e3
    have g7 := g7 (by decide)
    match Lc, stc, g7, g8 with
    | [v0, v1, v2], [w0, w1, w2, w3, w4, w5], ⟨hv0, hv1, hv2, _⟩, ⟨hw0, hw1, hw2, hw3, hw4, hw5, _⟩ =>
      cases hv0
      cases hv1
      cases hv2
      cases hw0
      cases hw1
      cases hw2
      cases hw3
      cases hw4
      cases hw5
      exact l0 τ ρ  g1 g2 g3 g4 g5 g6
set_option maxRecDepth 100000 in
theorem pf_a57 {σ : pm_S} {Q : Option Value → pm_S → Prop} (x0 x1 x2 x3 : Int)  (hB : an_GB pm_B σ) (eF : (0 ≤ x0 ∧ x0 ≤ 9) ∧ (0 ≤ x1 ∧ x1 ≤ 9) ∧ ((-2147483648) ≤ x2 ∧ x2 ≤ 2147483647) ∧ ((-2147483648) ≤ x3 ∧ x3 ≤ 2147483647) ∧ True)
    (l0 : ∀ (τ : pm_S) (y : Nat → Int), an_GB pm_B τ → FQ [(1, 2)] σ τ → ((0 ≤ x0 ∧ x0 ≤ 9) ∧ (0 ≤ x1 ∧ x1 ≤ 9) ∧ ((-2147483648) ≤ x2 ∧ x2 ≤ 2147483647) ∧ ((-2147483648) ≤ x3 ∧ x3 ≤ 2147483647) ∧ ((-2147483648) ≤ y 4 ∧ y 4 ≤ 2147483647) ∧ ((-2147483648) ≤ y 5 ∧ y 5 ≤ 2147483647) ∧ True) → (True) → ((an_f 2 (Int32.ofInt (2)) (Int32.ofInt (x2))).toInt = y 4 ∧ (an_f 0 (Int32.ofInt (x3)) (Int32.ofInt (y 4))).toInt = y 5 ∧ True) → ((τ.1 1 2).toInt = y 5 ∧ True) → Q none τ)
    : Ok 92 7 57 [.ref 74, .int (Int32.ofInt (x0)), .int (Int32.ofInt (x1))] [.int (Int32.ofInt (x2)), .int (Int32.ofInt 2), .int (Int32.ofInt (x3)), .ref 1] σ Q := by
  refine an_seg (B := pm_B) (F := [(1, 2)]) (T := []) (S := []) (fun _ h => absurd h List.not_mem_nil) (k := 92) (d := 6) (cs := []) 6 57 4 [(0, 0, 9), (1, 0, 9), (2, (-2147483648), 2147483647), (3, (-2147483648), 2147483647)] [] [(2, 74, 0), (0, 0, 0), (0, 1, 0)] [(0, 2, 0), (1, 0, 2), (0, 3, 0), (2, 1, 0)] [(9999, [], [], [(0, 0, 9), (1, 0, 9), (2, (-2147483648), 2147483647), (3, (-2147483648), 2147483647), (4, (-2147483648), 2147483647), (5, (-2147483648), 2147483647)], [], [(2, (1, 0, 2), (0, 2, 0), 4), (0, (0, 3, 0), (0, 4, 0), 5)], [(1, (1, 0, 2), (0, 5, 0))])] (by decide +kernel) (ρ0 := (fun s => [x0, x1, x2, x3].getD s 0)) hB eF trivial ⟨rfl, ⟨rfl, ⟨rfl, trivial⟩⟩⟩ ⟨rfl, ⟨rfl, ⟨rfl, ⟨rfl, trivial⟩⟩⟩⟩ ?_
  refine List.forall_mem_cons.mpr ⟨?_, fun _ h => absurd h List.not_mem_nil⟩
  · intro ρ τ Lc stc hx g1 g2 g3 g4 g5 g6 g7 g8
    have e0 : ρ 0 = x0 := hx 0 (by decide)
    have e1 : ρ 1 = x1 := hx 1 (by decide)
    have e2 : ρ 2 = x2 := hx 2 (by decide)
    have e3 : ρ 3 = x3 := hx 3 (by decide)
    subst e0
    subst e1
    subst e2
    subst e3
    match stc, g8 with
    | [], _ => exact l0 τ ρ g1 g2 g3 g4 g5 g6
set_option maxRecDepth 100000 in
theorem pf_a60 {σ : pm_S} {Q : Option Value → pm_S → Prop} (x0 x1 : Int)  (hB : an_GB pm_B σ) (eF : (0 ≤ x0 ∧ x0 ≤ 9) ∧ (0 ≤ x1 ∧ x1 ≤ 9) ∧ True)
    (l0 : ∀ (τ : pm_S) (y : Nat → Int), an_GB pm_B τ → FQ [] σ τ → ((0 ≤ x0 ∧ x0 ≤ 9) ∧ (0 ≤ x1 ∧ x1 ≤ 9) ∧ True) → (True) → (True) → (True) → Q none τ)
    : Ok 92 7 60 [.ref 74, .int (Int32.ofInt (x0)), .int (Int32.ofInt (x1))] [] σ Q := by
  refine an_seg (B := pm_B) (F := []) (T := []) (S := []) (fun _ h => absurd h List.not_mem_nil) (k := 92) (d := 6) (cs := []) 3 60 2 [(0, 0, 9), (1, 0, 9)] [] [(2, 74, 0), (0, 0, 0), (0, 1, 0)] [] [(9999, [], [], [(0, 0, 9), (1, 0, 9)], [], [], [])] (by decide +kernel) (ρ0 := (fun s => [x0, x1].getD s 0)) hB eF trivial ⟨rfl, ⟨rfl, ⟨rfl, trivial⟩⟩⟩ trivial ?_
  refine List.forall_mem_cons.mpr ⟨?_, fun _ h => absurd h List.not_mem_nil⟩
  · intro ρ τ Lc stc hx g1 g2 g3 g4 g5 g6 g7 g8
    have e0 : ρ 0 = x0 := hx 0 (by decide)
    have e1 : ρ 1 = x1 := hx 1 (by decide)
    subst e0
    subst e1
    match stc, g8 with
    | [], _ => exact l0 τ ρ g1 g2 g3 g4 g5 g6
set_option maxRecDepth 100000 in
theorem pf_o0 {σ : pm_S} {Q : Option Value → pm_S → Prop} (x0 x1 : Int) (v1 : Value) (v2 : Value) (hv1 : v1.category = 1) (hv2 : v2.category = 1) (hB : an_GB pm_B σ) (eF : (0 ≤ x0 ∧ x0 ≤ 100) ∧ ((-2147483648) ≤ x1 ∧ x1 ≤ 2147483647) ∧ True) (eC : (σ.1 2 0).toInt = x0 ∧ (σ.1 1 0).toInt = x1 ∧ True)
    (l0 : ∀ (τ : pm_S) (y : Nat → Int), an_GB pm_B τ → FQ [(1, 0), (1, 3)] σ τ → ((0 ≤ x0 ∧ x0 ≤ 0) ∧ ((-2147483648) ≤ x1 ∧ x1 ≤ 2147483647) ∧ True) → (True) → (True) → ((τ.1 1 0).toInt = x1 ∧ (τ.1 1 3).toInt = 0 ∧ (τ.1 2 0).toInt = x0 ∧ True) → Ok 91 10 22 [.ref 74, .int (Int32.ofInt (x0)), .int (Int32.ofInt 0)] [] τ Q)
    (l1 : ∀ (τ : pm_S) (y : Nat → Int) (v2 : Value), v2.category = 1 → an_GB pm_B τ → FQ [(1, 0), (1, 3)] σ τ → ((1 ≤ x0 ∧ x0 ≤ 100) ∧ ((-2147483648) ≤ x1 ∧ x1 ≤ 2147483647) ∧ ((-2147483648) ≤ y 2 ∧ y 2 ≤ 2147483647) ∧ ((-2147483648) ≤ y 3 ∧ y 3 ≤ 2147483647) ∧ (0 ≤ y 4 ∧ y 4 ≤ 16777215) ∧ (0 ≤ y 5 ∧ y 5 ≤ 99) ∧ True) → (True) → ((an_f 2 (Int32.ofInt (1664525)) (Int32.ofInt (x1))).toInt = y 2 ∧ (an_f 0 (Int32.ofInt (y 2)) (Int32.ofInt (1013904223))).toInt = y 3 ∧ (an_f 8 (Int32.ofInt (y 3)) (Int32.ofInt (8))).toInt = y 4 ∧ (an_f 10 (Int32.ofInt (y 4)) (Int32.ofInt (100))).toInt = y 5 ∧ True) → ((τ.1 1 0).toInt = y 3 ∧ (τ.1 2 0).toInt = x0 ∧ True) → Ok 91 10 15 [.ref 74, .int (Int32.ofInt (x0)), v2] [.int (Int32.ofInt (x0)), .int (Int32.ofInt (y 5)), .ref 1] τ Q)
    : Ok 91 10 0 [.ref 74, v1, v2] [] σ Q := by
  refine an_seg (B := pm_B) (F := [(1, 0), (1, 3)]) (T := []) (S := []) (fun _ h => absurd h List.not_mem_nil) (k := 91) (d := 9) (cs := [15, 22]) 35 0 2 [(0, 0, 100), (1, (-2147483648), 2147483647)] [(2, (1, 0, 0), (0, 0, 0)), (1, (1, 0, 0), (0, 1, 0))] [(2, 74, 0), (5, 0, 0), (5, 0, 0)] [] [(22, [(2, 74, 0), (0, 0, 0), (1, 0, 0)], [], [(0, 0, 0), (1, (-2147483648), 2147483647)], [], [], [(1, (1, 0, 0), (0, 1, 0)), (1, (1, 0, 3), (1, 0, 0)), (2, (1, 0, 0), (0, 0, 0))]),
    (15, [(2, 74, 0), (0, 0, 0), (5, 0, 0)], [(0, 0, 0), (0, 5, 0), (2, 1, 0)], [(0, 1, 100), (1, (-2147483648), 2147483647), (2, (-2147483648), 2147483647), (3, (-2147483648), 2147483647), (4, 0, 16777215), (5, 0, 99)], [], [(2, (1, 0, 1664525), (0, 1, 0), 2), (0, (0, 2, 0), (1, 0, 1013904223), 3), (8, (0, 3, 0), (1, 0, 8), 4), (10, (0, 4, 0), (1, 0, 100), 5)], [(1, (1, 0, 0), (0, 3, 0)), (2, (1, 0, 0), (0, 0, 0))])] (by decide +kernel) (ρ0 := (fun s => [x0, x1].getD s 0)) hB eF eC ⟨rfl, ⟨hv1, ⟨hv2, trivial⟩⟩⟩ trivial ?_
  refine List.forall_mem_cons.mpr ⟨?_, List.forall_mem_cons.mpr ⟨?_, fun _ h => absurd h List.not_mem_nil⟩⟩
  · intro ρ τ Lc stc hx g1 g2 g3 g4 g5 g6 g7 g8
    have e0 : ρ 0 = x0 := hx 0 (by decide)
    have e1 : ρ 1 = x1 := hx 1 (by decide)
    subst e0
    subst e1
    have g7 := g7 (by decide)
    match Lc, stc, g7, g8 with
    | [v0, v1, v2], [], ⟨hv0, hv1, hv2, _⟩, _ =>
      cases hv0
      cases hv1
      cases hv2
      exact l0 τ ρ  g1 g2 g3 g4 g5 g6
  · intro ρ τ Lc stc hx g1 g2 g3 g4 g5 g6 g7 g8
    have e0 : ρ 0 = x0 := hx 0 (by decide)
    have e1 : ρ 1 = x1 := hx 1 (by decide)
    subst e0
    subst e1
    have g7 := g7 (by decide)
    match Lc, stc, g7, g8 with
    | [v0, v1, v2], [w0, w1, w2], ⟨hv0, hv1, hv2, _⟩, ⟨hw0, hw1, hw2, _⟩ =>
      cases hv0
      cases hv1
      cases hw0
      cases hw1
      cases hw2
      exact l1 τ ρ v2 hv2 g1 g2 g3 g4 g5 g6
set_option maxRecDepth 100000 in
theorem pf_o16 {σ : pm_S} {Q : Option Value → pm_S → Prop} (x0 : Int) (v2 : Value) (hv2 : v2.category = 1) (hB : an_GB pm_B σ) (eF : (1 ≤ x0 ∧ x0 ≤ 100) ∧ True)
    (l0 : ∀ (τ : pm_S) (y : Nat → Int), an_GB pm_B τ → FQ [(1, 3)] σ τ → ((1 ≤ x0 ∧ x0 ≤ 100) ∧ True) → (True) → (True) → ((τ.1 1 3).toInt = 1 ∧ True) → Ok 91 10 22 [.ref 74, .int (Int32.ofInt (x0)), .int (Int32.ofInt 0)] [] τ Q)
    : Ok 91 10 16 [.ref 74, .int (Int32.ofInt (x0)), v2] [.ref 1] σ Q := by
  refine an_seg (B := pm_B) (F := [(1, 3)]) (T := []) (S := []) (fun _ h => absurd h List.not_mem_nil) (k := 91) (d := 9) (cs := [22]) 7 16 1 [(0, 1, 100)] [] [(2, 74, 0), (0, 0, 0), (5, 0, 0)] [(2, 1, 0)] [(22, [(2, 74, 0), (0, 0, 0), (1, 0, 0)], [], [(0, 1, 100)], [], [], [(1, (1, 0, 3), (1, 0, 1))])] (by decide +kernel) (ρ0 := (fun s => [x0].getD s 0)) hB eF trivial ⟨rfl, ⟨rfl, ⟨hv2, trivial⟩⟩⟩ ⟨rfl, trivial⟩ ?_
  refine List.forall_mem_cons.mpr ⟨?_, fun _ h => absurd h List.not_mem_nil⟩
  · intro ρ τ Lc stc hx g1 g2 g3 g4 g5 g6 g7 g8
    have e0 : ρ 0 = x0 := hx 0 (by decide)
    subst e0
    have g7 := g7 (by decide)
    match Lc, stc, g7, g8 with
    | [v0, v1, v2], [], ⟨hv0, hv1, hv2, _⟩, _ =>
      cases hv0
      cases hv1
      cases hv2
      exact l0 τ ρ  g1 g2 g3 g4 g5 g6
set_option maxRecDepth 100000 in
theorem pf_o18 {σ : pm_S} {Q : Option Value → pm_S → Prop} (x0 : Int) (v2 : Value) (hv2 : v2.category = 1) (hB : an_GB pm_B σ) (eF : (1 ≤ x0 ∧ x0 ≤ 100) ∧ True)
    (l0 : ∀ (τ : pm_S) (y : Nat → Int), an_GB pm_B τ → FQ [(1, 3)] σ τ → ((1 ≤ x0 ∧ x0 ≤ 100) ∧ True) → (True) → (True) → ((τ.1 1 3).toInt = 0 ∧ True) → Ok 91 10 22 [.ref 74, .int (Int32.ofInt (x0)), .int (Int32.ofInt 0)] [] τ Q)
    : Ok 91 10 18 [.ref 74, .int (Int32.ofInt (x0)), v2] [.ref 1] σ Q := by
  refine an_seg (B := pm_B) (F := [(1, 3)]) (T := []) (S := []) (fun _ h => absurd h List.not_mem_nil) (k := 91) (d := 9) (cs := [22]) 6 18 1 [(0, 1, 100)] [] [(2, 74, 0), (0, 0, 0), (5, 0, 0)] [(2, 1, 0)] [(22, [(2, 74, 0), (0, 0, 0), (1, 0, 0)], [], [(0, 1, 100)], [], [], [(1, (1, 0, 3), (1, 0, 0))])] (by decide +kernel) (ρ0 := (fun s => [x0].getD s 0)) hB eF trivial ⟨rfl, ⟨rfl, ⟨hv2, trivial⟩⟩⟩ ⟨rfl, trivial⟩ ?_
  refine List.forall_mem_cons.mpr ⟨?_, fun _ h => absurd h List.not_mem_nil⟩
  · intro ρ τ Lc stc hx g1 g2 g3 g4 g5 g6 g7 g8
    have e0 : ρ 0 = x0 := hx 0 (by decide)
    subst e0
    have g7 := g7 (by decide)
    match Lc, stc, g7, g8 with
    | [v0, v1, v2], [], ⟨hv0, hv1, hv2, _⟩, _ =>
      cases hv0
      cases hv1
      cases hv2
      exact l0 τ ρ  g1 g2 g3 g4 g5 g6
set_option maxRecDepth 100000 in
theorem pf_o22 {σ : pm_S} {Q : Option Value → pm_S → Prop} (x0 x1 : Int) (v1 : Value) (hv1 : v1.category = 1) (hB : an_GB pm_B σ) (eF : (0 ≤ x0 ∧ x0 ≤ 10) ∧ (0 ≤ x1 ∧ x1 ≤ 10) ∧ True) (eC : (σ.1 7 0).toInt = x1 ∧ True)
    (l0 : ∀ (τ : pm_S) (y : Nat → Int) (v1 : Value), v1.category = 1 → an_GB pm_B τ → FQ [] σ τ → ((0 ≤ x0 ∧ x0 ≤ 10) ∧ (0 ≤ x1 ∧ x1 ≤ 10) ∧ True) → (True) → (True) → ((τ.1 7 0).toInt = x1 ∧ True) → Ok 91 10 27 [.ref 74, v1, .int (Int32.ofInt (x0))] [.int (Int32.ofInt (x1)), .int (Int32.ofInt (x0))] τ Q)
    : Ok 91 10 22 [.ref 74, v1, .int (Int32.ofInt (x0))] [] σ Q := by
  refine an_seg (B := pm_B) (F := []) (T := []) (S := []) (fun _ h => absurd h List.not_mem_nil) (k := 91) (d := 9) (cs := [27]) 7 22 2 [(0, 0, 10), (1, 0, 10)] [(7, (1, 0, 0), (0, 1, 0))] [(2, 74, 0), (5, 0, 0), (0, 0, 0)] [] [(27, [(2, 74, 0), (5, 0, 0), (0, 0, 0)], [(0, 1, 0), (0, 0, 0)], [(0, 0, 10), (1, 0, 10)], [], [], [(7, (1, 0, 0), (0, 1, 0))])] (by decide +kernel) (ρ0 := (fun s => [x0, x1].getD s 0)) hB eF eC ⟨rfl, ⟨hv1, ⟨rfl, trivial⟩⟩⟩ trivial ?_
  refine List.forall_mem_cons.mpr ⟨?_, fun _ h => absurd h List.not_mem_nil⟩
  · intro ρ τ Lc stc hx g1 g2 g3 g4 g5 g6 g7 g8
    have e0 : ρ 0 = x0 := hx 0 (by decide)
    have e1 : ρ 1 = x1 := hx 1 (by decide)
    subst e0
    subst e1
    have g7 := g7 (by decide)
    match Lc, stc, g7, g8 with
    | [v0, v1, v2], [w0, w1], ⟨hv0, hv1, hv2, _⟩, ⟨hw0, hw1, _⟩ =>
      cases hv0
      cases hv2
      cases hw0
      cases hw1
      exact l0 τ ρ v1 hv1 g1 g2 g3 g4 g5 g6
set_option maxRecDepth 100000 in
theorem pf_o28 {σ : pm_S} {Q : Option Value → pm_S → Prop} (x0 x1 : Int) (v1 : Value) (hv1 : v1.category = 1) (hB : an_GB pm_B σ) (eF : (0 ≤ x0 ∧ x0 ≤ 9) ∧ (0 ≤ x1 ∧ x1 ≤ 9) ∧ True) (eC : (σ.1 8 (x0).toNat).toInt = x1 ∧ True)
    (l0 : ∀ (τ : pm_S) (y : Nat → Int) (v1 : Value), v1.category = 1 → an_GB pm_B τ → FQ [] σ τ → ((0 ≤ x0 ∧ x0 ≤ 9) ∧ (0 ≤ x1 ∧ x1 ≤ 9) ∧ True) → (True) → (True) → ((τ.1 8 (x0).toNat).toInt = x1 ∧ True) → Ok 91 10 39 [.ref 74, v1, .int (Int32.ofInt (x0))] [.int (Int32.ofInt (x1)), .int (Int32.ofInt (x0)), .ref 12] τ Q)
    : Ok 91 10 28 [.ref 74, v1, .int (Int32.ofInt (x0))] [] σ Q := by
  refine an_seg (B := pm_B) (F := []) (T := [8]) (S := []) (fun _ h => absurd h List.not_mem_nil) (k := 91) (d := 9) (cs := [39]) 13 28 2 [(0, 0, 9), (1, 0, 9)] [(8, (0, 0, 0), (0, 1, 0))] [(2, 74, 0), (5, 0, 0), (0, 0, 0)] [] [(39, [(2, 74, 0), (5, 0, 0), (0, 0, 0)], [(0, 1, 0), (0, 0, 0), (2, 12, 0)], [(0, 0, 9), (1, 0, 9)], [], [], [(8, (0, 0, 0), (0, 1, 0))])] (by decide +kernel) (ρ0 := (fun s => [x0, x1].getD s 0)) hB eF eC ⟨rfl, ⟨hv1, ⟨rfl, trivial⟩⟩⟩ trivial ?_
  refine List.forall_mem_cons.mpr ⟨?_, fun _ h => absurd h List.not_mem_nil⟩
  · intro ρ τ Lc stc hx g1 g2 g3 g4 g5 g6 g7 g8
    have e0 : ρ 0 = x0 := hx 0 (by decide)
    have e1 : ρ 1 = x1 := hx 1 (by decide)
    subst e0
    subst e1
    have g7 := g7 (by decide)
    match Lc, stc, g7, g8 with
    | [v0, v1, v2], [w0, w1, w2], ⟨hv0, hv1, hv2, _⟩, ⟨hw0, hw1, hw2, _⟩ =>
      cases hv0
      cases hv2
      cases hw0
      cases hw1
      cases hw2
      exact l0 τ ρ v1 hv1 g1 g2 g3 g4 g5 g6
set_option maxRecDepth 100000 in
theorem pf_o40 {σ : pm_S} {Q : Option Value → pm_S → Prop} (x0 x1 x2 x3 : Int) (v1 : Value) (hv1 : v1.category = 1) (hB : an_GB pm_B σ) (eF : (0 ≤ x0 ∧ x0 ≤ 9) ∧ (0 ≤ x1 ∧ x1 ≤ 1) ∧ (0 ≤ x2 ∧ x2 ≤ 9) ∧ (0 ≤ x3 ∧ x3 ≤ 9) ∧ True) (eC : (σ.1 1 3).toInt = x1 ∧ (σ.1 11 (x0).toNat).toInt = x2 ∧ (σ.1 8 (x0).toNat).toInt = x3 ∧ True)
    (l0 : ∀ (τ : pm_S) (y : Nat → Int) (v1 : Value), v1.category = 1 → an_GB pm_B τ → FQ [] σ τ → ((0 ≤ x0 ∧ x0 ≤ 9) ∧ (1 ≤ x1 ∧ x1 ≤ 1) ∧ (0 ≤ x2 ∧ x2 ≤ 9) ∧ (0 ≤ x3 ∧ x3 ≤ 9) ∧ True) → (True) → (True) → ((τ.1 1 3).toInt = x1 ∧ (τ.1 8 (x0).toNat).toInt = x3 ∧ (τ.1 11 (x0).toNat).toInt = x2 ∧ True) → Ok 91 10 22 [.ref 74, v1, .int (Int32.ofInt (x0 + 1))] [] τ Q)
    (l1 : ∀ (τ : pm_S) (y : Nat → Int) (v1 : Value), v1.category = 1 → an_GB pm_B τ → FQ [] σ τ → ((0 ≤ x0 ∧ x0 ≤ 9) ∧ (0 ≤ x1 ∧ x1 ≤ 0) ∧ (0 ≤ x2 ∧ x2 ≤ 9) ∧ (0 ≤ x3 ∧ x3 ≤ 9) ∧ True) → (True) → (True) → ((τ.1 1 3).toInt = x1 ∧ (τ.1 8 (x0).toNat).toInt = x3 ∧ (τ.1 11 (x0).toNat).toInt = x2 ∧ True) → Ok 91 10 56 [.ref 74, v1, .int (Int32.ofInt (x0))] [.int (Int32.ofInt (x3)), .int (Int32.ofInt (x2))] τ Q)
    : Ok 91 10 40 [.ref 74, v1, .int (Int32.ofInt (x0))] [] σ Q := by
  refine an_seg (B := pm_B) (F := []) (T := [8, 11]) (S := []) (fun _ h => absurd h List.not_mem_nil) (k := 91) (d := 9) (cs := [22, 56]) 18 40 4 [(0, 0, 9), (1, 0, 1), (2, 0, 9), (3, 0, 9)] [(1, (1, 0, 3), (0, 1, 0)), (11, (0, 0, 0), (0, 2, 0)), (8, (0, 0, 0), (0, 3, 0))] [(2, 74, 0), (5, 0, 0), (0, 0, 0)] [] [(22, [(2, 74, 0), (5, 0, 0), (0, 0, 1)], [], [(0, 0, 9), (1, 1, 1), (2, 0, 9), (3, 0, 9)], [], [], [(1, (1, 0, 3), (0, 1, 0)), (8, (0, 0, 0), (0, 3, 0)), (11, (0, 0, 0), (0, 2, 0))]),
    (56, [(2, 74, 0), (5, 0, 0), (0, 0, 0)], [(0, 3, 0), (0, 2, 0)], [(0, 0, 9), (1, 0, 0), (2, 0, 9), (3, 0, 9)], [], [], [(1, (1, 0, 3), (0, 1, 0)), (8, (0, 0, 0), (0, 3, 0)), (11, (0, 0, 0), (0, 2, 0))])] (by decide +kernel) (ρ0 := (fun s => [x0, x1, x2, x3].getD s 0)) hB eF eC ⟨rfl, ⟨hv1, ⟨rfl, trivial⟩⟩⟩ trivial ?_
  refine List.forall_mem_cons.mpr ⟨?_, List.forall_mem_cons.mpr ⟨?_, fun _ h => absurd h List.not_mem_nil⟩⟩
  · intro ρ τ Lc stc hx g1 g2 g3 g4 g5 g6 g7 g8
    have e0 : ρ 0 = x0 := hx 0 (by decide)
    have e1 : ρ 1 = x1 := hx 1 (by decide)
    have e2 : ρ 2 = x2 := hx 2 (by decide)
    have e3 : ρ 3 = x3 := hx 3 (by decide)
    subst e0
    subst e1
    subst e2
    subst e3
    have g7 := g7 (by decide)
    match Lc, stc, g7, g8 with
    | [v0, v1, v2], [], ⟨hv0, hv1, hv2, _⟩, _ =>
      cases hv0
      cases hv2
      exact l0 τ ρ v1 hv1 g1 g2 g3 g4 g5 g6
  · intro ρ τ Lc stc hx g1 g2 g3 g4 g5 g6 g7 g8
    have e0 : ρ 0 = x0 := hx 0 (by decide)
    have e1 : ρ 1 = x1 := hx 1 (by decide)
    have e2 : ρ 2 = x2 := hx 2 (by decide)
    have e3 : ρ 3 = x3 := hx 3 (by decide)
    subst e0
    subst e1
    subst e2
    subst e3
    have g7 := g7 (by decide)
    match Lc, stc, g7, g8 with
    | [v0, v1, v2], [w0, w1], ⟨hv0, hv1, hv2, _⟩, ⟨hw0, hw1, _⟩ =>
      cases hv0
      cases hv2
      cases hw0
      cases hw1
      exact l1 τ ρ v1 hv1 g1 g2 g3 g4 g5 g6
set_option maxRecDepth 100000 in
theorem pf_o57 {σ : pm_S} {Q : Option Value → pm_S → Prop} (x0 x1 : Int) (v1 : Value) (hv1 : v1.category = 1) (hB : an_GB pm_B σ) (eF : (0 ≤ x0 ∧ x0 ≤ 9) ∧ (0 ≤ x1 ∧ x1 ≤ 9) ∧ True) (eC : (σ.1 11 (x0).toNat).toInt = x1 ∧ True)
    (l0 : ∀ (τ : pm_S) (y : Nat → Int) (v1 : Value), v1.category = 1 → an_GB pm_B τ → FQ [] σ τ → ((0 ≤ x0 ∧ x0 ≤ 9) ∧ (0 ≤ x1 ∧ x1 ≤ 9) ∧ True) → (True) → (True) → ((τ.1 11 (x0).toNat).toInt = x1 ∧ True) → Ok 91 10 65 [.ref 74, v1, .int (Int32.ofInt (x0))] [.int (Int32.ofInt (x1)), .int (Int32.ofInt (x0)), .ref 74] τ Q)
    : Ok 91 10 57 [.ref 74, v1, .int (Int32.ofInt (x0))] [] σ Q := by
  refine an_seg (B := pm_B) (F := []) (T := [11]) (S := []) (fun _ h => absurd h List.not_mem_nil) (k := 91) (d := 9) (cs := [65]) 10 57 2 [(0, 0, 9), (1, 0, 9)] [(11, (0, 0, 0), (0, 1, 0))] [(2, 74, 0), (5, 0, 0), (0, 0, 0)] [] [(65, [(2, 74, 0), (5, 0, 0), (0, 0, 0)], [(0, 1, 0), (0, 0, 0), (2, 74, 0)], [(0, 0, 9), (1, 0, 9)], [], [], [(11, (0, 0, 0), (0, 1, 0))])] (by decide +kernel) (ρ0 := (fun s => [x0, x1].getD s 0)) hB eF eC ⟨rfl, ⟨hv1, ⟨rfl, trivial⟩⟩⟩ trivial ?_
  refine List.forall_mem_cons.mpr ⟨?_, fun _ h => absurd h List.not_mem_nil⟩
  · intro ρ τ Lc stc hx g1 g2 g3 g4 g5 g6 g7 g8
    have e0 : ρ 0 = x0 := hx 0 (by decide)
    have e1 : ρ 1 = x1 := hx 1 (by decide)
    subst e0
    subst e1
    have g7 := g7 (by decide)
    match Lc, stc, g7, g8 with
    | [v0, v1, v2], [w0, w1, w2], ⟨hv0, hv1, hv2, _⟩, ⟨hw0, hw1, hw2, _⟩ =>
      cases hv0
      cases hv2
      cases hw0
      cases hw1
      cases hw2
      exact l0 τ ρ v1 hv1 g1 g2 g3 g4 g5 g6
set_option maxRecDepth 100000 in
theorem pf_o66 {σ : pm_S} {Q : Option Value → pm_S → Prop} (x0 : Int) (v1 : Value) (hv1 : v1.category = 1) (hB : an_GB pm_B σ) (eF : (0 ≤ x0 ∧ x0 ≤ 9) ∧ True)
    (l0 : ∀ (τ : pm_S) (y : Nat → Int) (v1 : Value), v1.category = 1 → an_GB pm_B τ → FQ [] σ τ → ((0 ≤ x0 ∧ x0 ≤ 9) ∧ True) → (True) → (True) → (True) → Ok 91 10 22 [.ref 74, v1, .int (Int32.ofInt (x0 + 1))] [] τ Q)
    : Ok 91 10 66 [.ref 74, v1, .int (Int32.ofInt (x0))] [] σ Q := by
  refine an_seg (B := pm_B) (F := []) (T := []) (S := []) (fun _ h => absurd h List.not_mem_nil) (k := 91) (d := 9) (cs := [22]) 4 66 1 [(0, 0, 9)] [] [(2, 74, 0), (5, 0, 0), (0, 0, 0)] [] [(22, [(2, 74, 0), (5, 0, 0), (0, 0, 1)], [], [(0, 0, 9)], [], [], [])] (by decide +kernel) (ρ0 := (fun s => [x0].getD s 0)) hB eF trivial ⟨rfl, ⟨hv1, ⟨rfl, trivial⟩⟩⟩ trivial ?_
  refine List.forall_mem_cons.mpr ⟨?_, fun _ h => absurd h List.not_mem_nil⟩
  · intro ρ τ Lc stc hx g1 g2 g3 g4 g5 g6 g7 g8
    have e0 : ρ 0 = x0 := hx 0 (by decide)
    subst e0
    have g7 := g7 (by decide)
    match Lc, stc, g7, g8 with
    | [v0, v1, v2], [], ⟨hv0, hv1, hv2, _⟩, _ =>
      cases hv0
      cases hv2
      exact l0 τ ρ v1 hv1 g1 g2 g3 g4 g5 g6
set_option maxRecDepth 100000 in
theorem pf_o68 {σ : pm_S} {Q : Option Value → pm_S → Prop} (v1 : Value) (v2 : Value) (hv1 : v1.category = 1) (hv2 : v2.category = 1) (hB : an_GB pm_B σ)
    (l0 : ∀ (τ : pm_S) (y : Nat → Int), an_GB pm_B τ → FQ [] σ τ → (True) → (True) → (True) → (True) → Q none τ)
    : Ok 91 10 68 [.ref 74, v1, v2] [] σ Q := by
  refine an_seg (B := pm_B) (F := []) (T := []) (S := []) (fun _ h => absurd h List.not_mem_nil) (k := 91) (d := 9) (cs := []) 3 68 0 [] [] [(2, 74, 0), (5, 0, 0), (5, 0, 0)] [] [(9999, [], [], [], [], [], [])] (by decide +kernel) (ρ0 := (fun s => [].getD s 0)) hB trivial trivial ⟨rfl, ⟨hv1, ⟨hv2, trivial⟩⟩⟩ trivial ?_
  refine List.forall_mem_cons.mpr ⟨?_, fun _ h => absurd h List.not_mem_nil⟩
  · intro ρ τ Lc stc hx g1 g2 g3 g4 g5 g6 g7 g8
    match stc, g8 with
    | [], _ => exact l0 τ ρ g1 g2 g3 g4 g5 g6
set_option maxRecDepth 100000 in
theorem pf_b0 {σ : pm_S} {Q : Option Value → pm_S → Prop} (x0 x1 : Int) (v2 : Value) (hv2 : v2.category = 1) (hB : an_GB pm_B σ) (eF : (0 ≤ x0 ∧ x0 ≤ 29) ∧ (0 ≤ x1 ∧ x1 ≤ 9) ∧ True) (eC : (σ.1 17 (x0).toNat).toInt = x1 ∧ True)
    (l0 : ∀ (τ : pm_S) (y : Nat → Int), an_GB pm_B τ → FQ [] σ τ → ((0 ≤ x0 ∧ x0 ≤ 29) ∧ (0 ≤ x1 ∧ x1 ≤ 9) ∧ True) → (True) → (True) → ((τ.1 17 (x0).toNat).toInt = x1 ∧ True) → Ok 94 5 11 [.ref 74, .int (Int32.ofInt (x0)), .int (Int32.ofInt (x1))] [.int (Int32.ofInt (x0)), .ref 13] τ Q)
    : Ok 94 5 0 [.ref 74, .int (Int32.ofInt (x0)), v2] [] σ Q := by
  refine an_seg (B := pm_B) (F := []) (T := [17]) (S := []) (fun _ h => absurd h List.not_mem_nil) (k := 94) (d := 4) (cs := [11]) 13 0 2 [(0, 0, 29), (1, 0, 9)] [(17, (0, 0, 0), (0, 1, 0))] [(2, 74, 0), (0, 0, 0), (5, 0, 0)] [] [(11, [(2, 74, 0), (0, 0, 0), (0, 1, 0)], [(0, 0, 0), (2, 13, 0)], [(0, 0, 29), (1, 0, 9)], [], [], [(17, (0, 0, 0), (0, 1, 0))])] (by decide +kernel) (ρ0 := (fun s => [x0, x1].getD s 0)) hB eF eC ⟨rfl, ⟨rfl, ⟨hv2, trivial⟩⟩⟩ trivial ?_
  refine List.forall_mem_cons.mpr ⟨?_, fun _ h => absurd h List.not_mem_nil⟩
  · intro ρ τ Lc stc hx g1 g2 g3 g4 g5 g6 g7 g8
    have e0 : ρ 0 = x0 := hx 0 (by decide)
    have e1 : ρ 1 = x1 := hx 1 (by decide)
    subst e0
    subst e1
    have g7 := g7 (by decide)
    match Lc, stc, g7, g8 with
    | [v0, v1, v2], [w0, w1], ⟨hv0, hv1, hv2, _⟩, ⟨hw0, hw1, _⟩ =>
      cases hv0
      cases hv1
      cases hv2
      cases hw0
      cases hw1
      exact l0 τ ρ  g1 g2 g3 g4 g5 g6
set_option maxRecDepth 100000 in
theorem pf_b12 {σ : pm_S} {Q : Option Value → pm_S → Prop} (x0 x1 x2 x3 x4 : Int)  (hB : an_GB pm_B σ) (eF : (0 ≤ x0 ∧ x0 ≤ 29) ∧ (0 ≤ x1 ∧ x1 ≤ 9) ∧ (0 ≤ x2 ∧ x2 ≤ 1) ∧ (0 ≤ x3 ∧ x3 ≤ 9) ∧ ((-1) ≤ x4 ∧ x4 ≤ 9) ∧ True) (eC : (σ.1 14 (x0).toNat).toInt = x3 ∧ (σ.1 12 (x3).toNat).toInt = x4 ∧ True)
    (l0 : ∀ (τ : pm_S) (y : Nat → Int), an_GB pm_B τ → FQ [] σ τ → ((0 ≤ x0 ∧ x0 ≤ 29) ∧ (0 ≤ x1 ∧ x1 ≤ 9) ∧ (0 ≤ x2 ∧ x2 ≤ 0) ∧ (0 ≤ x3 ∧ x3 ≤ 9) ∧ ((-1) ≤ x4 ∧ x4 ≤ 9) ∧ True) → (True) → (True) → ((τ.1 12 (x3).toNat).toInt = x4 ∧ (τ.1 14 (x0).toNat).toInt = x3 ∧ True) → Q (some (.int (Int32.ofInt 0))) τ)
    (l1 : ∀ (τ : pm_S) (y : Nat → Int), an_GB pm_B τ → FQ [] σ τ → ((0 ≤ x0 ∧ x0 ≤ 29) ∧ (0 ≤ x1 ∧ x1 ≤ 9) ∧ (1 ≤ x2 ∧ x2 ≤ 1) ∧ (0 ≤ x3 ∧ x3 ≤ 9) ∧ ((-1) ≤ x4 ∧ x4 ≤ 9) ∧ True) → (True) → (True) → ((τ.1 12 (x3).toNat).toInt = x4 ∧ (τ.1 14 (x0).toNat).toInt = x3 ∧ True) → Ok 94 5 25 [.ref 74, .int (Int32.ofInt (x0)), .int (Int32.ofInt (x1))] [.int (Int32.ofInt (x1)), .int (Int32.ofInt (x4))] τ Q)
    : Ok 94 5 12 [.ref 74, .int (Int32.ofInt (x0)), .int (Int32.ofInt (x1))] [.int (Int32.ofInt (x2))] σ Q := by
  refine an_seg (B := pm_B) (F := []) (T := [12, 14]) (S := []) (fun _ h => absurd h List.not_mem_nil) (k := 94) (d := 4) (cs := [25]) 15 12 5 [(0, 0, 29), (1, 0, 9), (2, 0, 1), (3, 0, 9), (4, (-1), 9)] [(14, (0, 0, 0), (0, 3, 0)), (12, (0, 3, 0), (0, 4, 0))] [(2, 74, 0), (0, 0, 0), (0, 1, 0)] [(0, 2, 0)] [(9999, [], [(1, 0, 0)], [(0, 0, 29), (1, 0, 9), (2, 0, 0), (3, 0, 9), (4, (-1), 9)], [], [], [(12, (0, 3, 0), (0, 4, 0)), (14, (0, 0, 0), (0, 3, 0))]),
    (25, [(2, 74, 0), (0, 0, 0), (0, 1, 0)], [(0, 1, 0), (0, 4, 0)], [(0, 0, 29), (1, 0, 9), (2, 1, 1), (3, 0, 9), (4, (-1), 9)], [], [], [(12, (0, 3, 0), (0, 4, 0)), (14, (0, 0, 0), (0, 3, 0))])] (by decide +kernel) (ρ0 := (fun s => [x0, x1, x2, x3, x4].getD s 0)) hB eF eC ⟨rfl, ⟨rfl, ⟨rfl, trivial⟩⟩⟩ ⟨rfl, trivial⟩ ?_
  refine List.forall_mem_cons.mpr ⟨?_, List.forall_mem_cons.mpr ⟨?_, fun _ h => absurd h List.not_mem_nil⟩⟩
  · intro ρ τ Lc stc hx g1 g2 g3 g4 g5 g6 g7 g8
    have e0 : ρ 0 = x0 := hx 0 (by decide)
    have e1 : ρ 1 = x1 := hx 1 (by decide)
    have e2 : ρ 2 = x2 := hx 2 (by decide)
    have e3 : ρ 3 = x3 := hx 3 (by decide)
    have e4 : ρ 4 = x4 := hx 4 (by decide)
    subst e0
    subst e1
    subst e2
    subst e3
    subst e4
    match stc, g8 with
    | [_], ⟨h, _⟩ => cases h; exact l0 τ ρ g1 g2 g3 g4 g5 g6
  · intro ρ τ Lc stc hx g1 g2 g3 g4 g5 g6 g7 g8
    have e0 : ρ 0 = x0 := hx 0 (by decide)
    have e1 : ρ 1 = x1 := hx 1 (by decide)
    have e2 : ρ 2 = x2 := hx 2 (by decide)
    have e3 : ρ 3 = x3 := hx 3 (by decide)
    have e4 : ρ 4 = x4 := hx 4 (by decide)
    subst e0
    subst e1
    subst e2
    subst e3
    subst e4
    have g7 := g7 (by decide)
    match Lc, stc, g7, g8 with
    | [v0, v1, v2], [w0, w1], ⟨hv0, hv1, hv2, _⟩, ⟨hw0, hw1, _⟩ =>
      cases hv0
      cases hv1
      cases hv2
      cases hw0
      cases hw1
      exact l1 τ ρ  g1 g2 g3 g4 g5 g6
set_option maxRecDepth 100000 in
theorem pf_b26 {σ : pm_S} {Q : Option Value → pm_S → Prop} (x0 x1 x2 x3 : Int)  (hB : an_GB pm_B σ) (eF : (0 ≤ x0 ∧ x0 ≤ 29) ∧ (0 ≤ x1 ∧ x1 ≤ 9) ∧ (0 ≤ x2 ∧ x2 ≤ 9) ∧ ((-1) ≤ x3 ∧ x3 ≤ 9) ∧ True) (eC : (σ.1 15 (x0).toNat).toInt = x2 ∧ (σ.1 12 (x2).toNat).toInt = x3 ∧ True)
    (l0 : ∀ (τ : pm_S) (y : Nat → Int), an_GB pm_B τ → FQ [] σ τ → ((0 ≤ x0 ∧ x0 ≤ 29) ∧ (0 ≤ x1 ∧ x1 ≤ 9) ∧ (0 ≤ x2 ∧ x2 ≤ 9) ∧ ((-1) ≤ x3 ∧ x3 ≤ 9) ∧ True) → (True) → (True) → ((τ.1 12 (x2).toNat).toInt = x3 ∧ (τ.1 15 (x0).toNat).toInt = x2 ∧ True) → Ok 94 5 38 [.ref 74, .int (Int32.ofInt (x0)), .int (Int32.ofInt (x1))] [.int (Int32.ofInt (x1)), .int (Int32.ofInt (x3))] τ Q)
    : Ok 94 5 26 [.ref 74, .int (Int32.ofInt (x0)), .int (Int32.ofInt (x1))] [] σ Q := by
  refine an_seg (B := pm_B) (F := []) (T := [12, 15]) (S := []) (fun _ h => absurd h List.not_mem_nil) (k := 94) (d := 4) (cs := [38]) 14 26 4 [(0, 0, 29), (1, 0, 9), (2, 0, 9), (3, (-1), 9)] [(15, (0, 0, 0), (0, 2, 0)), (12, (0, 2, 0), (0, 3, 0))] [(2, 74, 0), (0, 0, 0), (0, 1, 0)] [] [(38, [(2, 74, 0), (0, 0, 0), (0, 1, 0)], [(0, 1, 0), (0, 3, 0)], [(0, 0, 29), (1, 0, 9), (2, 0, 9), (3, (-1), 9)], [], [], [(12, (0, 2, 0), (0, 3, 0)), (15, (0, 0, 0), (0, 2, 0))])] (by decide +kernel) (ρ0 := (fun s => [x0, x1, x2, x3].getD s 0)) hB eF eC ⟨rfl, ⟨rfl, ⟨rfl, trivial⟩⟩⟩ trivial ?_
  refine List.forall_mem_cons.mpr ⟨?_, fun _ h => absurd h List.not_mem_nil⟩
  · intro ρ τ Lc stc hx g1 g2 g3 g4 g5 g6 g7 g8
    have e0 : ρ 0 = x0 := hx 0 (by decide)
    have e1 : ρ 1 = x1 := hx 1 (by decide)
    have e2 : ρ 2 = x2 := hx 2 (by decide)
    have e3 : ρ 3 = x3 := hx 3 (by decide)
    subst e0
    subst e1
    subst e2
    subst e3
    have g7 := g7 (by decide)
    match Lc, stc, g7, g8 with
    | [v0, v1, v2], [w0, w1], ⟨hv0, hv1, hv2, _⟩, ⟨hw0, hw1, _⟩ =>
      cases hv0
      cases hv1
      cases hv2
      cases hw0
      cases hw1
      exact l0 τ ρ  g1 g2 g3 g4 g5 g6
set_option maxRecDepth 100000 in
theorem pf_b39 {σ : pm_S} {Q : Option Value → pm_S → Prop} (x0 x1 : Int)  (hB : an_GB pm_B σ) (eF : (0 ≤ x0 ∧ x0 ≤ 29) ∧ (0 ≤ x1 ∧ x1 ≤ 9) ∧ True)
    (l0 : ∀ (τ : pm_S) (y : Nat → Int), an_GB pm_B τ → FQ [] σ τ → ((0 ≤ x0 ∧ x0 ≤ 29) ∧ (0 ≤ x1 ∧ x1 ≤ 9) ∧ True) → (True) → (True) → (True) → Q (some (.int (Int32.ofInt 1))) τ)
    : Ok 94 5 39 [.ref 74, .int (Int32.ofInt (x0)), .int (Int32.ofInt (x1))] [] σ Q := by
  refine an_seg (B := pm_B) (F := []) (T := []) (S := []) (fun _ h => absurd h List.not_mem_nil) (k := 94) (d := 4) (cs := []) 5 39 2 [(0, 0, 29), (1, 0, 9)] [] [(2, 74, 0), (0, 0, 0), (0, 1, 0)] [] [(9999, [], [(1, 0, 1)], [(0, 0, 29), (1, 0, 9)], [], [], [])] (by decide +kernel) (ρ0 := (fun s => [x0, x1].getD s 0)) hB eF trivial ⟨rfl, ⟨rfl, ⟨rfl, trivial⟩⟩⟩ trivial ?_
  refine List.forall_mem_cons.mpr ⟨?_, fun _ h => absurd h List.not_mem_nil⟩
  · intro ρ τ Lc stc hx g1 g2 g3 g4 g5 g6 g7 g8
    have e0 : ρ 0 = x0 := hx 0 (by decide)
    have e1 : ρ 1 = x1 := hx 1 (by decide)
    subst e0
    subst e1
    match stc, g8 with
    | [_], ⟨h, _⟩ => cases h; exact l0 τ ρ g1 g2 g3 g4 g5 g6
set_option maxRecDepth 100000 in
theorem pf_b41 {σ : pm_S} {Q : Option Value → pm_S → Prop} (x0 x1 : Int)  (hB : an_GB pm_B σ) (eF : (0 ≤ x0 ∧ x0 ≤ 29) ∧ (0 ≤ x1 ∧ x1 ≤ 9) ∧ True)
    (l0 : ∀ (τ : pm_S) (y : Nat → Int), an_GB pm_B τ → FQ [] σ τ → ((0 ≤ x0 ∧ x0 ≤ 29) ∧ (0 ≤ x1 ∧ x1 ≤ 9) ∧ True) → (True) → (True) → (True) → Q (some (.int (Int32.ofInt 0))) τ)
    : Ok 94 5 41 [.ref 74, .int (Int32.ofInt (x0)), .int (Int32.ofInt (x1))] [] σ Q := by
  refine an_seg (B := pm_B) (F := []) (T := []) (S := []) (fun _ h => absurd h List.not_mem_nil) (k := 94) (d := 4) (cs := []) 4 41 2 [(0, 0, 29), (1, 0, 9)] [] [(2, 74, 0), (0, 0, 0), (0, 1, 0)] [] [(9999, [], [(1, 0, 0)], [(0, 0, 29), (1, 0, 9)], [], [], [])] (by decide +kernel) (ρ0 := (fun s => [x0, x1].getD s 0)) hB eF trivial ⟨rfl, ⟨rfl, ⟨rfl, trivial⟩⟩⟩ trivial ?_
  refine List.forall_mem_cons.mpr ⟨?_, fun _ h => absurd h List.not_mem_nil⟩
  · intro ρ τ Lc stc hx g1 g2 g3 g4 g5 g6 g7 g8
    have e0 : ρ 0 = x0 := hx 0 (by decide)
    have e1 : ρ 1 = x1 := hx 1 (by decide)
    subst e0
    subst e1
    match stc, g8 with
    | [_], ⟨h, _⟩ => cases h; exact l0 τ ρ g1 g2 g3 g4 g5 g6
set_option maxRecDepth 100000 in
theorem pf_p0 {σ : pm_S} {Q : Option Value → pm_S → Prop} (v1 : Value) (v2 : Value) (v3 : Value) (v4 : Value) (hv1 : v1.category = 1) (hv2 : v2.category = 1) (hv3 : v3.category = 1) (hv4 : v4.category = 1) (hB : an_GB pm_B σ)
    (l0 : ∀ (τ : pm_S) (y : Nat → Int) (v3 : Value) (v4 : Value), v3.category = 1 → v4.category = 1 → an_GB pm_B τ → FQ [] σ τ → (True) → (True) → (True) → (True) → Ok 93 14 4 [.ref 74, .int (Int32.ofInt 0), .int (Int32.ofInt 0), v3, v4] [] τ Q)
    : Ok 93 14 0 [.ref 74, v1, v2, v3, v4] [] σ Q := by
  refine an_seg (B := pm_B) (F := []) (T := []) (S := []) (fun _ h => absurd h List.not_mem_nil) (k := 93) (d := 13) (cs := [4]) 6 0 0 [] [] [(2, 74, 0), (5, 0, 0), (5, 0, 0), (5, 0, 0), (5, 0, 0)] [] [(4, [(2, 74, 0), (1, 0, 0), (1, 0, 0), (5, 0, 0), (5, 0, 0)], [], [], [], [], [])] (by decide +kernel) (ρ0 := (fun s => [].getD s 0)) hB trivial trivial ⟨rfl, ⟨hv1, ⟨hv2, ⟨hv3, ⟨hv4, trivial⟩⟩⟩⟩⟩ trivial ?_
  refine List.forall_mem_cons.mpr ⟨?_, fun _ h => absurd h List.not_mem_nil⟩
  · intro ρ τ Lc stc hx g1 g2 g3 g4 g5 g6 g7 g8
    have g7 := g7 (by decide)
    match Lc, stc, g7, g8 with
    | [v0, v1, v2, v3, v4], [], ⟨hv0, hv1, hv2, hv3, hv4, _⟩, _ =>
      cases hv0
      cases hv1
      cases hv2
      exact l0 τ ρ v3 v4 hv3 hv4 g1 g2 g3 g4 g5 g6
set_option maxRecDepth 100000 in
theorem pf_p4 {σ : pm_S} {Q : Option Value → pm_S → Prop} (x0 x1 x2 : Int) (v3 : Value) (v4 : Value) (hv3 : v3.category = 1) (hv4 : v4.category = 1) (hB : an_GB pm_B σ) (eF : (0 ≤ x0 ∧ x0 ≤ 30) ∧ (0 ≤ x1 ∧ x1 ≤ 30) ∧ (0 ≤ x2 ∧ x2 ≤ 30) ∧ True) (eC : (σ.1 13 0).toInt = x2 ∧ True)
    (l0 : ∀ (τ : pm_S) (y : Nat → Int) (v3 : Value) (v4 : Value), v3.category = 1 → v4.category = 1 → an_GB pm_B τ → FQ [] σ τ → ((0 ≤ x0 ∧ x0 ≤ 30) ∧ (0 ≤ x1 ∧ x1 ≤ 30) ∧ (0 ≤ x2 ∧ x2 ≤ 30) ∧ True) → (True) → (True) → ((τ.1 13 0).toInt = x2 ∧ True) → Ok 93 14 9 [.ref 74, .int (Int32.ofInt (x0)), .int (Int32.ofInt (x1)), v3, v4] [.int (Int32.ofInt (x2)), .int (Int32.ofInt (x1))] τ Q)
    : Ok 93 14 4 [.ref 74, .int (Int32.ofInt (x0)), .int (Int32.ofInt (x1)), v3, v4] [] σ Q := by
  refine an_seg (B := pm_B) (F := []) (T := []) (S := []) (fun _ h => absurd h List.not_mem_nil) (k := 93) (d := 13) (cs := [9]) 7 4 3 [(0, 0, 30), (1, 0, 30), (2, 0, 30)] [(13, (1, 0, 0), (0, 2, 0))] [(2, 74, 0), (0, 0, 0), (0, 1, 0), (5, 0, 0), (5, 0, 0)] [] [(9, [(2, 74, 0), (0, 0, 0), (0, 1, 0), (5, 0, 0), (5, 0, 0)], [(0, 2, 0), (0, 1, 0)], [(0, 0, 30), (1, 0, 30), (2, 0, 30)], [], [], [(13, (1, 0, 0), (0, 2, 0))])] (by decide +kernel) (ρ0 := (fun s => [x0, x1, x2].getD s 0)) hB eF eC ⟨rfl, ⟨rfl, ⟨rfl, ⟨hv3, ⟨hv4, trivial⟩⟩⟩⟩⟩ trivial ?_
  refine List.forall_mem_cons.mpr ⟨?_, fun _ h => absurd h List.not_mem_nil⟩
  · intro ρ τ Lc stc hx g1 g2 g3 g4 g5 g6 g7 g8
    have e0 : ρ 0 = x0 := hx 0 (by decide)
    have e1 : ρ 1 = x1 := hx 1 (by decide)
    have e2 : ρ 2 = x2 := hx 2 (by decide)
    subst e0
    subst e1
    subst e2
    have g7 := g7 (by decide)
    match Lc, stc, g7, g8 with
    | [v0, v1, v2, v3, v4], [w0, w1], ⟨hv0, hv1, hv2, hv3, hv4, _⟩, ⟨hw0, hw1, _⟩ =>
      cases hv0
      cases hv1
      cases hv2
      cases hw0
      cases hw1
      exact l0 τ ρ v3 v4 hv3 hv4 g1 g2 g3 g4 g5 g6
set_option maxRecDepth 100000 in
theorem pf_p10 {σ : pm_S} {Q : Option Value → pm_S → Prop} (x0 x1 x2 x3 : Int) (v3 : Value) (v4 : Value) (hv3 : v3.category = 1) (hv4 : v4.category = 1) (hB : an_GB pm_B σ) (eF : (0 ≤ x0 ∧ x0 ≤ 30) ∧ (0 ≤ x1 ∧ x1 ≤ 29) ∧ (0 ≤ x2 ∧ x2 ≤ 9) ∧ ((-2147483648) ≤ x3 ∧ x3 ≤ 2147483647) ∧ True) (eC : (σ.1 14 (x1).toNat).toInt = x2 ∧ (σ.1 16 (x1).toNat).toInt = x3 ∧ True)
    (l0 : ∀ (τ : pm_S) (y : Nat → Int), an_GB pm_B τ → FQ [] σ τ → ((0 ≤ x0 ∧ x0 ≤ 30) ∧ (0 ≤ x1 ∧ x1 ≤ 29) ∧ (0 ≤ x2 ∧ x2 ≤ 9) ∧ ((-2147483648) ≤ x3 ∧ x3 ≤ 2147483647) ∧ True) → (True) → (True) → ((τ.1 14 (x1).toNat).toInt = x2 ∧ (τ.1 16 (x1).toNat).toInt = x3 ∧ True) → Ok 93 14 26 [.ref 74, .int (Int32.ofInt (x0)), .int (Int32.ofInt (x1)), .int (Int32.ofInt (x2)), .int (Int32.ofInt (x3))] [.int (Int32.ofInt (x1)), .ref 74] τ Q)
    : Ok 93 14 10 [.ref 74, .int (Int32.ofInt (x0)), .int (Int32.ofInt (x1)), v3, v4] [] σ Q := by
  refine an_seg (B := pm_B) (F := []) (T := [14, 16]) (S := []) (fun _ h => absurd h List.not_mem_nil) (k := 93) (d := 13) (cs := [26]) 18 10 4 [(0, 0, 30), (1, 0, 29), (2, 0, 9), (3, (-2147483648), 2147483647)] [(14, (0, 1, 0), (0, 2, 0)), (16, (0, 1, 0), (0, 3, 0))] [(2, 74, 0), (0, 0, 0), (0, 1, 0), (5, 0, 0), (5, 0, 0)] [] [(26, [(2, 74, 0), (0, 0, 0), (0, 1, 0), (0, 2, 0), (0, 3, 0)], [(0, 1, 0), (2, 74, 0)], [(0, 0, 30), (1, 0, 29), (2, 0, 9), (3, (-2147483648), 2147483647)], [], [], [(14, (0, 1, 0), (0, 2, 0)), (16, (0, 1, 0), (0, 3, 0))])] (by decide +kernel) (ρ0 := (fun s => [x0, x1, x2, x3].getD s 0)) hB eF eC ⟨rfl, ⟨rfl, ⟨rfl, ⟨hv3, ⟨hv4, trivial⟩⟩⟩⟩⟩ trivial ?_
  refine List.forall_mem_cons.mpr ⟨?_, fun _ h => absurd h List.not_mem_nil⟩
  · intro ρ τ Lc stc hx g1 g2 g3 g4 g5 g6 g7 g8
    have e0 : ρ 0 = x0 := hx 0 (by decide)
    have e1 : ρ 1 = x1 := hx 1 (by decide)
    have e2 : ρ 2 = x2 := hx 2 (by decide)
    have e3 : ρ 3 = x3 := hx 3 (by decide)
    subst e0
    subst e1
    subst e2
    subst e3
    have g7 := g7 (by decide)
    match Lc, stc, g7, g8 with
    | [v0, v1, v2, v3, v4], [w0, w1], ⟨hv0, hv1, hv2, hv3, hv4, _⟩, ⟨hw0, hw1, _⟩ =>
      cases hv0
      cases hv1
      cases hv2
      cases hv3
      cases hv4
      cases hw0
      cases hw1
      exact l0 τ ρ  g1 g2 g3 g4 g5 g6
set_option maxRecDepth 100000 in
theorem pf_p27 {σ : pm_S} {Q : Option Value → pm_S → Prop} (x0 x1 x2 x3 x4 x5 : Int)  (hB : an_GB pm_B σ) (eF : (0 ≤ x0 ∧ x0 ≤ 30) ∧ (0 ≤ x1 ∧ x1 ≤ 29) ∧ (0 ≤ x2 ∧ x2 ≤ 9) ∧ ((-2147483648) ≤ x3 ∧ x3 ≤ 2147483647) ∧ (0 ≤ x4 ∧ x4 ≤ 1) ∧ ((-2147483648) ≤ x5 ∧ x5 ≤ 2147483647) ∧ True) (eC : (σ.1 9 (x2).toNat).toInt = x5 ∧ True)
    (l0 : ∀ (τ : pm_S) (y : Nat → Int), an_GB pm_B τ → FQ [] σ τ → ((0 ≤ x0 ∧ x0 ≤ 30) ∧ (0 ≤ x1 ∧ x1 ≤ 29) ∧ (0 ≤ x2 ∧ x2 ≤ 9) ∧ ((-2147483648) ≤ x3 ∧ x3 ≤ 2147483647) ∧ (0 ≤ x4 ∧ x4 ≤ 0) ∧ ((-2147483648) ≤ x5 ∧ x5 ≤ 2147483647) ∧ True) → (True) → (True) → ((τ.1 9 (x2).toNat).toInt = x5 ∧ True) → Ok 93 14 4 [.ref 74, .int (Int32.ofInt (x0)), .int (Int32.ofInt (x1 + 1)), .int (Int32.ofInt (x2)), .int (Int32.ofInt (x3))] [] τ Q)
    (l1 : ∀ (τ : pm_S) (y : Nat → Int), an_GB pm_B τ → FQ [] σ τ → ((0 ≤ x0 ∧ x0 ≤ 30) ∧ (0 ≤ x1 ∧ x1 ≤ 29) ∧ (0 ≤ x2 ∧ x2 ≤ 9) ∧ ((-2147483648) ≤ x3 ∧ x3 ≤ 2147483647) ∧ (1 ≤ x4 ∧ x4 ≤ 1) ∧ ((-2147483648) ≤ x5 ∧ x5 ≤ 2147483647) ∧ True) → (True) → (True) → ((τ.1 9 (x2).toNat).toInt = x5 ∧ True) → Ok 93 14 35 [.ref 74, .int (Int32.ofInt (x0)), .int (Int32.ofInt (x1)), .int (Int32.ofInt (x2)), .int (Int32.ofInt (x3))] [.int (Int32.ofInt (x3)), .int (Int32.ofInt (x5))] τ Q)
    : Ok 93 14 27 [.ref 74, .int (Int32.ofInt (x0)), .int (Int32.ofInt (x1)), .int (Int32.ofInt (x2)), .int (Int32.ofInt (x3))] [.int (Int32.ofInt (x4))] σ Q := by
  refine an_seg (B := pm_B) (F := []) (T := [9]) (S := []) (fun _ h => absurd h List.not_mem_nil) (k := 93) (d := 13) (cs := [4, 35]) 10 27 6 [(0, 0, 30), (1, 0, 29), (2, 0, 9), (3, (-2147483648), 2147483647), (4, 0, 1), (5, (-2147483648), 2147483647)] [(9, (0, 2, 0), (0, 5, 0))] [(2, 74, 0), (0, 0, 0), (0, 1, 0), (0, 2, 0), (0, 3, 0)] [(0, 4, 0)] [(4, [(2, 74, 0), (0, 0, 0), (0, 1, 1), (0, 2, 0), (0, 3, 0)], [], [(0, 0, 30), (1, 0, 29), (2, 0, 9), (3, (-2147483648), 2147483647), (4, 0, 0), (5, (-2147483648), 2147483647)], [], [], [(9, (0, 2, 0), (0, 5, 0))]),
    (35, [(2, 74, 0), (0, 0, 0), (0, 1, 0), (0, 2, 0), (0, 3, 0)], [(0, 3, 0), (0, 5, 0)], [(0, 0, 30), (1, 0, 29), (2, 0, 9), (3, (-2147483648), 2147483647), (4, 1, 1), (5, (-2147483648), 2147483647)], [], [], [(9, (0, 2, 0), (0, 5, 0))])] (by decide +kernel) (ρ0 := (fun s => [x0, x1, x2, x3, x4, x5].getD s 0)) hB eF eC ⟨rfl, ⟨rfl, ⟨rfl, ⟨rfl, ⟨rfl, trivial⟩⟩⟩⟩⟩ ⟨rfl, trivial⟩ ?_
  refine List.forall_mem_cons.mpr ⟨?_, List.forall_mem_cons.mpr ⟨?_, fun _ h => absurd h List.not_mem_nil⟩⟩
  · intro ρ τ Lc stc hx g1 g2 g3 g4 g5 g6 g7 g8
    have e0 : ρ 0 = x0 := hx 0 (by decide)
    have e1 : ρ 1 = x1 := hx 1 (by decide)
    have e2 : ρ 2 = x2 := hx 2 (by decide)
    have e3 : ρ 3 = x3 := hx 3 (by decide)
    have e4 : ρ 4 = x4 := hx 4 (by decide)
    have e5 : ρ 5 = x5 := hx 5 (by decide)
    subst e0
    subst e1
    subst e2
    subst e3
    subst e4
    subst e5
    have g7 := g7 (by decide)
    match Lc, stc, g7, g8 with
    | [v0, v1, v2, v3, v4], [], ⟨hv0, hv1, hv2, hv3, hv4, _⟩, _ =>
      cases hv0
      cases hv1
      cases hv2
      cases hv3
      cases hv4
      exact l0 τ ρ  g1 g2 g3 g4 g5 g6
  · intro ρ τ Lc stc hx g1 g2 g3 g4 g5 g6 g7 g8
    have e0 : ρ 0 = x0 := hx 0 (by decide)
    have e1 : ρ 1 = x1 := hx 1 (by decide)
    have e2 : ρ 2 = x2 := hx 2 (by decide)
    have e3 : ρ 3 = x3 := hx 3 (by decide)
    have e4 : ρ 4 = x4 := hx 4 (by decide)
    have e5 : ρ 5 = x5 := hx 5 (by decide)
    subst e0
    subst e1
    subst e2
    subst e3
    subst e4
    subst e5
    have g7 := g7 (by decide)
    match Lc, stc, g7, g8 with
    | [v0, v1, v2, v3, v4], [w0, w1], ⟨hv0, hv1, hv2, hv3, hv4, _⟩, ⟨hw0, hw1, _⟩ =>
      cases hv0
      cases hv1
      cases hv2
      cases hv3
      cases hv4
      cases hw0
      cases hw1
      exact l1 τ ρ  g1 g2 g3 g4 g5 g6
set_option maxRecDepth 100000 in
theorem pf_p36 {σ : pm_S} {Q : Option Value → pm_S → Prop} (x0 x1 x2 x3 : Int)  (hB : an_GB pm_B σ) (eF : (0 ≤ x0 ∧ x0 ≤ 30) ∧ (0 ≤ x1 ∧ x1 ≤ 29) ∧ (0 ≤ x2 ∧ x2 ≤ 9) ∧ ((-2147483648) ≤ x3 ∧ x3 ≤ 2147483647) ∧ True)
    (l0 : ∀ (τ : pm_S) (y : Nat → Int), an_GB pm_B τ → FQ [] σ τ → ((0 ≤ x0 ∧ x0 ≤ 30) ∧ (0 ≤ x1 ∧ x1 ≤ 29) ∧ (0 ≤ x2 ∧ x2 ≤ 9) ∧ ((-2147483648) ≤ x3 ∧ x3 ≤ 2147483647) ∧ True) → (True) → (True) → (True) → Ok 93 14 38 [.ref 74, .int (Int32.ofInt (x0)), .int (Int32.ofInt (x1)), .int (Int32.ofInt (x2)), .int (Int32.ofInt (x3))] [.int (Int32.ofInt (x1)), .ref 74] τ Q)
    : Ok 93 14 36 [.ref 74, .int (Int32.ofInt (x0)), .int (Int32.ofInt (x1)), .int (Int32.ofInt (x2)), .int (Int32.ofInt (x3))] [] σ Q := by
  refine an_seg (B := pm_B) (F := []) (T := []) (S := []) (fun _ h => absurd h List.not_mem_nil) (k := 93) (d := 13) (cs := [38]) 4 36 4 [(0, 0, 30), (1, 0, 29), (2, 0, 9), (3, (-2147483648), 2147483647)] [] [(2, 74, 0), (0, 0, 0), (0, 1, 0), (0, 2, 0), (0, 3, 0)] [] [(38, [(2, 74, 0), (0, 0, 0), (0, 1, 0), (0, 2, 0), (0, 3, 0)], [(0, 1, 0), (2, 74, 0)], [(0, 0, 30), (1, 0, 29), (2, 0, 9), (3, (-2147483648), 2147483647)], [], [], [])] (by decide +kernel) (ρ0 := (fun s => [x0, x1, x2, x3].getD s 0)) hB eF trivial ⟨rfl, ⟨rfl, ⟨rfl, ⟨rfl, ⟨rfl, trivial⟩⟩⟩⟩⟩ trivial ?_
  refine List.forall_mem_cons.mpr ⟨?_, fun _ h => absurd h List.not_mem_nil⟩
  · intro ρ τ Lc stc hx g1 g2 g3 g4 g5 g6 g7 g8
    have e0 : ρ 0 = x0 := hx 0 (by decide)
    have e1 : ρ 1 = x1 := hx 1 (by decide)
    have e2 : ρ 2 = x2 := hx 2 (by decide)
    have e3 : ρ 3 = x3 := hx 3 (by decide)
    subst e0
    subst e1
    subst e2
    subst e3
    have g7 := g7 (by decide)
    match Lc, stc, g7, g8 with
    | [v0, v1, v2, v3, v4], [w0, w1], ⟨hv0, hv1, hv2, hv3, hv4, _⟩, ⟨hw0, hw1, _⟩ =>
      cases hv0
      cases hv1
      cases hv2
      cases hv3
      cases hv4
      cases hw0
      cases hw1
      exact l0 τ ρ  g1 g2 g3 g4 g5 g6
set_option maxRecDepth 100000 in
theorem pf_p39 {σ : pm_S} {Q : Option Value → pm_S → Prop} (x0 x1 x2 x3 x4 x5 : Int)  (hB : an_GB pm_B σ) (eF : (0 ≤ x0 ∧ x0 ≤ 30) ∧ (0 ≤ x1 ∧ x1 ≤ 29) ∧ (0 ≤ x2 ∧ x2 ≤ 9) ∧ ((-2147483648) ≤ x3 ∧ x3 ≤ 2147483647) ∧ (0 ≤ x4 ∧ x4 ≤ 1) ∧ ((-2147483648) ≤ x5 ∧ x5 ≤ 2147483647) ∧ True) (eC : (σ.1 9 (x2).toNat).toInt = x5 ∧ True)
    (l0 : ∀ (τ : pm_S) (y : Nat → Int), an_GB pm_B τ → FQ [] σ τ → ((0 ≤ x0 ∧ x0 ≤ 30) ∧ (0 ≤ x1 ∧ x1 ≤ 29) ∧ (0 ≤ x2 ∧ x2 ≤ 9) ∧ ((-2147483648) ≤ x3 ∧ x3 ≤ 2147483647) ∧ (0 ≤ x4 ∧ x4 ≤ 0) ∧ ((-2147483648) ≤ x5 ∧ x5 ≤ 2147483647) ∧ True) → (True) → (True) → ((τ.1 9 (x2).toNat).toInt = x5 ∧ True) → Ok 93 14 4 [.ref 74, .int (Int32.ofInt (x0)), .int (Int32.ofInt (x1 + 1)), .int (Int32.ofInt (x2)), .int (Int32.ofInt (x3))] [] τ Q)
    (l1 : ∀ (τ : pm_S) (y : Nat → Int), an_GB pm_B τ → FQ [] σ τ → ((0 ≤ x0 ∧ x0 ≤ 30) ∧ (0 ≤ x1 ∧ x1 ≤ 29) ∧ (0 ≤ x2 ∧ x2 ≤ 9) ∧ ((-2147483648) ≤ x3 ∧ x3 ≤ 2147483647) ∧ (1 ≤ x4 ∧ x4 ≤ 1) ∧ ((-2147483648) ≤ x5 ∧ x5 ≤ 2147483647) ∧ ((-2147483648) ≤ y 6 ∧ y 6 ≤ 2147483647) ∧ True) → (True) → ((an_f 1 (Int32.ofInt (x5)) (Int32.ofInt (x3))).toInt = y 6 ∧ True) → ((τ.1 9 (x2).toNat).toInt = x5 ∧ True) → Ok 93 14 49 [.ref 74, .int (Int32.ofInt (x0)), .int (Int32.ofInt (x1)), .int (Int32.ofInt (x2)), .int (Int32.ofInt (x3))] [.int (Int32.ofInt (y 6)), .int (Int32.ofInt (x2)), .ref 9] τ Q)
    : Ok 93 14 39 [.ref 74, .int (Int32.ofInt (x0)), .int (Int32.ofInt (x1)), .int (Int32.ofInt (x2)), .int (Int32.ofInt (x3))] [.int (Int32.ofInt (x4))] σ Q := by
  refine an_seg (B := pm_B) (F := []) (T := [9]) (S := []) (fun _ h => absurd h List.not_mem_nil) (k := 93) (d := 13) (cs := [4, 49]) 12 39 6 [(0, 0, 30), (1, 0, 29), (2, 0, 9), (3, (-2147483648), 2147483647), (4, 0, 1), (5, (-2147483648), 2147483647)] [(9, (0, 2, 0), (0, 5, 0))] [(2, 74, 0), (0, 0, 0), (0, 1, 0), (0, 2, 0), (0, 3, 0)] [(0, 4, 0)] [(4, [(2, 74, 0), (0, 0, 0), (0, 1, 1), (0, 2, 0), (0, 3, 0)], [], [(0, 0, 30), (1, 0, 29), (2, 0, 9), (3, (-2147483648), 2147483647), (4, 0, 0), (5, (-2147483648), 2147483647)], [], [], [(9, (0, 2, 0), (0, 5, 0))]),
    (49, [(2, 74, 0), (0, 0, 0), (0, 1, 0), (0, 2, 0), (0, 3, 0)], [(0, 6, 0), (0, 2, 0), (2, 9, 0)], [(0, 0, 30), (1, 0, 29), (2, 0, 9), (3, (-2147483648), 2147483647), (4, 1, 1), (5, (-2147483648), 2147483647), (6, (-2147483648), 2147483647)], [], [(1, (0, 5, 0), (0, 3, 0), 6)], [(9, (0, 2, 0), (0, 5, 0))])] (by decide +kernel) (ρ0 := (fun s => [x0, x1, x2, x3, x4, x5].getD s 0)) hB eF eC ⟨rfl, ⟨rfl, ⟨rfl, ⟨rfl, ⟨rfl, trivial⟩⟩⟩⟩⟩ ⟨rfl, trivial⟩ ?_
  refine List.forall_mem_cons.mpr ⟨?_, List.forall_mem_cons.mpr ⟨?_, fun _ h => absurd h List.not_mem_nil⟩⟩
  · intro ρ τ Lc stc hx g1 g2 g3 g4 g5 g6 g7 g8
    have e0 : ρ 0 = x0 := hx 0 (by decide)
    have e1 : ρ 1 = x1 := hx 1 (by decide)
    have e2 : ρ 2 = x2 := hx 2 (by decide)
    have e3 : ρ 3 = x3 := hx 3 (by decide)
    have e4 : ρ 4 = x4 := hx 4 (by decide)
    have e5 : ρ 5 = x5 := hx 5 (by decide)
    subst e0
    subst e1
    subst e2
    subst e3
    subst e4
    subst e5
    have g7 := g7 (by decide)
    match Lc, stc, g7, g8 with
    | [v0, v1, v2, v3, v4], [], ⟨hv0, hv1, hv2, hv3, hv4, _⟩, _ =>
      cases hv0
      cases hv1
      cases hv2
      cases hv3
      cases hv4
      exact l0 τ ρ  g1 g2 g3 g4 g5 g6
  · intro ρ τ Lc stc hx g1 g2 g3 g4 g5 g6 g7 g8
    have e0 : ρ 0 = x0 := hx 0 (by decide)
    have e1 : ρ 1 = x1 := hx 1 (by decide)
    have e2 : ρ 2 = x2 := hx 2 (by decide)
    have e3 : ρ 3 = x3 := hx 3 (by decide)
    have e4 : ρ 4 = x4 := hx 4 (by decide)
    have e5 : ρ 5 = x5 := hx 5 (by decide)
    subst e0
    subst e1
    subst e2
    subst e3
    subst e4
    subst e5
    have g7 := g7 (by decide)
    match Lc, stc, g7, g8 with
    | [v0, v1, v2, v3, v4], [w0, w1, w2], ⟨hv0, hv1, hv2, hv3, hv4, _⟩, ⟨hw0, hw1, hw2, _⟩ =>
      cases hv0
      cases hv1
      cases hv2
      cases hv3
      cases hv4
      cases hw0
      cases hw1
      cases hw2
      exact l1 τ ρ  g1 g2 g3 g4 g5 g6
set_option maxRecDepth 100000 in
theorem pf_p50 {σ : pm_S} {Q : Option Value → pm_S → Prop} (x0 x1 x2 x3 x4 x5 : Int)  (hB : an_GB pm_B σ) (eF : (0 ≤ x0 ∧ x0 ≤ 30) ∧ (0 ≤ x1 ∧ x1 ≤ 29) ∧ (0 ≤ x2 ∧ x2 ≤ 9) ∧ ((-2147483648) ≤ x3 ∧ x3 ≤ 2147483647) ∧ (0 ≤ x4 ∧ x4 ≤ 9) ∧ ((-2147483648) ≤ x5 ∧ x5 ≤ 2147483647) ∧ True) (eC : (σ.1 15 (x1).toNat).toInt = x4 ∧ (σ.1 9 (x4).toNat).toInt = x5 ∧ True)
    (l0 : ∀ (τ : pm_S) (y : Nat → Int), an_GB pm_B τ → FQ [] σ τ → ((0 ≤ x0 ∧ x0 ≤ 30) ∧ (0 ≤ x1 ∧ x1 ≤ 29) ∧ (0 ≤ x2 ∧ x2 ≤ 9) ∧ ((-2147483648) ≤ x3 ∧ x3 ≤ 2147483647) ∧ (0 ≤ x4 ∧ x4 ≤ 9) ∧ ((-2147483648) ≤ x5 ∧ x5 ≤ 2147483647) ∧ ((-2147483648) ≤ y 6 ∧ y 6 ≤ 2147483647) ∧ True) → (True) → ((an_f 0 (Int32.ofInt (x5)) (Int32.ofInt (x3))).toInt = y 6 ∧ True) → ((τ.1 9 (x4).toNat).toInt = x5 ∧ (τ.1 15 (x1).toNat).toInt = x4 ∧ True) → Ok 93 14 64 [.ref 74, .int (Int32.ofInt (x0)), .int (Int32.ofInt (x1)), .int (Int32.ofInt (x2)), .int (Int32.ofInt (x3))] [.int (Int32.ofInt (y 6)), .int (Int32.ofInt (x4)), .ref 9] τ Q)
    : Ok 93 14 50 [.ref 74, .int (Int32.ofInt (x0)), .int (Int32.ofInt (x1)), .int (Int32.ofInt (x2)), .int (Int32.ofInt (x3))] [] σ Q := by
  refine an_seg (B := pm_B) (F := []) (T := [9, 15]) (S := []) (fun _ h => absurd h List.not_mem_nil) (k := 93) (d := 13) (cs := [64]) 16 50 6 [(0, 0, 30), (1, 0, 29), (2, 0, 9), (3, (-2147483648), 2147483647), (4, 0, 9), (5, (-2147483648), 2147483647)] [(15, (0, 1, 0), (0, 4, 0)), (9, (0, 4, 0), (0, 5, 0))] [(2, 74, 0), (0, 0, 0), (0, 1, 0), (0, 2, 0), (0, 3, 0)] [] [(64, [(2, 74, 0), (0, 0, 0), (0, 1, 0), (0, 2, 0), (0, 3, 0)], [(0, 6, 0), (0, 4, 0), (2, 9, 0)], [(0, 0, 30), (1, 0, 29), (2, 0, 9), (3, (-2147483648), 2147483647), (4, 0, 9), (5, (-2147483648), 2147483647), (6, (-2147483648), 2147483647)], [], [(0, (0, 5, 0), (0, 3, 0), 6)], [(9, (0, 4, 0), (0, 5, 0)), (15, (0, 1, 0), (0, 4, 0))])] (by decide +kernel) (ρ0 := (fun s => [x0, x1, x2, x3, x4, x5].getD s 0)) hB eF eC ⟨rfl, ⟨rfl, ⟨rfl, ⟨rfl, ⟨rfl, trivial⟩⟩⟩⟩⟩ trivial ?_
  refine List.forall_mem_cons.mpr ⟨?_, fun _ h => absurd h List.not_mem_nil⟩
  · intro ρ τ Lc stc hx g1 g2 g3 g4 g5 g6 g7 g8
    have e0 : ρ 0 = x0 := hx 0 (by decide)
    have e1 : ρ 1 = x1 := hx 1 (by decide)
    have e2 : ρ 2 = x2 := hx 2 (by decide)
    have e3 : ρ 3 = x3 := hx 3 (by decide)
    have e4 : ρ 4 = x4 := hx 4 (by decide)
    have e5 : ρ 5 = x5 := hx 5 (by decide)
    subst e0
    subst e1
    subst e2
    subst e3
    subst e4
    subst e5
    have g7 := g7 (by decide)
    match Lc, stc, g7, g8 with
    | [v0, v1, v2, v3, v4], [w0, w1, w2], ⟨hv0, hv1, hv2, hv3, hv4, _⟩, ⟨hw0, hw1, hw2, _⟩ =>
      cases hv0
      cases hv1
      cases hv2
      cases hv3
      cases hv4
      cases hw0
      cases hw1
      cases hw2
      exact l0 τ ρ  g1 g2 g3 g4 g5 g6
set_option maxRecDepth 100000 in
theorem pf_p65 {σ : pm_S} {Q : Option Value → pm_S → Prop} (x0 x1 x2 x3 x4 : Int)  (hB : an_GB pm_B σ) (eF : (0 ≤ x0 ∧ x0 ≤ 30) ∧ (0 ≤ x1 ∧ x1 ≤ 29) ∧ (0 ≤ x2 ∧ x2 ≤ 9) ∧ ((-2147483648) ≤ x3 ∧ x3 ≤ 2147483647) ∧ ((-2147483648) ≤ x4 ∧ x4 ≤ 2147483647) ∧ True) (eC : (σ.1 1 1).toInt = x4 ∧ True)
    (l0 : ∀ (τ : pm_S) (y : Nat → Int), an_GB pm_B τ → FQ [] σ τ → ((0 ≤ x0 ∧ x0 ≤ 30) ∧ (0 ≤ x1 ∧ x1 ≤ 29) ∧ (0 ≤ x2 ∧ x2 ≤ 9) ∧ ((-2147483648) ≤ x3 ∧ x3 ≤ 2147483647) ∧ ((-2147483648) ≤ x4 ∧ x4 ≤ 2147483647) ∧ True) → (True) → (True) → ((τ.1 1 1).toInt = x4 ∧ True) → Ok 93 14 73 [.ref 74, .int (Int32.ofInt (x0)), .int (Int32.ofInt (x1)), .int (Int32.ofInt (x2)), .int (Int32.ofInt (x3))] [.int (Int32.ofInt 1), .int (Int32.ofInt (x4)), .int (Int32.ofInt (x1)), .ref 13] τ Q)
    : Ok 93 14 65 [.ref 74, .int (Int32.ofInt (x0)), .int (Int32.ofInt (x1)), .int (Int32.ofInt (x2)), .int (Int32.ofInt (x3))] [] σ Q := by
  refine an_seg (B := pm_B) (F := []) (T := []) (S := []) (fun _ h => absurd h List.not_mem_nil) (k := 93) (d := 13) (cs := [73]) 10 65 5 [(0, 0, 30), (1, 0, 29), (2, 0, 9), (3, (-2147483648), 2147483647), (4, (-2147483648), 2147483647)] [(1, (1, 0, 1), (0, 4, 0))] [(2, 74, 0), (0, 0, 0), (0, 1, 0), (0, 2, 0), (0, 3, 0)] [] [(73, [(2, 74, 0), (0, 0, 0), (0, 1, 0), (0, 2, 0), (0, 3, 0)], [(1, 0, 1), (0, 4, 0), (0, 1, 0), (2, 13, 0)], [(0, 0, 30), (1, 0, 29), (2, 0, 9), (3, (-2147483648), 2147483647), (4, (-2147483648), 2147483647)], [], [], [(1, (1, 0, 1), (0, 4, 0))])] (by decide +kernel) (ρ0 := (fun s => [x0, x1, x2, x3, x4].getD s 0)) hB eF eC ⟨rfl, ⟨rfl, ⟨rfl, ⟨rfl, ⟨rfl, trivial⟩⟩⟩⟩⟩ trivial ?_
  refine List.forall_mem_cons.mpr ⟨?_, fun _ h => absurd h List.not_mem_nil⟩
  · intro ρ τ Lc stc hx g1 g2 g3 g4 g5 g6 g7 g8
    have e0 : ρ 0 = x0 := hx 0 (by decide)
    have e1 : ρ 1 = x1 := hx 1 (by decide)
    have e2 : ρ 2 = x2 := hx 2 (by decide)
    have e3 : ρ 3 = x3 := hx 3 (by decide)
    have e4 : ρ 4 = x4 := hx 4 (by decide)
    subst e0
    subst e1
    subst e2
    subst e3
    subst e4
    have g7 := g7 (by decide)
    match Lc, stc, g7, g8 with
    | [v0, v1, v2, v3, v4], [w0, w1, w2, w3], ⟨hv0, hv1, hv2, hv3, hv4, _⟩, ⟨hw0, hw1, hw2, hw3, _⟩ =>
      cases hv0
      cases hv1
      cases hv2
      cases hv3
      cases hv4
      cases hw0
      cases hw1
      cases hw2
      cases hw3
      exact l0 τ ρ  g1 g2 g3 g4 g5 g6
set_option maxRecDepth 100000 in
theorem pf_p74 {σ : pm_S} {Q : Option Value → pm_S → Prop} (x0 x1 x2 x3 : Int)  (hB : an_GB pm_B σ) (eF : (0 ≤ x0 ∧ x0 ≤ 29) ∧ (0 ≤ x1 ∧ x1 ≤ 29) ∧ (0 ≤ x2 ∧ x2 ≤ 9) ∧ ((-2147483648) ≤ x3 ∧ x3 ≤ 2147483647) ∧ True)
    (l0 : ∀ (τ : pm_S) (y : Nat → Int), an_GB pm_B τ → FQ [] σ τ → ((0 ≤ x0 ∧ x0 ≤ 29) ∧ (0 ≤ x1 ∧ x1 ≤ 29) ∧ (0 ≤ x2 ∧ x2 ≤ 9) ∧ ((-2147483648) ≤ x3 ∧ x3 ≤ 2147483647) ∧ True) → (True) → (True) → (True) → Ok 93 14 4 [.ref 74, .int (Int32.ofInt (x0 + 1)), .int (Int32.ofInt (x1 + 1)), .int (Int32.ofInt (x2)), .int (Int32.ofInt (x3))] [] τ Q)
    : Ok 93 14 74 [.ref 74, .int (Int32.ofInt (x0)), .int (Int32.ofInt (x1)), .int (Int32.ofInt (x2)), .int (Int32.ofInt (x3))] [] σ Q := by
  refine an_seg (B := pm_B) (F := []) (T := []) (S := []) (fun _ h => absurd h List.not_mem_nil) (k := 93) (d := 13) (cs := [4]) 5 74 4 [(0, 0, 29), (1, 0, 29), (2, 0, 9), (3, (-2147483648), 2147483647)] [] [(2, 74, 0), (0, 0, 0), (0, 1, 0), (0, 2, 0), (0, 3, 0)] [] [(4, [(2, 74, 0), (0, 0, 1), (0, 1, 1), (0, 2, 0), (0, 3, 0)], [], [(0, 0, 29), (1, 0, 29), (2, 0, 9), (3, (-2147483648), 2147483647)], [], [], [])] (by decide +kernel) (ρ0 := (fun s => [x0, x1, x2, x3].getD s 0)) hB eF trivial ⟨rfl, ⟨rfl, ⟨rfl, ⟨rfl, ⟨rfl, trivial⟩⟩⟩⟩⟩ trivial ?_
  refine List.forall_mem_cons.mpr ⟨?_, fun _ h => absurd h List.not_mem_nil⟩
  · intro ρ τ Lc stc hx g1 g2 g3 g4 g5 g6 g7 g8
    have e0 : ρ 0 = x0 := hx 0 (by decide)
    have e1 : ρ 1 = x1 := hx 1 (by decide)
    have e2 : ρ 2 = x2 := hx 2 (by decide)
    have e3 : ρ 3 = x3 := hx 3 (by decide)
    subst e0
    subst e1
    subst e2
    subst e3
    have g7 := g7 (by decide)
    match Lc, stc, g7, g8 with
    | [v0, v1, v2, v3, v4], [], ⟨hv0, hv1, hv2, hv3, hv4, _⟩, _ =>
      cases hv0
      cases hv1
      cases hv2
      cases hv3
      cases hv4
      exact l0 τ ρ  g1 g2 g3 g4 g5 g6
set_option maxRecDepth 100000 in
theorem pf_p75 {σ : pm_S} {Q : Option Value → pm_S → Prop} (x0 x1 : Int) (v3 : Value) (v4 : Value) (hv3 : v3.category = 1) (hv4 : v4.category = 1) (hB : an_GB pm_B σ) (eF : (0 ≤ x0 ∧ x0 ≤ 30) ∧ (0 ≤ x1 ∧ x1 ≤ 29) ∧ True)
    (l0 : ∀ (τ : pm_S) (y : Nat → Int) (v3 : Value) (v4 : Value), v3.category = 1 → v4.category = 1 → an_GB pm_B τ → FQ [] σ τ → ((0 ≤ x0 ∧ x0 ≤ 30) ∧ (0 ≤ x1 ∧ x1 ≤ 29) ∧ True) → (True) → (True) → (True) → Ok 93 14 4 [.ref 74, .int (Int32.ofInt (x0)), .int (Int32.ofInt (x1 + 1)), v3, v4] [] τ Q)
    : Ok 93 14 75 [.ref 74, .int (Int32.ofInt (x0)), .int (Int32.ofInt (x1)), v3, v4] [] σ Q := by
  refine an_seg (B := pm_B) (F := []) (T := []) (S := []) (fun _ h => absurd h List.not_mem_nil) (k := 93) (d := 13) (cs := [4]) 4 75 2 [(0, 0, 30), (1, 0, 29)] [] [(2, 74, 0), (0, 0, 0), (0, 1, 0), (5, 0, 0), (5, 0, 0)] [] [(4, [(2, 74, 0), (0, 0, 0), (0, 1, 1), (5, 0, 0), (5, 0, 0)], [], [(0, 0, 30), (1, 0, 29)], [], [], [])] (by decide +kernel) (ρ0 := (fun s => [x0, x1].getD s 0)) hB eF trivial ⟨rfl, ⟨rfl, ⟨rfl, ⟨hv3, ⟨hv4, trivial⟩⟩⟩⟩⟩ trivial ?_
  refine List.forall_mem_cons.mpr ⟨?_, fun _ h => absurd h List.not_mem_nil⟩
  · intro ρ τ Lc stc hx g1 g2 g3 g4 g5 g6 g7 g8
    have e0 : ρ 0 = x0 := hx 0 (by decide)
    have e1 : ρ 1 = x1 := hx 1 (by decide)
    subst e0
    subst e1
    have g7 := g7 (by decide)
    match Lc, stc, g7, g8 with
    | [v0, v1, v2, v3, v4], [], ⟨hv0, hv1, hv2, hv3, hv4, _⟩, _ =>
      cases hv0
      cases hv1
      cases hv2
      exact l0 τ ρ v3 v4 hv3 hv4 g1 g2 g3 g4 g5 g6
set_option maxRecDepth 100000 in
theorem pf_p77 {σ : pm_S} {Q : Option Value → pm_S → Prop} (x0 : Int) (v2 : Value) (v3 : Value) (v4 : Value) (hv2 : v2.category = 1) (hv3 : v3.category = 1) (hv4 : v4.category = 1) (hB : an_GB pm_B σ) (eF : (0 ≤ x0 ∧ x0 ≤ 30) ∧ True)
    (l0 : ∀ (τ : pm_S) (y : Nat → Int), an_GB pm_B τ → FQ [] σ τ → ((0 ≤ x0 ∧ x0 ≤ 30) ∧ True) → (True) → (True) → (True) → Q (some (.int (Int32.ofInt (x0)))) τ)
    : Ok 93 14 77 [.ref 74, .int (Int32.ofInt (x0)), v2, v3, v4] [] σ Q := by
  refine an_seg (B := pm_B) (F := []) (T := []) (S := []) (fun _ h => absurd h List.not_mem_nil) (k := 93) (d := 13) (cs := []) 4 77 1 [(0, 0, 30)] [] [(2, 74, 0), (0, 0, 0), (5, 0, 0), (5, 0, 0), (5, 0, 0)] [] [(9999, [], [(0, 0, 0)], [(0, 0, 30)], [], [], [])] (by decide +kernel) (ρ0 := (fun s => [x0].getD s 0)) hB eF trivial ⟨rfl, ⟨rfl, ⟨hv2, ⟨hv3, ⟨hv4, trivial⟩⟩⟩⟩⟩ trivial ?_
  refine List.forall_mem_cons.mpr ⟨?_, fun _ h => absurd h List.not_mem_nil⟩
  · intro ρ τ Lc stc hx g1 g2 g3 g4 g5 g6 g7 g8
    have e0 : ρ 0 = x0 := hx 0 (by decide)
    subst e0
    match stc, g8 with
    | [_], ⟨h, _⟩ => cases h; exact l0 τ ρ g1 g2 g3 g4 g5 g6
set_option maxRecDepth 100000 in
theorem pf_t0 {σ : pm_S} {Q : Option Value → pm_S → Prop} (x0 x1 x2 : Int) (v4 : Value) (hv4 : v4.category = 1) (hB : an_GB pm_B σ) (eF : (0 ≤ x0 ∧ x0 ≤ 10000) ∧ (1 ≤ x1 ∧ x1 ≤ 52) ∧ (0 ≤ x2 ∧ x2 ≤ 99) ∧ True)
    (l0 : ∀ (τ : pm_S) (y : Nat → Int), an_GB pm_B τ → FQ [] σ τ → ((0 ≤ x0 ∧ x0 ≤ 10000) ∧ (1 ≤ x1 ∧ x1 ≤ 52) ∧ (0 ≤ x2 ∧ x2 ≤ 99) ∧ True) → (True) → (True) → (True) → Ok 9 4 2 [.ref 13, .int (Int32.ofInt (x0)), .int (Int32.ofInt (x1)), .int (Int32.ofInt (x2)), .int (Int32.ofInt 0)] [] τ Q)
    : Ok 9 4 0 [.ref 13, .int (Int32.ofInt (x0)), .int (Int32.ofInt (x1)), .int (Int32.ofInt (x2)), v4] [] σ Q := by
  refine an_seg (B := pm_B) (F := []) (T := []) (S := []) (fun _ h => absurd h List.not_mem_nil) (k := 9) (d := 3) (cs := [2]) 4 0 3 [(0, 0, 10000), (1, 1, 52), (2, 0, 99)] [] [(2, 13, 0), (0, 0, 0), (0, 1, 0), (0, 2, 0), (5, 0, 0)] [] [(2, [(2, 13, 0), (0, 0, 0), (0, 1, 0), (0, 2, 0), (1, 0, 0)], [], [(0, 0, 10000), (1, 1, 52), (2, 0, 99)], [], [], [])] (by decide +kernel) (ρ0 := (fun s => [x0, x1, x2].getD s 0)) hB eF trivial ⟨rfl, ⟨rfl, ⟨rfl, ⟨rfl, ⟨hv4, trivial⟩⟩⟩⟩⟩ trivial ?_
  refine List.forall_mem_cons.mpr ⟨?_, fun _ h => absurd h List.not_mem_nil⟩
  · intro ρ τ Lc stc hx g1 g2 g3 g4 g5 g6 g7 g8
    have e0 : ρ 0 = x0 := hx 0 (by decide)
    have e1 : ρ 1 = x1 := hx 1 (by decide)
    have e2 : ρ 2 = x2 := hx 2 (by decide)
    subst e0
    subst e1
    subst e2
    have g7 := g7 (by decide)
    match Lc, stc, g7, g8 with
    | [v0, v1, v2, v3, v4], [], ⟨hv0, hv1, hv2, hv3, hv4, _⟩, _ =>
      cases hv0
      cases hv1
      cases hv2
      cases hv3
      cases hv4
      exact l0 τ ρ  g1 g2 g3 g4 g5 g6
set_option maxRecDepth 100000 in
theorem pf_t2 {σ : pm_S} {Q : Option Value → pm_S → Prop} (x0 x1 x2 x3 x4 : Int)  (hB : an_GB pm_B σ) (eF : (0 ≤ x0 ∧ x0 ≤ 10000) ∧ (1 ≤ x1 ∧ x1 ≤ 52) ∧ (0 ≤ x2 ∧ x2 ≤ 99) ∧ (0 ≤ x3 ∧ x3 ≤ 30) ∧ (0 ≤ x4 ∧ x4 ≤ 30) ∧ True) (eC : (σ.1 13 0).toInt = x4 ∧ True)
    (l0 : ∀ (τ : pm_S) (y : Nat → Int), an_GB pm_B τ → FQ [] σ τ → ((0 ≤ x0 ∧ x0 ≤ 10000) ∧ (1 ≤ x1 ∧ x1 ≤ 52) ∧ (0 ≤ x2 ∧ x2 ≤ 99) ∧ (0 ≤ x3 ∧ x3 ≤ 30) ∧ (0 ≤ x4 ∧ x4 ≤ 30) ∧ True) → (True) → (True) → ((τ.1 13 0).toInt = x4 ∧ True) → Ok 9 4 5 [.ref 13, .int (Int32.ofInt (x0)), .int (Int32.ofInt (x1)), .int (Int32.ofInt (x2)), .int (Int32.ofInt (x3))] [.int (Int32.ofInt (x4)), .int (Int32.ofInt (x3))] τ Q)
    : Ok 9 4 2 [.ref 13, .int (Int32.ofInt (x0)), .int (Int32.ofInt (x1)), .int (Int32.ofInt (x2)), .int (Int32.ofInt (x3))] [] σ Q := by
  refine an_seg (B := pm_B) (F := []) (T := []) (S := []) (fun _ h => absurd h List.not_mem_nil) (k := 9) (d := 3) (cs := [5]) 5 2 5 [(0, 0, 10000), (1, 1, 52), (2, 0, 99), (3, 0, 30), (4, 0, 30)] [(13, (1, 0, 0), (0, 4, 0))] [(2, 13, 0), (0, 0, 0), (0, 1, 0), (0, 2, 0), (0, 3, 0)] [] [(5, [(2, 13, 0), (0, 0, 0), (0, 1, 0), (0, 2, 0), (0, 3, 0)], [(0, 4, 0), (0, 3, 0)], [(0, 0, 10000), (1, 1, 52), (2, 0, 99), (3, 0, 30), (4, 0, 30)], [], [], [(13, (1, 0, 0), (0, 4, 0))])] (by decide +kernel) (ρ0 := (fun s => [x0, x1, x2, x3, x4].getD s 0)) hB eF eC ⟨rfl, ⟨rfl, ⟨rfl, ⟨rfl, ⟨rfl, trivial⟩⟩⟩⟩⟩ trivial ?_
  refine List.forall_mem_cons.mpr ⟨?_, fun _ h => absurd h List.not_mem_nil⟩
  · intro ρ τ Lc stc hx g1 g2 g3 g4 g5 g6 g7 g8
    have e0 : ρ 0 = x0 := hx 0 (by decide)
    have e1 : ρ 1 = x1 := hx 1 (by decide)
    have e2 : ρ 2 = x2 := hx 2 (by decide)
    have e3 : ρ 3 = x3 := hx 3 (by decide)
    have e4 : ρ 4 = x4 := hx 4 (by decide)
    subst e0
    subst e1
    subst e2
    subst e3
    subst e4
    have g7 := g7 (by decide)
    match Lc, stc, g7, g8 with
    | [v0, v1, v2, v3, v4], [w0, w1], ⟨hv0, hv1, hv2, hv3, hv4, _⟩, ⟨hw0, hw1, _⟩ =>
      cases hv0
      cases hv1
      cases hv2
      cases hv3
      cases hv4
      cases hw0
      cases hw1
      exact l0 τ ρ  g1 g2 g3 g4 g5 g6
set_option maxRecDepth 100000 in
theorem pf_t6 {σ : pm_S} {Q : Option Value → pm_S → Prop} (x0 x1 x2 x3 : Int)  (hB : an_GB pm_B σ) (eF : (0 ≤ x0 ∧ x0 ≤ 10000) ∧ (1 ≤ x1 ∧ x1 ≤ 52) ∧ (0 ≤ x2 ∧ x2 ≤ 99) ∧ (0 ≤ x3 ∧ x3 ≤ 29) ∧ True)
    (l0 : ∀ (τ : pm_S) (y : Nat → Int), an_GB pm_B τ → FQ [] σ τ → ((0 ≤ x0 ∧ x0 ≤ 10000) ∧ (1 ≤ x1 ∧ x1 ≤ 52) ∧ (0 ≤ x2 ∧ x2 ≤ 0) ∧ (0 ≤ x3 ∧ x3 ≤ 29) ∧ True) → (True) → (True) → (True) → Q none τ)
    (l1 : ∀ (τ : pm_S) (y : Nat → Int), an_GB pm_B τ → FQ [] σ τ → ((0 ≤ x0 ∧ x0 ≤ 10000) ∧ (1 ≤ x1 ∧ x1 ≤ 52) ∧ (1 ≤ x2 ∧ x2 ≤ 99) ∧ (0 ≤ x3 ∧ x3 ≤ 29) ∧ True) → (True) → (True) → (True) → Ok 9 4 10 [.ref 13, .int (Int32.ofInt (x0)), .int (Int32.ofInt (x1)), .int (Int32.ofInt (x2)), .int (Int32.ofInt (x3))] [.int (Int32.ofInt (x3)), .ref 13] τ Q)
    : Ok 9 4 6 [.ref 13, .int (Int32.ofInt (x0)), .int (Int32.ofInt (x1)), .int (Int32.ofInt (x2)), .int (Int32.ofInt (x3))] [] σ Q := by
  refine an_seg (B := pm_B) (F := []) (T := []) (S := []) (fun _ h => absurd h List.not_mem_nil) (k := 9) (d := 3) (cs := [10]) 6 6 4 [(0, 0, 10000), (1, 1, 52), (2, 0, 99), (3, 0, 29)] [] [(2, 13, 0), (0, 0, 0), (0, 1, 0), (0, 2, 0), (0, 3, 0)] [] [(9999, [], [], [(0, 0, 10000), (1, 1, 52), (2, 0, 0), (3, 0, 29)], [], [], []),
    (10, [(2, 13, 0), (0, 0, 0), (0, 1, 0), (0, 2, 0), (0, 3, 0)], [(0, 3, 0), (2, 13, 0)], [(0, 0, 10000), (1, 1, 52), (2, 1, 99), (3, 0, 29)], [], [], [])] (by decide +kernel) (ρ0 := (fun s => [x0, x1, x2, x3].getD s 0)) hB eF trivial ⟨rfl, ⟨rfl, ⟨rfl, ⟨rfl, ⟨rfl, trivial⟩⟩⟩⟩⟩ trivial ?_
  refine List.forall_mem_cons.mpr ⟨?_, List.forall_mem_cons.mpr ⟨?_, fun _ h => absurd h List.not_mem_nil⟩⟩
  · intro ρ τ Lc stc hx g1 g2 g3 g4 g5 g6 g7 g8
    have e0 : ρ 0 = x0 := hx 0 (by decide)
    have e1 : ρ 1 = x1 := hx 1 (by decide)
    have e2 : ρ 2 = x2 := hx 2 (by decide)
    have e3 : ρ 3 = x3 := hx 3 (by decide)
    subst e0
    subst e1
    subst e2
    subst e3
    match stc, g8 with
    | [], _ => exact l0 τ ρ g1 g2 g3 g4 g5 g6
  · intro ρ τ Lc stc hx g1 g2 g3 g4 g5 g6 g7 g8
    have e0 : ρ 0 = x0 := hx 0 (by decide)
    have e1 : ρ 1 = x1 := hx 1 (by decide)
    have e2 : ρ 2 = x2 := hx 2 (by decide)
    have e3 : ρ 3 = x3 := hx 3 (by decide)
    subst e0
    subst e1
    subst e2
    subst e3
    have g7 := g7 (by decide)
    match Lc, stc, g7, g8 with
    | [v0, v1, v2, v3, v4], [w0, w1], ⟨hv0, hv1, hv2, hv3, hv4, _⟩, ⟨hw0, hw1, _⟩ =>
      cases hv0
      cases hv1
      cases hv2
      cases hv3
      cases hv4
      cases hw0
      cases hw1
      exact l1 τ ρ  g1 g2 g3 g4 g5 g6
set_option maxRecDepth 100000 in
theorem pf_t11 {σ : pm_S} {Q : Option Value → pm_S → Prop} (x0 x1 x2 x3 x4 x5 x6 : Int)  (hB : an_GB pm_B σ) (eF : (0 ≤ x0 ∧ x0 ≤ 10000) ∧ (1 ≤ x1 ∧ x1 ≤ 52) ∧ (1 ≤ x2 ∧ x2 ≤ 99) ∧ (0 ≤ x3 ∧ x3 ≤ 29) ∧ (0 ≤ x4 ∧ x4 ≤ 1) ∧ ((-2147483648) ≤ x5 ∧ x5 ≤ 2147483647) ∧ (0 ≤ x6 ∧ x6 ≤ 99999) ∧ True) (eC : (σ.1 18 (x3).toNat).toInt = x5 ∧ (σ.1 16 (x3).toNat).toInt = x6 ∧ True)
    (l0 : ∀ (τ : pm_S) (y : Nat → Int), an_GB pm_B τ → FQ [] σ τ → ((0 ≤ x0 ∧ x0 ≤ 10000) ∧ (1 ≤ x1 ∧ x1 ≤ 52) ∧ (1 ≤ x2 ∧ x2 ≤ 99) ∧ (0 ≤ x3 ∧ x3 ≤ 29) ∧ (0 ≤ x4 ∧ x4 ≤ 0) ∧ ((-2147483648) ≤ x5 ∧ x5 ≤ 2147483647) ∧ (0 ≤ x6 ∧ x6 ≤ 99999) ∧ True) → (True) → (True) → ((τ.1 16 (x3).toNat).toInt = x6 ∧ (τ.1 18 (x3).toNat).toInt = x5 ∧ True) → Ok 9 4 2 [.ref 13, .int (Int32.ofInt (x0)), .int (Int32.ofInt (x1)), .int (Int32.ofInt (x2)), .int (Int32.ofInt (x3 + 1))] [] τ Q)
    (l1 : ∀ (τ : pm_S) (y : Nat → Int), an_GB pm_B τ → FQ [] σ τ → ((0 ≤ x0 ∧ x0 ≤ 10000) ∧ (1 ≤ x1 ∧ x1 ≤ 52) ∧ (1 ≤ x2 ∧ x2 ≤ 99) ∧ (0 ≤ x3 ∧ x3 ≤ 29) ∧ (1 ≤ x4 ∧ x4 ≤ 1) ∧ ((-2147483648) ≤ x5 ∧ x5 ≤ 2147483647) ∧ (0 ≤ x6 ∧ x6 ≤ 99999) ∧ ((-2147483648) ≤ y 7 ∧ y 7 ≤ 2147483647) ∧ ((-51) ≤ y 8 ∧ y 8 ≤ 51) ∧ True) → (y 8 ≠ 0 ∧ y 8 ≤ x1 + (-1) ∧ (y 8).natAbs < (x1).natAbs ∧ True) → ((an_f 1 (Int32.ofInt (x0)) (Int32.ofInt (x5))).toInt = y 7 ∧ (an_f 10 (Int32.ofInt (y 7)) (Int32.ofInt (x1))).toInt = y 8 ∧ True) → ((τ.1 16 (x3).toNat).toInt = x6 ∧ (τ.1 18 (x3).toNat).toInt = x5 ∧ True) → Ok 9 4 2 [.ref 13, .int (Int32.ofInt (x0)), .int (Int32.ofInt (x1)), .int (Int32.ofInt (x2)), .int (Int32.ofInt (x3 + 1))] [] τ Q)
    (l2 : ∀ (τ : pm_S) (y : Nat → Int), an_GB pm_B τ → FQ [] σ τ → ((0 ≤ x0 ∧ x0 ≤ 10000) ∧ (1 ≤ x1 ∧ x1 ≤ 52) ∧ (1 ≤ x2 ∧ x2 ≤ 99) ∧ (0 ≤ x3 ∧ x3 ≤ 29) ∧ (1 ≤ x4 ∧ x4 ≤ 1) ∧ ((-2147483648) ≤ x5 ∧ x5 ≤ 2147483647) ∧ (0 ≤ x6 ∧ x6 ≤ 99999) ∧ ((-2147483648) ≤ y 7 ∧ y 7 ≤ 2147483647) ∧ (0 ≤ y 8 ∧ y 8 ≤ 0) ∧ (0 ≤ y 9 ∧ y 9 ≤ 9899901) ∧ (0 ≤ y 10 ∧ y 10 ≤ 98999) ∧ (0 ≤ y 11 ∧ y 11 ≤ 198998) ∧ (0 ≤ y 12 ∧ y 12 ≤ 99999) ∧ True) → (y 8 ≤ x1 + (-1) ∧ (y 8).natAbs < (x1).natAbs ∧ True) → ((an_f 1 (Int32.ofInt (x0)) (Int32.ofInt (x5))).toInt = y 7 ∧ (an_f 10 (Int32.ofInt (y 7)) (Int32.ofInt (x1))).toInt = y 8 ∧ (an_f 2 (Int32.ofInt (x6)) (Int32.ofInt (x2))).toInt = y 9 ∧ (an_f 9 (Int32.ofInt (y 9)) (Int32.ofInt (100))).toInt = y 10 ∧ (an_f 0 (Int32.ofInt (x6)) (Int32.ofInt (y 10))).toInt = y 11 ∧ (an_f 11 (Int32.ofInt (99999)) (Int32.ofInt (y 11))).toInt = y 12 ∧ True) → ((τ.1 16 (x3).toNat).toInt = x6 ∧ (τ.1 18 (x3).toNat).toInt = x5 ∧ True) → Ok 9 4 34 [.ref 13, .int (Int32.ofInt (x0)), .int (Int32.ofInt (x1)), .int (Int32.ofInt (x2)), .int (Int32.ofInt (x3))] [.int (Int32.ofInt (y 12)), .int (Int32.ofInt (x3)), .ref 16] τ Q)
    : Ok 9 4 11 [.ref 13, .int (Int32.ofInt (x0)), .int (Int32.ofInt (x1)), .int (Int32.ofInt (x2)), .int (Int32.ofInt (x3))] [.int (Int32.ofInt (x4))] σ Q := by
  refine an_seg (B := pm_B) (F := []) (T := [16, 18]) (S := []) (fun _ h => absurd h List.not_mem_nil) (k := 9) (d := 3) (cs := [2, 34]) 33 11 7 [(0, 0, 10000), (1, 1, 52), (2, 1, 99), (3, 0, 29), (4, 0, 1), (5, (-2147483648), 2147483647), (6, 0, 99999)] [(18, (0, 3, 0), (0, 5, 0)), (16, (0, 3, 0), (0, 6, 0))] [(2, 13, 0), (0, 0, 0), (0, 1, 0), (0, 2, 0), (0, 3, 0)] [(0, 4, 0)] [(2, [(2, 13, 0), (0, 0, 0), (0, 1, 0), (0, 2, 0), (0, 3, 1)], [], [(0, 0, 10000), (1, 1, 52), (2, 1, 99), (3, 0, 29), (4, 0, 0), (5, (-2147483648), 2147483647), (6, 0, 99999)], [], [], [(16, (0, 3, 0), (0, 6, 0)), (18, (0, 3, 0), (0, 5, 0))]),
    (2, [(2, 13, 0), (0, 0, 0), (0, 1, 0), (0, 2, 0), (0, 3, 1)], [], [(0, 0, 10000), (1, 1, 52), (2, 1, 99), (3, 0, 29), (4, 1, 1), (5, (-2147483648), 2147483647), (6, 0, 99999), (7, (-2147483648), 2147483647), (8, (-51), 51)], [(3, 8, 8, 0), (1, 8, 1, (-1)), (2, 8, 1, 0)], [(1, (0, 0, 0), (0, 5, 0), 7), (10, (0, 7, 0), (0, 1, 0), 8)], [(16, (0, 3, 0), (0, 6, 0)), (18, (0, 3, 0), (0, 5, 0))]),
    (34, [(2, 13, 0), (0, 0, 0), (0, 1, 0), (0, 2, 0), (0, 3, 0)], [(0, 12, 0), (0, 3, 0), (2, 16, 0)], [(0, 0, 10000), (1, 1, 52), (2, 1, 99), (3, 0, 29), (4, 1, 1), (5, (-2147483648), 2147483647), (6, 0, 99999), (7, (-2147483648), 2147483647), (8, 0, 0), (9, 0, 9899901), (10, 0, 98999), (11, 0, 198998), (12, 0, 99999)], [(1, 8, 1, (-1)), (2, 8, 1, 0)], [(1, (0, 0, 0), (0, 5, 0), 7), (10, (0, 7, 0), (0, 1, 0), 8), (2, (0, 6, 0), (0, 2, 0), 9), (9, (0, 9, 0), (1, 0, 100), 10), (0, (0, 6, 0), (0, 10, 0), 11), (11, (1, 0, 99999), (0, 11, 0), 12)], [(16, (0, 3, 0), (0, 6, 0)), (18, (0, 3, 0), (0, 5, 0))])] (by decide +kernel) (ρ0 := (fun s => [x0, x1, x2, x3, x4, x5, x6].getD s 0)) hB eF eC ⟨rfl, ⟨rfl, ⟨rfl, ⟨rfl, ⟨rfl, trivial⟩⟩⟩⟩⟩ ⟨rfl, trivial⟩ ?_
  refine List.forall_mem_cons.mpr ⟨?_, List.forall_mem_cons.mpr ⟨?_, List.forall_mem_cons.mpr ⟨?_, fun _ h => absurd h List.not_mem_nil⟩⟩⟩
  · intro ρ τ Lc stc hx g1 g2 g3 g4 g5 g6 g7 g8
    have e0 : ρ 0 = x0 := hx 0 (by decide)
    have e1 : ρ 1 = x1 := hx 1 (by decide)
    have e2 : ρ 2 = x2 := hx 2 (by decide)
    have e3 : ρ 3 = x3 := hx 3 (by decide)
    have e4 : ρ 4 = x4 := hx 4 (by decide)
    have e5 : ρ 5 = x5 := hx 5 (by decide)
    have e6 : ρ 6 = x6 := hx 6 (by decide)
    subst e0
    subst e1
    subst e2
    subst e3
    subst e4
    subst e5
    subst e6
    have g7 := g7 (by decide)
    match Lc, stc, g7, g8 with
    | [v0, v1, v2, v3, v4], [], ⟨hv0, hv1, hv2, hv3, hv4, _⟩, _ =>
      cases hv0
      cases hv1
      cases hv2
      cases hv3
      cases hv4
      exact l0 τ ρ  g1 g2 g3 g4 g5 g6
  · intro ρ τ Lc stc hx g1 g2 g3 g4 g5 g6 g7 g8
    have e0 : ρ 0 = x0 := hx 0 (by decide)
    have e1 : ρ 1 = x1 := hx 1 (by decide)
    have e2 : ρ 2 = x2 := hx 2 (by decide)
    have e3 : ρ 3 = x3 := hx 3 (by decide)
    have e4 : ρ 4 = x4 := hx 4 (by decide)
    have e5 : ρ 5 = x5 := hx 5 (by decide)
    have e6 : ρ 6 = x6 := hx 6 (by decide)
    subst e0
    subst e1
    subst e2
    subst e3
    subst e4
    subst e5
    subst e6
    have g7 := g7 (by decide)
    match Lc, stc, g7, g8 with
    | [v0, v1, v2, v3, v4], [], ⟨hv0, hv1, hv2, hv3, hv4, _⟩, _ =>
      cases hv0
      cases hv1
      cases hv2
      cases hv3
      cases hv4
      exact l1 τ ρ  g1 g2 g3 g4 g5 g6
  · intro ρ τ Lc stc hx g1 g2 g3 g4 g5 g6 g7 g8
    have e0 : ρ 0 = x0 := hx 0 (by decide)
    have e1 : ρ 1 = x1 := hx 1 (by decide)
    have e2 : ρ 2 = x2 := hx 2 (by decide)
    have e3 : ρ 3 = x3 := hx 3 (by decide)
    have e4 : ρ 4 = x4 := hx 4 (by decide)
    have e5 : ρ 5 = x5 := hx 5 (by decide)
    have e6 : ρ 6 = x6 := hx 6 (by decide)
    subst e0
    subst e1
    subst e2
    subst e3
    subst e4
    subst e5
    subst e6
    have g7 := g7 (by decide)
    match Lc, stc, g7, g8 with
    | [v0, v1, v2, v3, v4], [w0, w1, w2], ⟨hv0, hv1, hv2, hv3, hv4, _⟩, ⟨hw0, hw1, hw2, _⟩ =>
      cases hv0
      cases hv1
      cases hv2
      cases hv3
      cases hv4
      cases hw0
      cases hw1
      cases hw2
      exact l2 τ ρ  g1 g2 g3 g4 g5 g6
set_option maxRecDepth 100000 in
theorem pf_t35 {σ : pm_S} {Q : Option Value → pm_S → Prop} (x0 x1 x2 x3 : Int)  (hB : an_GB pm_B σ) (eF : (0 ≤ x0 ∧ x0 ≤ 10000) ∧ (1 ≤ x1 ∧ x1 ≤ 52) ∧ (0 ≤ x2 ∧ x2 ≤ 99) ∧ (0 ≤ x3 ∧ x3 ≤ 29) ∧ True)
    (l0 : ∀ (τ : pm_S) (y : Nat → Int), an_GB pm_B τ → FQ [] σ τ → ((0 ≤ x0 ∧ x0 ≤ 10000) ∧ (1 ≤ x1 ∧ x1 ≤ 52) ∧ (0 ≤ x2 ∧ x2 ≤ 99) ∧ (0 ≤ x3 ∧ x3 ≤ 29) ∧ True) → (True) → (True) → (True) → Ok 9 4 2 [.ref 13, .int (Int32.ofInt (x0)), .int (Int32.ofInt (x1)), .int (Int32.ofInt (x2)), .int (Int32.ofInt (x3 + 1))] [] τ Q)
    : Ok 9 4 35 [.ref 13, .int (Int32.ofInt (x0)), .int (Int32.ofInt (x1)), .int (Int32.ofInt (x2)), .int (Int32.ofInt (x3))] [] σ Q := by
  refine an_seg (B := pm_B) (F := []) (T := []) (S := []) (fun _ h => absurd h List.not_mem_nil) (k := 9) (d := 3) (cs := [2]) 4 35 4 [(0, 0, 10000), (1, 1, 52), (2, 0, 99), (3, 0, 29)] [] [(2, 13, 0), (0, 0, 0), (0, 1, 0), (0, 2, 0), (0, 3, 0)] [] [(2, [(2, 13, 0), (0, 0, 0), (0, 1, 0), (0, 2, 0), (0, 3, 1)], [], [(0, 0, 10000), (1, 1, 52), (2, 0, 99), (3, 0, 29)], [], [], [])] (by decide +kernel) (ρ0 := (fun s => [x0, x1, x2, x3].getD s 0)) hB eF trivial ⟨rfl, ⟨rfl, ⟨rfl, ⟨rfl, ⟨rfl, trivial⟩⟩⟩⟩⟩ trivial ?_
  refine List.forall_mem_cons.mpr ⟨?_, fun _ h => absurd h List.not_mem_nil⟩
  · intro ρ τ Lc stc hx g1 g2 g3 g4 g5 g6 g7 g8
    have e0 : ρ 0 = x0 := hx 0 (by decide)
    have e1 : ρ 1 = x1 := hx 1 (by decide)
    have e2 : ρ 2 = x2 := hx 2 (by decide)
    have e3 : ρ 3 = x3 := hx 3 (by decide)
    subst e0
    subst e1
    subst e2
    subst e3
    have g7 := g7 (by decide)
    match Lc, stc, g7, g8 with
    | [v0, v1, v2, v3, v4], [], ⟨hv0, hv1, hv2, hv3, hv4, _⟩, _ =>
      cases hv0
      cases hv1
      cases hv2
      cases hv3
      cases hv4
      exact l0 τ ρ  g1 g2 g3 g4 g5 g6
set_option maxRecDepth 100000 in
theorem pf_t37 {σ : pm_S} {Q : Option Value → pm_S → Prop} (x0 x1 x2 : Int) (v4 : Value) (hv4 : v4.category = 1) (hB : an_GB pm_B σ) (eF : (0 ≤ x0 ∧ x0 ≤ 10000) ∧ (1 ≤ x1 ∧ x1 ≤ 52) ∧ (0 ≤ x2 ∧ x2 ≤ 99) ∧ True)
    (l0 : ∀ (τ : pm_S) (y : Nat → Int), an_GB pm_B τ → FQ [] σ τ → ((0 ≤ x0 ∧ x0 ≤ 10000) ∧ (1 ≤ x1 ∧ x1 ≤ 52) ∧ (0 ≤ x2 ∧ x2 ≤ 99) ∧ True) → (True) → (True) → (True) → Q none τ)
    : Ok 9 4 37 [.ref 13, .int (Int32.ofInt (x0)), .int (Int32.ofInt (x1)), .int (Int32.ofInt (x2)), v4] [] σ Q := by
  refine an_seg (B := pm_B) (F := []) (T := []) (S := []) (fun _ h => absurd h List.not_mem_nil) (k := 9) (d := 3) (cs := []) 3 37 3 [(0, 0, 10000), (1, 1, 52), (2, 0, 99)] [] [(2, 13, 0), (0, 0, 0), (0, 1, 0), (0, 2, 0), (5, 0, 0)] [] [(9999, [], [], [(0, 0, 10000), (1, 1, 52), (2, 0, 99)], [], [], [])] (by decide +kernel) (ρ0 := (fun s => [x0, x1, x2].getD s 0)) hB eF trivial ⟨rfl, ⟨rfl, ⟨rfl, ⟨rfl, ⟨hv4, trivial⟩⟩⟩⟩⟩ trivial ?_
  refine List.forall_mem_cons.mpr ⟨?_, fun _ h => absurd h List.not_mem_nil⟩
  · intro ρ τ Lc stc hx g1 g2 g3 g4 g5 g6 g7 g8
    have e0 : ρ 0 = x0 := hx 0 (by decide)
    have e1 : ρ 1 = x1 := hx 1 (by decide)
    have e2 : ρ 2 = x2 := hx 2 (by decide)
    subst e0
    subst e1
    subst e2
    match stc, g8 with
    | [], _ => exact l0 τ ρ g1 g2 g3 g4 g5 g6
set_option maxRecDepth 100000 in
theorem pf_g0 {σ : pm_S} {Q : Option Value → pm_S → Prop} (v1 : Value) (hv1 : v1.category = 1) (hB : an_GB pm_B σ)
    (l0 : ∀ (τ : pm_S) (y : Nat → Int) (v1 : Value), v1.category = 1 → an_GB pm_B τ → FQ [] σ τ → (True) → (True) → (True) → (True) → Ok 90 60 1 [.ref 74, v1] [.ref 74] τ Q)
    : Ok 90 60 0 [.ref 74, v1] [] σ Q := by
  refine an_seg (B := pm_B) (F := []) (T := []) (S := []) (fun _ h => absurd h List.not_mem_nil) (k := 90) (d := 59) (cs := [1]) 3 0 0 [] [] [(2, 74, 0), (5, 0, 0)] [] [(1, [(2, 74, 0), (5, 0, 0)], [(2, 74, 0)], [], [], [], [])] (by decide +kernel) (ρ0 := (fun s => [].getD s 0)) hB trivial trivial ⟨rfl, ⟨hv1, trivial⟩⟩ trivial ?_
  refine List.forall_mem_cons.mpr ⟨?_, fun _ h => absurd h List.not_mem_nil⟩
  · intro ρ τ Lc stc hx g1 g2 g3 g4 g5 g6 g7 g8
    have g7 := g7 (by decide)
    match Lc, stc, g7, g8 with
    | [v0, v1], [w0], ⟨hv0, hv1, _⟩, ⟨hw0, _⟩ =>
      cases hv0
      cases hw0
      exact l0 τ ρ v1 hv1 g1 g2 g3 g4 g5 g6
set_option maxRecDepth 100000 in
theorem pf_g2 {σ : pm_S} {Q : Option Value → pm_S → Prop} (x0 : Int) (v1 : Value) (hv1 : v1.category = 1) (hB : an_GB pm_B σ) (eF : (0 ≤ x0 ∧ x0 ≤ 1) ∧ True) (eC : (σ.1 2 2).toInt = x0 ∧ True)
    (l0 : ∀ (τ : pm_S) (y : Nat → Int), an_GB pm_B τ → FQ [] σ τ → ((0 ≤ x0 ∧ x0 ≤ 0) ∧ True) → (True) → (True) → ((τ.1 2 2).toInt = x0 ∧ True) → Ok 90 60 16 [.ref 74, .int (Int32.ofInt 0)] [.ref 74, .int (Int32.ofInt 0)] τ Q)
    (l1 : ∀ (τ : pm_S) (y : Nat → Int) (v1 : Value), v1.category = 1 → an_GB pm_B τ → FQ [] σ τ → ((1 ≤ x0 ∧ x0 ≤ 1) ∧ True) → (True) → (True) → ((τ.1 2 2).toInt = x0 ∧ True) → Ok 90 60 10 [.ref 74, v1] [.ref 74] τ Q)
    : Ok 90 60 2 [.ref 74, v1] [] σ Q := by
  refine an_seg (B := pm_B) (F := []) (T := []) (S := []) (fun _ h => absurd h List.not_mem_nil) (k := 90) (d := 59) (cs := [10, 16]) 13 2 1 [(0, 0, 1)] [(2, (1, 0, 2), (0, 0, 0))] [(2, 74, 0), (5, 0, 0)] [] [(16, [(2, 74, 0), (1, 0, 0)], [(2, 74, 0), (1, 0, 0)], [(0, 0, 0)], [], [], [(2, (1, 0, 2), (0, 0, 0))]),
    (10, [(2, 74, 0), (5, 0, 0)], [(2, 74, 0)], [(0, 1, 1)], [], [], [(2, (1, 0, 2), (0, 0, 0))])] (by decide +kernel) (ρ0 := (fun s => [x0].getD s 0)) hB eF eC ⟨rfl, ⟨hv1, trivial⟩⟩ trivial ?_
  refine List.forall_mem_cons.mpr ⟨?_, List.forall_mem_cons.mpr ⟨?_, fun _ h => absurd h List.not_mem_nil⟩⟩
  · intro ρ τ Lc stc hx g1 g2 g3 g4 g5 g6 g7 g8
    have e0 : ρ 0 = x0 := hx 0 (by decide)
    subst e0
    have g7 := g7 (by decide)
    match Lc, stc, g7, g8 with
    | [v0, v1], [w0, w1], ⟨hv0, hv1, _⟩, ⟨hw0, hw1, _⟩ =>
      cases hv0
      cases hv1
      cases hw0
      cases hw1
      exact l0 τ ρ  g1 g2 g3 g4 g5 g6
  · intro ρ τ Lc stc hx g1 g2 g3 g4 g5 g6 g7 g8
    have e0 : ρ 0 = x0 := hx 0 (by decide)
    subst e0
    have g7 := g7 (by decide)
    match Lc, stc, g7, g8 with
    | [v0, v1], [w0], ⟨hv0, hv1, _⟩, ⟨hw0, _⟩ =>
      cases hv0
      cases hw0
      exact l1 τ ρ v1 hv1 g1 g2 g3 g4 g5 g6
set_option maxRecDepth 100000 in
theorem pf_g11 {σ : pm_S} {Q : Option Value → pm_S → Prop} (x0 : Int) (v1 : Value) (hv1 : v1.category = 1) (hB : an_GB pm_B σ) (eF : (0 ≤ x0 ∧ x0 ≤ 300) ∧ True)
    (l0 : ∀ (τ : pm_S) (y : Nat → Int), an_GB pm_B τ → FQ [] σ τ → ((0 ≤ x0 ∧ x0 ≤ 300) ∧ True) → (True) → (True) → (True) → Ok 90 60 16 [.ref 74, .int (Int32.ofInt (x0))] [.ref 74, .int (Int32.ofInt (x0))] τ Q)
    : Ok 90 60 11 [.ref 74, v1] [.int (Int32.ofInt (x0))] σ Q := by
  refine an_seg (B := pm_B) (F := []) (T := []) (S := []) (fun _ h => absurd h List.not_mem_nil) (k := 90) (d := 59) (cs := [16]) 6 11 1 [(0, 0, 300)] [] [(2, 74, 0), (5, 0, 0)] [(0, 0, 0)] [(16, [(2, 74, 0), (0, 0, 0)], [(2, 74, 0), (0, 0, 0)], [(0, 0, 300)], [], [], [])] (by decide +kernel) (ρ0 := (fun s => [x0].getD s 0)) hB eF trivial ⟨rfl, ⟨hv1, trivial⟩⟩ ⟨rfl, trivial⟩ ?_
  refine List.forall_mem_cons.mpr ⟨?_, fun _ h => absurd h List.not_mem_nil⟩
  · intro ρ τ Lc stc hx g1 g2 g3 g4 g5 g6 g7 g8
    have e0 : ρ 0 = x0 := hx 0 (by decide)
    subst e0
    have g7 := g7 (by decide)
    match Lc, stc, g7, g8 with
    | [v0, v1], [w0, w1], ⟨hv0, hv1, _⟩, ⟨hw0, hw1, _⟩ =>
      cases hv0
      cases hv1
      cases hw0
      cases hw1
      exact l0 τ ρ  g1 g2 g3 g4 g5 g6
set_option maxRecDepth 100000 in
theorem pf_g17 {σ : pm_S} {Q : Option Value → pm_S → Prop} (x0 x1 x2 x3 x4 : Int) (v1 : Value) (hv1 : v1.category = 1) (hB : an_GB pm_B σ) (eF : (0 ≤ x0 ∧ x0 ≤ 300) ∧ (0 ≤ x1 ∧ x1 ≤ 30) ∧ (0 ≤ x2 ∧ x2 ≤ 9998) ∧ (1 ≤ x3 ∧ x3 ≤ 52) ∧ (0 ≤ x4 ∧ x4 ≤ 99) ∧ True) (eC : (σ.1 1 1).toInt = x2 ∧ (σ.1 2 3).toInt = x3 ∧ (σ.1 2 1).toInt = x4 ∧ True)
    (l0 : ∀ (τ : pm_S) (y : Nat → Int), an_GB pm_B τ → FQ [(1, 1)] σ τ → ((0 ≤ x0 ∧ x0 ≤ 300) ∧ (0 ≤ x1 ∧ x1 ≤ 30) ∧ (0 ≤ x2 ∧ x2 ≤ 9998) ∧ (1 ≤ x3 ∧ x3 ≤ 52) ∧ (0 ≤ x4 ∧ x4 ≤ 99) ∧ (0 ≤ y 5 ∧ y 5 ≤ 330) ∧ True) → (True) → ((an_f 0 (Int32.ofInt (x0)) (Int32.ofInt (x1))).toInt = y 5 ∧ True) → ((τ.1 1 1).toInt = x2 + 1 ∧ (τ.1 2 1).toInt = x4 ∧ (τ.1 2 3).toInt = x3 ∧ True) → Ok 90 60 42 [.ref 74, .int (Int32.ofInt (y 5))] [.int (Int32.ofInt (x4)), .int (Int32.ofInt (x3)), .int (Int32.ofInt (x2 + 1)), .ref 13] τ Q)
    : Ok 90 60 17 [.ref 74, v1] [.int (Int32.ofInt (x1)), .int (Int32.ofInt (x0))] σ Q := by
  refine an_seg (B := pm_B) (F := [(1, 1)]) (T := []) (S := []) (fun _ h => absurd h List.not_mem_nil) (k := 90) (d := 59) (cs := [42]) 27 17 5 [(0, 0, 300), (1, 0, 30), (2, 0, 9998), (3, 1, 52), (4, 0, 99)] [(1, (1, 0, 1), (0, 2, 0)), (2, (1, 0, 3), (0, 3, 0)), (2, (1, 0, 1), (0, 4, 0))] [(2, 74, 0), (5, 0, 0)] [(0, 1, 0), (0, 0, 0)] [(42, [(2, 74, 0), (0, 5, 0)], [(0, 4, 0), (0, 3, 0), (0, 2, 1), (2, 13, 0)], [(0, 0, 300), (1, 0, 30), (2, 0, 9998), (3, 1, 52), (4, 0, 99), (5, 0, 330)], [], [(0, (0, 0, 0), (0, 1, 0), 5)], [(1, (1, 0, 1), (0, 2, 1)), (2, (1, 0, 1), (0, 4, 0)), (2, (1, 0, 3), (0, 3, 0))])] (by decide +kernel) (ρ0 := (fun s => [x0, x1, x2, x3, x4].getD s 0)) hB eF eC ⟨rfl, ⟨hv1, trivial⟩⟩ ⟨rfl, ⟨rfl, trivial⟩⟩ ?_
  refine List.forall_mem_cons.mpr ⟨?_, fun _ h => absurd h List.not_mem_nil⟩
  · intro ρ τ Lc stc hx g1 g2 g3 g4 g5 g6 g7 g8
    have e0 : ρ 0 = x0 := hx 0 (by decide)
    have e1 : ρ 1 = x1 := hx 1 (by decide)
    have e2 : ρ 2 = x2 := hx 2 (by decide)
    have e3 : ρ 3 = x3 := hx 3 (by decide)
    have e4 : ρ 4 = x4 := hx 4 (by decide)
    subst e0
    subst e1
    subst e2
    subst e3
    subst e4
    have g7 := g7 (by decide)
    match Lc, stc, g7, g8 with
    | [v0, v1], [w0, w1, w2, w3], ⟨hv0, hv1, _⟩, ⟨hw0, hw1, hw2, hw3, _⟩ =>
      cases hv0
      cases hv1
      cases hw0
      cases hw1
      cases hw2
      cases hw3
      exact l0 τ ρ  g1 g2 g3 g4 g5 g6
set_option maxRecDepth 100000 in
theorem pf_g43 {σ : pm_S} {Q : Option Value → pm_S → Prop} (x0 : Int)  (hB : an_GB pm_B σ) (eF : ((-2147483648) ≤ x0 ∧ x0 ≤ 2147483647) ∧ True)
    (l0 : ∀ (τ : pm_S) (y : Nat → Int), an_GB pm_B τ → FQ [] σ τ → (((-2147483648) ≤ x0 ∧ x0 ≤ 2147483647) ∧ True) → (True) → (True) → (True) → Ok 90 60 46 [.ref 74, .int (Int32.ofInt (x0))] [.ref 7] τ Q)
    : Ok 90 60 43 [.ref 74, .int (Int32.ofInt (x0))] [] σ Q := by
  refine an_seg (B := pm_B) (F := []) (T := []) (S := []) (fun _ h => absurd h List.not_mem_nil) (k := 90) (d := 59) (cs := [46]) 5 43 1 [(0, (-2147483648), 2147483647)] [] [(2, 74, 0), (0, 0, 0)] [] [(46, [(2, 74, 0), (0, 0, 0)], [(2, 7, 0)], [(0, (-2147483648), 2147483647)], [], [], [])] (by decide +kernel) (ρ0 := (fun s => [x0].getD s 0)) hB eF trivial ⟨rfl, ⟨rfl, trivial⟩⟩ trivial ?_
  refine List.forall_mem_cons.mpr ⟨?_, fun _ h => absurd h List.not_mem_nil⟩
  · intro ρ τ Lc stc hx g1 g2 g3 g4 g5 g6 g7 g8
    have e0 : ρ 0 = x0 := hx 0 (by decide)
    subst e0
    have g7 := g7 (by decide)
    match Lc, stc, g7, g8 with
    | [v0, v1], [w0], ⟨hv0, hv1, _⟩, ⟨hw0, _⟩ =>
      cases hv0
      cases hv1
      cases hw0
      exact l0 τ ρ  g1 g2 g3 g4 g5 g6
set_option maxRecDepth 100000 in
theorem pf_g47 {σ : pm_S} {Q : Option Value → pm_S → Prop} (x0 : Int)  (hB : an_GB pm_B σ) (eF : ((-2147483648) ≤ x0 ∧ x0 ≤ 2147483647) ∧ True)
    (l0 : ∀ (τ : pm_S) (y : Nat → Int), an_GB pm_B τ → FQ [] σ τ → (((-2147483648) ≤ x0 ∧ x0 ≤ 2147483647) ∧ True) → (True) → (True) → (True) → Q (some (.int (Int32.ofInt (x0)))) τ)
    : Ok 90 60 47 [.ref 74, .int (Int32.ofInt (x0))] [] σ Q := by
  refine an_seg (B := pm_B) (F := []) (T := []) (S := []) (fun _ h => absurd h List.not_mem_nil) (k := 90) (d := 59) (cs := []) 4 47 1 [(0, (-2147483648), 2147483647)] [] [(2, 74, 0), (0, 0, 0)] [] [(9999, [], [(0, 0, 0)], [(0, (-2147483648), 2147483647)], [], [], [])] (by decide +kernel) (ρ0 := (fun s => [x0].getD s 0)) hB eF trivial ⟨rfl, ⟨rfl, trivial⟩⟩ trivial ?_
  refine List.forall_mem_cons.mpr ⟨?_, fun _ h => absurd h List.not_mem_nil⟩
  · intro ρ τ Lc stc hx g1 g2 g3 g4 g5 g6 g7 g8
    have e0 : ρ 0 = x0 := hx 0 (by decide)
    subst e0
    match stc, g8 with
    | [_], ⟨h, _⟩ => cases h; exact l0 τ ρ g1 g2 g3 g4 g5 g6
