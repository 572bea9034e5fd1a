/-! the law is asked, on both sides: pieces -/
set_option maxRecDepth 100000 in
theorem pl_j4 {σ : pm_S} {Q : Option Value → pm_S → Prop} (x0 x1 : Int)  (hB : an_GB pm_B σ) (eF : ((-2147483648) ≤ x0 ∧ x0 ≤ 2147483647) ∧ ((-2147483648) ≤ x1 ∧ x1 ≤ 2147483647) ∧ True)
    (l0 : ∀ (τ : pm_S) (y : Nat → Int), an_GB pm_B τ → FQ [] σ τ → (((-2147483648) ≤ x0 ∧ x0 ≤ 2147483647) ∧ ((-2147483648) ≤ x1 ∧ x1 ≤ 2147483647) ∧ ((-2147483648) ≤ y 2 ∧ y 2 ≤ 2147483647) ∧ True) → (True) → ((an_f 4 (Int32.ofInt (x0)) (Int32.ofInt (x1))).toInt = y 2 ∧ True) → (True) → Q (some (.int (Int32.ofInt (y 2)))) τ)
    : Ok 18 2 0 [.int (Int32.ofInt (-4)), .int (Int32.ofInt (x0)), .int (Int32.ofInt (x1))] [] σ Q := by
  refine an_seg (B := pm_B) (F := []) (T := []) (S := []) (fun _ h => absurd h List.not_mem_nil) (k := 18) (d := 1) (cs := []) 8 0 2 [(0, (-2147483648), 2147483647), (1, (-2147483648), 2147483647)] [] [(1, 0, (-4)), (0, 0, 0), (0, 1, 0)] [] [(9999, [], [(0, 2, 0)], [(0, (-2147483648), 2147483647), (1, (-2147483648), 2147483647), (2, (-2147483648), 2147483647)], [], [(4, (0, 0, 0), (0, 1, 0), 2)], [])] (by decide +kernel) (ρ0 := (fun s => [x0, x1].getD s 0)) hB eF trivial ⟨rfl, ⟨rfl, ⟨rfl, trivial⟩⟩⟩ trivial ?_
  refine List.forall_mem_cons.mpr ⟨?_, fun _ h => absurd h List.not_mem_nil⟩
  · intro ρ τ Lc stc hx g1 g2 g3 g4 g5 g6 g7 g8
    have e0 : ρ 0 = x0 := hx 0 (by decide)
    have e1 : ρ 1 = x1 := hx 1 (by decide)
    subst e0
    subst e1
    match stc, g8 with
    | [_], ⟨h, _⟩ => cases h; exact l0 τ ρ g1 g2 g3 g4 g5 g6
set_option maxRecDepth 100000 in
theorem pl_j5 {σ : pm_S} {Q : Option Value → pm_S → Prop} (x0 x1 : Int)  (hB : an_GB pm_B σ) (eF : ((-2147483648) ≤ x0 ∧ x0 ≤ 2147483647) ∧ ((-2147483648) ≤ x1 ∧ x1 ≤ 2147483647) ∧ True)
    (l0 : ∀ (τ : pm_S) (y : Nat → Int), an_GB pm_B τ → FQ [] σ τ → (((-2147483648) ≤ x0 ∧ x0 ≤ 2147483647) ∧ ((-2147483648) ≤ x1 ∧ x1 ≤ 2147483647) ∧ ((-2147483648) ≤ y 2 ∧ y 2 ≤ 2147483647) ∧ True) → (True) → ((an_f 3 (Int32.ofInt (x0)) (Int32.ofInt (x1))).toInt = y 2 ∧ True) → (True) → Q (some (.int (Int32.ofInt (y 2)))) τ)
    : Ok 18 2 0 [.int (Int32.ofInt (-5)), .int (Int32.ofInt (x0)), .int (Int32.ofInt (x1))] [] σ Q := by
  refine an_seg (B := pm_B) (F := []) (T := []) (S := []) (fun _ h => absurd h List.not_mem_nil) (k := 18) (d := 1) (cs := []) 8 0 2 [(0, (-2147483648), 2147483647), (1, (-2147483648), 2147483647)] [] [(1, 0, (-5)), (0, 0, 0), (0, 1, 0)] [] [(9999, [], [(0, 2, 0)], [(0, (-2147483648), 2147483647), (1, (-2147483648), 2147483647), (2, (-2147483648), 2147483647)], [], [(3, (0, 0, 0), (0, 1, 0), 2)], [])] (by decide +kernel) (ρ0 := (fun s => [x0, x1].getD s 0)) hB eF trivial ⟨rfl, ⟨rfl, ⟨rfl, trivial⟩⟩⟩ trivial ?_
  refine List.forall_mem_cons.mpr ⟨?_, fun _ h => absurd h List.not_mem_nil⟩
  · intro ρ τ Lc stc hx g1 g2 g3 g4 g5 g6 g7 g8
    have e0 : ρ 0 = x0 := hx 0 (by decide)
    have e1 : ρ 1 = x1 := hx 1 (by decide)
    subst e0
    subst e1
    match stc, g8 with
    | [_], ⟨h, _⟩ => cases h; exact l0 τ ρ g1 g2 g3 g4 g5 g6
set_option maxRecDepth 100000 in
theorem pl_j17 {σ : pm_S} {Q : Option Value → pm_S → Prop} (x0 x1 : Int)  (hB : an_GB pm_B σ) (eF : ((-2147483648) ≤ x0 ∧ x0 ≤ 2147483647) ∧ ((-2147483648) ≤ x1 ∧ x1 ≤ 2147483647) ∧ True)
    (l0 : ∀ (τ : pm_S) (y : Nat → Int), an_GB pm_B τ → FQ [] σ τ → (((-2147483648) ≤ x0 ∧ x0 ≤ 2147483647) ∧ ((-2147483648) ≤ x1 ∧ x1 ≤ 2147483647) ∧ ((-2147483648) ≤ y 2 ∧ y 2 ≤ 2147483647) ∧ True) → (True) → ((an_f 0 (Int32.ofInt (x0)) (Int32.ofInt (x1))).toInt = y 2 ∧ True) → (True) → Q (some (.int (Int32.ofInt (y 2)))) τ)
    : Ok 18 2 0 [.int (Int32.ofInt (-17)), .int (Int32.ofInt (x0)), .int (Int32.ofInt (x1))] [] σ Q := by
  refine an_seg (B := pm_B) (F := []) (T := []) (S := []) (fun _ h => absurd h List.not_mem_nil) (k := 18) (d := 1) (cs := []) 8 0 2 [(0, (-2147483648), 2147483647), (1, (-2147483648), 2147483647)] [] [(1, 0, (-17)), (0, 0, 0), (0, 1, 0)] [] [(9999, [], [(0, 2, 0)], [(0, (-2147483648), 2147483647), (1, (-2147483648), 2147483647), (2, (-2147483648), 2147483647)], [], [(0, (0, 0, 0), (0, 1, 0), 2)], [])] (by decide +kernel) (ρ0 := (fun s => [x0, x1].getD s 0)) hB eF trivial ⟨rfl, ⟨rfl, ⟨rfl, trivial⟩⟩⟩ trivial ?_
  refine List.forall_mem_cons.mpr ⟨?_, fun _ h => absurd h List.not_mem_nil⟩
  · intro ρ τ Lc stc hx g1 g2 g3 g4 g5 g6 g7 g8
    have e0 : ρ 0 = x0 := hx 0 (by decide)
    have e1 : ρ 1 = x1 := hx 1 (by decide)
    subst e0
    subst e1
    match stc, g8 with
    | [_], ⟨h, _⟩ => cases h; exact l0 τ ρ g1 g2 g3 g4 g5 g6
set_option maxRecDepth 100000 in
theorem pl_j18 {σ : pm_S} {Q : Option Value → pm_S → Prop} (x0 x1 : Int)  (hB : an_GB pm_B σ) (eF : ((-2147483648) ≤ x0 ∧ x0 ≤ 2147483647) ∧ ((-2147483648) ≤ x1 ∧ x1 ≤ 2147483647) ∧ True)
    (l0 : ∀ (τ : pm_S) (y : Nat → Int), an_GB pm_B τ → FQ [] σ τ → (((-2147483648) ≤ x0 ∧ x0 ≤ 2147483647) ∧ ((-2147483648) ≤ x1 ∧ x1 ≤ 2147483647) ∧ ((-2147483648) ≤ y 2 ∧ y 2 ≤ 2147483647) ∧ True) → (True) → ((an_f 1 (Int32.ofInt (x0)) (Int32.ofInt (x1))).toInt = y 2 ∧ True) → (True) → Q (some (.int (Int32.ofInt (y 2)))) τ)
    : Ok 18 2 0 [.int (Int32.ofInt (-18)), .int (Int32.ofInt (x0)), .int (Int32.ofInt (x1))] [] σ Q := by
  refine an_seg (B := pm_B) (F := []) (T := []) (S := []) (fun _ h => absurd h List.not_mem_nil) (k := 18) (d := 1) (cs := []) 8 0 2 [(0, (-2147483648), 2147483647), (1, (-2147483648), 2147483647)] [] [(1, 0, (-18)), (0, 0, 0), (0, 1, 0)] [] [(9999, [], [(0, 2, 0)], [(0, (-2147483648), 2147483647), (1, (-2147483648), 2147483647), (2, (-2147483648), 2147483647)], [], [(1, (0, 0, 0), (0, 1, 0), 2)], [])] (by decide +kernel) (ρ0 := (fun s => [x0, x1].getD s 0)) hB eF trivial ⟨rfl, ⟨rfl, ⟨rfl, trivial⟩⟩⟩ trivial ?_
  refine List.forall_mem_cons.mpr ⟨?_, fun _ h => absurd h List.not_mem_nil⟩
  · intro ρ τ Lc stc hx g1 g2 g3 g4 g5 g6 g7 g8
    have e0 : ρ 0 = x0 := hx 0 (by decide)
    have e1 : ρ 1 = x1 := hx 1 (by decide)
    subst e0
    subst e1
    match stc, g8 with
    | [_], ⟨h, _⟩ => cases h; exact l0 τ ρ g1 g2 g3 g4 g5 g6
set_option maxRecDepth 100000 in
theorem pl_j19 {σ : pm_S} {Q : Option Value → pm_S → Prop} (x0 x1 : Int)  (hB : an_GB pm_B σ) (eF : ((-2147483648) ≤ x0 ∧ x0 ≤ 2147483647) ∧ ((-2147483648) ≤ x1 ∧ x1 ≤ 2147483647) ∧ True)
    (l0 : ∀ (τ : pm_S) (y : Nat → Int), an_GB pm_B τ → FQ [] σ τ → (((-2147483648) ≤ x0 ∧ x0 ≤ 2147483647) ∧ ((-2147483648) ≤ x1 ∧ x1 ≤ 2147483647) ∧ ((-2147483648) ≤ y 2 ∧ y 2 ≤ 2147483647) ∧ True) → (True) → ((an_f 2 (Int32.ofInt (x0)) (Int32.ofInt (x1))).toInt = y 2 ∧ True) → (True) → Q (some (.int (Int32.ofInt (y 2)))) τ)
    : Ok 18 2 0 [.int (Int32.ofInt (-19)), .int (Int32.ofInt (x0)), .int (Int32.ofInt (x1))] [] σ Q := by
  refine an_seg (B := pm_B) (F := []) (T := []) (S := []) (fun _ h => absurd h List.not_mem_nil) (k := 18) (d := 1) (cs := []) 8 0 2 [(0, (-2147483648), 2147483647), (1, (-2147483648), 2147483647)] [] [(1, 0, (-19)), (0, 0, 0), (0, 1, 0)] [] [(9999, [], [(0, 2, 0)], [(0, (-2147483648), 2147483647), (1, (-2147483648), 2147483647), (2, (-2147483648), 2147483647)], [], [(2, (0, 0, 0), (0, 1, 0), 2)], [])] (by decide +kernel) (ρ0 := (fun s => [x0, x1].getD s 0)) hB eF trivial ⟨rfl, ⟨rfl, ⟨rfl, trivial⟩⟩⟩ trivial ?_
  refine List.forall_mem_cons.mpr ⟨?_, fun _ h => absurd h List.not_mem_nil⟩
  · intro ρ τ Lc stc hx g1 g2 g3 g4 g5 g6 g7 g8
    have e0 : ρ 0 = x0 := hx 0 (by decide)
    have e1 : ρ 1 = x1 := hx 1 (by decide)
    subst e0
    subst e1
    match stc, g8 with
    | [_], ⟨h, _⟩ => cases h; exact l0 τ ρ g1 g2 g3 g4 g5 g6
set_option maxRecDepth 100000 in
theorem pl_j20 {σ : pm_S} {Q : Option Value → pm_S → Prop} (x0 x1 : Int)  (hB : an_GB pm_B σ) (eF : ((-2147483648) ≤ x0 ∧ x0 ≤ 2147483647) ∧ ((-2147483648) ≤ x1 ∧ x1 ≤ 2147483647) ∧ True)
    (l0 : ∀ (τ : pm_S) (y : Nat → Int), an_GB pm_B τ → FQ [] σ τ → (((-2147483648) ≤ x0 ∧ x0 ≤ 2147483647) ∧ ((-2147483648) ≤ x1 ∧ x1 ≤ 2147483647) ∧ ((-2147483648) ≤ y 2 ∧ y 2 ≤ 2147483647) ∧ True) → (x1 ≠ 0 ∧ True) → ((an_f 9 (Int32.ofInt (x0)) (Int32.ofInt (x1))).toInt = y 2 ∧ True) → (True) → Q (some (.int (Int32.ofInt (y 2)))) τ)
    (l1 : ∀ (τ : pm_S) (y : Nat → Int), an_GB pm_B τ → FQ [] σ τ → (((-2147483648) ≤ x0 ∧ x0 ≤ 2147483647) ∧ (0 ≤ x1 ∧ x1 ≤ 0) ∧ True) → (True) → (True) → (True) → Q (some (.int (Int32.ofInt 0))) τ)
    : Ok 18 2 0 [.int (Int32.ofInt (-20)), .int (Int32.ofInt (x0)), .int (Int32.ofInt (x1))] [] σ Q := by
  refine an_seg (B := pm_B) (F := []) (T := []) (S := []) (fun _ h => absurd h List.not_mem_nil) (k := 18) (d := 1) (cs := []) 10 0 2 [(0, (-2147483648), 2147483647), (1, (-2147483648), 2147483647)] [] [(1, 0, (-20)), (0, 0, 0), (0, 1, 0)] [] [(9999, [], [(0, 2, 0)], [(0, (-2147483648), 2147483647), (1, (-2147483648), 2147483647), (2, (-2147483648), 2147483647)], [(3, 1, 1, 0)], [(9, (0, 0, 0), (0, 1, 0), 2)], []),
    (9999, [], [(1, 0, 0)], [(0, (-2147483648), 2147483647), (1, 0, 0)], [], [], [])] (by decide +kernel) (ρ0 := (fun s => [x0, x1].getD s 0)) hB eF trivial ⟨rfl, ⟨rfl, ⟨rfl, trivial⟩⟩⟩ trivial ?_
  refine List.forall_mem_cons.mpr ⟨?_, List.forall_mem_cons.mpr ⟨?_, fun _ h => absurd h List.not_mem_nil⟩⟩
  · intro ρ τ Lc stc hx g1 g2 g3 g4 g5 g6 g7 g8
    have e0 : ρ 0 = x0 := hx 0 (by decide)
    have e1 : ρ 1 = x1 := hx 1 (by decide)
    subst e0
    subst e1
    match stc, g8 with
    | [_], ⟨h, _⟩ => cases h; exact l0 τ ρ g1 g2 g3 g4 g5 g6
  · intro ρ τ Lc stc hx g1 g2 g3 g4 g5 g6 g7 g8
    have e0 : ρ 0 = x0 := hx 0 (by decide)
    have e1 : ρ 1 = x1 := hx 1 (by decide)
    subst e0
    subst e1
    match stc, g8 with
    | [_], ⟨h, _⟩ => cases h; exact l1 τ ρ g1 g2 g3 g4 g5 g6
set_option maxRecDepth 100000 in
theorem pl_j23 {σ : pm_S} {Q : Option Value → pm_S → Prop} (x0 x1 : Int)  (hB : an_GB pm_B σ) (eF : ((-2147483648) ≤ x0 ∧ x0 ≤ 2147483647) ∧ ((-2147483648) ≤ x1 ∧ x1 ≤ 2147483647) ∧ True)
    (l0 : ∀ (τ : pm_S) (y : Nat → Int), an_GB pm_B τ → FQ [] σ τ → (((-2147483648) ≤ x0 ∧ x0 ≤ 2147483647) ∧ ((-2147483648) ≤ x1 ∧ x1 ≤ 2147483647) ∧ True) → (True) → (True) → (True) → Ok 18 2 32 [.int (Int32.ofInt (-23)), .int (Int32.ofInt (x0)), .int (Int32.ofInt (x1))] [.int (Int32.ofInt (x1)), .int (Int32.ofInt (x0))] τ Q)
    : Ok 18 2 0 [.int (Int32.ofInt (-23)), .int (Int32.ofInt (x0)), .int (Int32.ofInt (x1))] [] σ Q := by
  refine an_seg (B := pm_B) (F := []) (T := []) (S := []) (fun _ h => absurd h List.not_mem_nil) (k := 18) (d := 1) (cs := [32]) 6 0 2 [(0, (-2147483648), 2147483647), (1, (-2147483648), 2147483647)] [] [(1, 0, (-23)), (0, 0, 0), (0, 1, 0)] [] [(32, [(1, 0, (-23)), (0, 0, 0), (0, 1, 0)], [(0, 1, 0), (0, 0, 0)], [(0, (-2147483648), 2147483647), (1, (-2147483648), 2147483647)], [], [], [])] (by decide +kernel) (ρ0 := (fun s => [x0, x1].getD s 0)) hB eF trivial ⟨rfl, ⟨rfl, ⟨rfl, trivial⟩⟩⟩ trivial ?_
  refine List.forall_mem_cons.mpr ⟨?_, fun _ h => absurd h List.not_mem_nil⟩
  · intro ρ τ Lc stc hx g1 g2 g3 g4 g5 g6 g7 g8
    have e0 : ρ 0 = x0 := hx 0 (by decide)
    have e1 : ρ 1 = x1 := hx 1 (by decide)
    subst e0
    subst e1
    have g7 := g7 (by decide)
    match Lc, stc, g7, g8 with
    | [v0, v1, v2], [w0, w1], ⟨hv0, hv1, hv2, _⟩, ⟨hw0, hw1, _⟩ =>
      cases hv0
      cases hv1
      cases hv2
      cases hw0
      cases hw1
      exact l0 τ ρ  g1 g2 g3 g4 g5 g6
set_option maxRecDepth 100000 in
theorem pl_j23t {σ : pm_S} {Q : Option Value → pm_S → Prop} (x0 x1 : Int)  (hB : an_GB pm_B σ) (eF : ((-2147483648) ≤ x0 ∧ x0 ≤ 2147483647) ∧ ((-2147483648) ≤ x1 ∧ x1 ≤ 2147483647) ∧ True)
    (l0 : ∀ (τ : pm_S) (y : Nat → Int), an_GB pm_B τ → FQ [] σ τ → (((-2147483648) ≤ x0 ∧ x0 ≤ 2147483647) ∧ ((-2147483648) ≤ x1 ∧ x1 ≤ 2147483647) ∧ True) → (True) → (True) → (True) → Q (some (.int (Int32.ofInt 1))) τ)
    : Ok 18 2 33 [.int (Int32.ofInt (-23)), .int (Int32.ofInt (x0)), .int (Int32.ofInt (x1))] [] σ Q := by
  refine an_seg (B := pm_B) (F := []) (T := []) (S := []) (fun _ h => absurd h List.not_mem_nil) (k := 18) (d := 1) (cs := []) 5 33 2 [(0, (-2147483648), 2147483647), (1, (-2147483648), 2147483647)] [] [(1, 0, (-23)), (0, 0, 0), (0, 1, 0)] [] [(9999, [], [(1, 0, 1)], [(0, (-2147483648), 2147483647), (1, (-2147483648), 2147483647)], [], [], [])] (by decide +kernel) (ρ0 := (fun s => [x0, x1].getD s 0)) hB eF trivial ⟨rfl, ⟨rfl, ⟨rfl, trivial⟩⟩⟩ trivial ?_
  refine List.forall_mem_cons.mpr ⟨?_, fun _ h => absurd h List.not_mem_nil⟩
  · intro ρ τ Lc stc hx g1 g2 g3 g4 g5 g6 g7 g8
    have e0 : ρ 0 = x0 := hx 0 (by decide)
    have e1 : ρ 1 = x1 := hx 1 (by decide)
    subst e0
    subst e1
    match stc, g8 with
    | [_], ⟨h, _⟩ => cases h; exact l0 τ ρ g1 g2 g3 g4 g5 g6
set_option maxRecDepth 100000 in
theorem pl_j23f {σ : pm_S} {Q : Option Value → pm_S → Prop} (x0 x1 : Int)  (hB : an_GB pm_B σ) (eF : ((-2147483648) ≤ x0 ∧ x0 ≤ 2147483647) ∧ ((-2147483648) ≤ x1 ∧ x1 ≤ 2147483647) ∧ True)
    (l0 : ∀ (τ : pm_S) (y : Nat → Int), an_GB pm_B τ → FQ [] σ τ → (((-2147483648) ≤ x0 ∧ x0 ≤ 2147483647) ∧ ((-2147483648) ≤ x1 ∧ x1 ≤ 2147483647) ∧ True) → (True) → (True) → (True) → Q (some (.int (Int32.ofInt 0))) τ)
    : Ok 18 2 35 [.int (Int32.ofInt (-23)), .int (Int32.ofInt (x0)), .int (Int32.ofInt (x1))] [] σ Q := by
  refine an_seg (B := pm_B) (F := []) (T := []) (S := []) (fun _ h => absurd h List.not_mem_nil) (k := 18) (d := 1) (cs := []) 4 35 2 [(0, (-2147483648), 2147483647), (1, (-2147483648), 2147483647)] [] [(1, 0, (-23)), (0, 0, 0), (0, 1, 0)] [] [(9999, [], [(1, 0, 0)], [(0, (-2147483648), 2147483647), (1, (-2147483648), 2147483647)], [], [], [])] (by decide +kernel) (ρ0 := (fun s => [x0, x1].getD s 0)) hB eF trivial ⟨rfl, ⟨rfl, ⟨rfl, trivial⟩⟩⟩ trivial ?_
  refine List.forall_mem_cons.mpr ⟨?_, fun _ h => absurd h List.not_mem_nil⟩
  · intro ρ τ Lc stc hx g1 g2 g3 g4 g5 g6 g7 g8
    have e0 : ρ 0 = x0 := hx 0 (by decide)
    have e1 : ρ 1 = x1 := hx 1 (by decide)
    subst e0
    subst e1
    match stc, g8 with
    | [_], ⟨h, _⟩ => cases h; exact l0 τ ρ g1 g2 g3 g4 g5 g6
set_option maxRecDepth 100000 in
theorem pl_j24 {σ : pm_S} {Q : Option Value → pm_S → Prop} (x0 x1 : Int)  (hB : an_GB pm_B σ) (eF : ((-2147483648) ≤ x0 ∧ x0 ≤ 2147483647) ∧ ((-2147483648) ≤ x1 ∧ x1 ≤ 2147483647) ∧ True)
    (l0 : ∀ (τ : pm_S) (y : Nat → Int), an_GB pm_B τ → FQ [] σ τ → (((-2147483648) ≤ x0 ∧ x0 ≤ 2147483647) ∧ ((-2147483648) ≤ x1 ∧ x1 ≤ 2147483647) ∧ True) → (True) → (True) → (True) → Ok 18 2 39 [.int (Int32.ofInt (-24)), .int (Int32.ofInt (x0)), .int (Int32.ofInt (x1))] [.int (Int32.ofInt (x1)), .int (Int32.ofInt (x0))] τ Q)
    : Ok 18 2 0 [.int (Int32.ofInt (-24)), .int (Int32.ofInt (x0)), .int (Int32.ofInt (x1))] [] σ Q := by
  refine an_seg (B := pm_B) (F := []) (T := []) (S := []) (fun _ h => absurd h List.not_mem_nil) (k := 18) (d := 1) (cs := [39]) 6 0 2 [(0, (-2147483648), 2147483647), (1, (-2147483648), 2147483647)] [] [(1, 0, (-24)), (0, 0, 0), (0, 1, 0)] [] [(39, [(1, 0, (-24)), (0, 0, 0), (0, 1, 0)], [(0, 1, 0), (0, 0, 0)], [(0, (-2147483648), 2147483647), (1, (-2147483648), 2147483647)], [], [], [])] (by decide +kernel) (ρ0 := (fun s => [x0, x1].getD s 0)) hB eF trivial ⟨rfl, ⟨rfl, ⟨rfl, trivial⟩⟩⟩ trivial ?_
  refine List.forall_mem_cons.mpr ⟨?_, fun _ h => absurd h List.not_mem_nil⟩
  · intro ρ τ Lc stc hx g1 g2 g3 g4 g5 g6 g7 g8
    have e0 : ρ 0 = x0 := hx 0 (by decide)
    have e1 : ρ 1 = x1 := hx 1 (by decide)
    subst e0
    subst e1
    have g7 := g7 (by decide)
    match Lc, stc, g7, g8 with
    | [v0, v1, v2], [w0, w1], ⟨hv0, hv1, hv2, _⟩, ⟨hw0, hw1, _⟩ =>
      cases hv0
      cases hv1
      cases hv2
      cases hw0
      cases hw1
      exact l0 τ ρ  g1 g2 g3 g4 g5 g6
set_option maxRecDepth 100000 in
theorem pl_j24t {σ : pm_S} {Q : Option Value → pm_S → Prop} (x0 x1 : Int)  (hB : an_GB pm_B σ) (eF : ((-2147483648) ≤ x0 ∧ x0 ≤ 2147483647) ∧ ((-2147483648) ≤ x1 ∧ x1 ≤ 2147483647) ∧ True)
    (l0 : ∀ (τ : pm_S) (y : Nat → Int), an_GB pm_B τ → FQ [] σ τ → (((-2147483648) ≤ x0 ∧ x0 ≤ 2147483647) ∧ ((-2147483648) ≤ x1 ∧ x1 ≤ 2147483647) ∧ True) → (True) → (True) → (True) → Q (some (.int (Int32.ofInt 1))) τ)
    : Ok 18 2 40 [.int (Int32.ofInt (-24)), .int (Int32.ofInt (x0)), .int (Int32.ofInt (x1))] [] σ Q := by
  refine an_seg (B := pm_B) (F := []) (T := []) (S := []) (fun _ h => absurd h List.not_mem_nil) (k := 18) (d := 1) (cs := []) 5 40 2 [(0, (-2147483648), 2147483647), (1, (-2147483648), 2147483647)] [] [(1, 0, (-24)), (0, 0, 0), (0, 1, 0)] [] [(9999, [], [(1, 0, 1)], [(0, (-2147483648), 2147483647), (1, (-2147483648), 2147483647)], [], [], [])] (by decide +kernel) (ρ0 := (fun s => [x0, x1].getD s 0)) hB eF trivial ⟨rfl, ⟨rfl, ⟨rfl, trivial⟩⟩⟩ trivial ?_
  refine List.forall_mem_cons.mpr ⟨?_, fun _ h => absurd h List.not_mem_nil⟩
  · intro ρ τ Lc stc hx g1 g2 g3 g4 g5 g6 g7 g8
    have e0 : ρ 0 = x0 := hx 0 (by decide)
    have e1 : ρ 1 = x1 := hx 1 (by decide)
    subst e0
    subst e1
    match stc, g8 with
    | [_], ⟨h, _⟩ => cases h; exact l0 τ ρ g1 g2 g3 g4 g5 g6
set_option maxRecDepth 100000 in
theorem pl_j24f {σ : pm_S} {Q : Option Value → pm_S → Prop} (x0 x1 : Int)  (hB : an_GB pm_B σ) (eF : ((-2147483648) ≤ x0 ∧ x0 ≤ 2147483647) ∧ ((-2147483648) ≤ x1 ∧ x1 ≤ 2147483647) ∧ True)
    (l0 : ∀ (τ : pm_S) (y : Nat → Int), an_GB pm_B τ → FQ [] σ τ → (((-2147483648) ≤ x0 ∧ x0 ≤ 2147483647) ∧ ((-2147483648) ≤ x1 ∧ x1 ≤ 2147483647) ∧ True) → (True) → (True) → (True) → Q (some (.int (Int32.ofInt 0))) τ)
    : Ok 18 2 42 [.int (Int32.ofInt (-24)), .int (Int32.ofInt (x0)), .int (Int32.ofInt (x1))] [] σ Q := by
  refine an_seg (B := pm_B) (F := []) (T := []) (S := []) (fun _ h => absurd h List.not_mem_nil) (k := 18) (d := 1) (cs := []) 4 42 2 [(0, (-2147483648), 2147483647), (1, (-2147483648), 2147483647)] [] [(1, 0, (-24)), (0, 0, 0), (0, 1, 0)] [] [(9999, [], [(1, 0, 0)], [(0, (-2147483648), 2147483647), (1, (-2147483648), 2147483647)], [], [], [])] (by decide +kernel) (ρ0 := (fun s => [x0, x1].getD s 0)) hB eF trivial ⟨rfl, ⟨rfl, ⟨rfl, trivial⟩⟩⟩ trivial ?_
  refine List.forall_mem_cons.mpr ⟨?_, fun _ h => absurd h List.not_mem_nil⟩
  · intro ρ τ Lc stc hx g1 g2 g3 g4 g5 g6 g7 g8
    have e0 : ρ 0 = x0 := hx 0 (by decide)
    have e1 : ρ 1 = x1 := hx 1 (by decide)
    subst e0
    subst e1
    match stc, g8 with
    | [_], ⟨h, _⟩ => cases h; exact l0 τ ρ g1 g2 g3 g4 g5 g6
set_option maxRecDepth 100000 in
theorem pl_j25 {σ : pm_S} {Q : Option Value → pm_S → Prop} (x0 x1 : Int)  (hB : an_GB pm_B σ) (eF : ((-2147483648) ≤ x0 ∧ x0 ≤ 2147483647) ∧ ((-2147483648) ≤ x1 ∧ x1 ≤ 2147483647) ∧ True)
    (l0 : ∀ (τ : pm_S) (y : Nat → Int), an_GB pm_B τ → FQ [] σ τ → (((-2147483648) ≤ x0 ∧ x0 ≤ 2147483647) ∧ ((-2147483648) ≤ x1 ∧ x1 ≤ 2147483647) ∧ True) → (True) → (True) → (True) → Ok 18 2 46 [.int (Int32.ofInt (-25)), .int (Int32.ofInt (x0)), .int (Int32.ofInt (x1))] [.int (Int32.ofInt (x1)), .int (Int32.ofInt (x0))] τ Q)
    : Ok 18 2 0 [.int (Int32.ofInt (-25)), .int (Int32.ofInt (x0)), .int (Int32.ofInt (x1))] [] σ Q := by
  refine an_seg (B := pm_B) (F := []) (T := []) (S := []) (fun _ h => absurd h List.not_mem_nil) (k := 18) (d := 1) (cs := [46]) 6 0 2 [(0, (-2147483648), 2147483647), (1, (-2147483648), 2147483647)] [] [(1, 0, (-25)), (0, 0, 0), (0, 1, 0)] [] [(46, [(1, 0, (-25)), (0, 0, 0), (0, 1, 0)], [(0, 1, 0), (0, 0, 0)], [(0, (-2147483648), 2147483647), (1, (-2147483648), 2147483647)], [], [], [])] (by decide +kernel) (ρ0 := (fun s => [x0, x1].getD s 0)) hB eF trivial ⟨rfl, ⟨rfl, ⟨rfl, trivial⟩⟩⟩ trivial ?_
  refine List.forall_mem_cons.mpr ⟨?_, fun _ h => absurd h List.not_mem_nil⟩
  · intro ρ τ Lc stc hx g1 g2 g3 g4 g5 g6 g7 g8
    have e0 : ρ 0 = x0 := hx 0 (by decide)
    have e1 : ρ 1 = x1 := hx 1 (by decide)
    subst e0
    subst e1
    have g7 := g7 (by decide)
    match Lc, stc, g7, g8 with
    | [v0, v1, v2], [w0, w1], ⟨hv0, hv1, hv2, _⟩, ⟨hw0, hw1, _⟩ =>
      cases hv0
      cases hv1
      cases hv2
      cases hw0
      cases hw1
      exact l0 τ ρ  g1 g2 g3 g4 g5 g6
set_option maxRecDepth 100000 in
theorem pl_j25t {σ : pm_S} {Q : Option Value → pm_S → Prop} (x0 x1 : Int)  (hB : an_GB pm_B σ) (eF : ((-2147483648) ≤ x0 ∧ x0 ≤ 2147483647) ∧ ((-2147483648) ≤ x1 ∧ x1 ≤ 2147483647) ∧ True)
    (l0 : ∀ (τ : pm_S) (y : Nat → Int), an_GB pm_B τ → FQ [] σ τ → (((-2147483648) ≤ x0 ∧ x0 ≤ 2147483647) ∧ ((-2147483648) ≤ x1 ∧ x1 ≤ 2147483647) ∧ True) → (True) → (True) → (True) → Q (some (.int (Int32.ofInt 1))) τ)
    : Ok 18 2 47 [.int (Int32.ofInt (-25)), .int (Int32.ofInt (x0)), .int (Int32.ofInt (x1))] [] σ Q := by
  refine an_seg (B := pm_B) (F := []) (T := []) (S := []) (fun _ h => absurd h List.not_mem_nil) (k := 18) (d := 1) (cs := []) 5 47 2 [(0, (-2147483648), 2147483647), (1, (-2147483648), 2147483647)] [] [(1, 0, (-25)), (0, 0, 0), (0, 1, 0)] [] [(9999, [], [(1, 0, 1)], [(0, (-2147483648), 2147483647), (1, (-2147483648), 2147483647)], [], [], [])] (by decide +kernel) (ρ0 := (fun s => [x0, x1].getD s 0)) hB eF trivial ⟨rfl, ⟨rfl, ⟨rfl, trivial⟩⟩⟩ trivial ?_
  refine List.forall_mem_cons.mpr ⟨?_, fun _ h => absurd h List.not_mem_nil⟩
  · intro ρ τ Lc stc hx g1 g2 g3 g4 g5 g6 g7 g8
    have e0 : ρ 0 = x0 := hx 0 (by decide)
    have e1 : ρ 1 = x1 := hx 1 (by decide)
    subst e0
    subst e1
    match stc, g8 with
    | [_], ⟨h, _⟩ => cases h; exact l0 τ ρ g1 g2 g3 g4 g5 g6
set_option maxRecDepth 100000 in
theorem pl_j25f {σ : pm_S} {Q : Option Value → pm_S → Prop} (x0 x1 : Int)  (hB : an_GB pm_B σ) (eF : ((-2147483648) ≤ x0 ∧ x0 ≤ 2147483647) ∧ ((-2147483648) ≤ x1 ∧ x1 ≤ 2147483647) ∧ True)
    (l0 : ∀ (τ : pm_S) (y : Nat → Int), an_GB pm_B τ → FQ [] σ τ → (((-2147483648) ≤ x0 ∧ x0 ≤ 2147483647) ∧ ((-2147483648) ≤ x1 ∧ x1 ≤ 2147483647) ∧ True) → (True) → (True) → (True) → Q (some (.int (Int32.ofInt 0))) τ)
    : Ok 18 2 49 [.int (Int32.ofInt (-25)), .int (Int32.ofInt (x0)), .int (Int32.ofInt (x1))] [] σ Q := by
  refine an_seg (B := pm_B) (F := []) (T := []) (S := []) (fun _ h => absurd h List.not_mem_nil) (k := 18) (d := 1) (cs := []) 4 49 2 [(0, (-2147483648), 2147483647), (1, (-2147483648), 2147483647)] [] [(1, 0, (-25)), (0, 0, 0), (0, 1, 0)] [] [(9999, [], [(1, 0, 0)], [(0, (-2147483648), 2147483647), (1, (-2147483648), 2147483647)], [], [], [])] (by decide +kernel) (ρ0 := (fun s => [x0, x1].getD s 0)) hB eF trivial ⟨rfl, ⟨rfl, ⟨rfl, trivial⟩⟩⟩ trivial ?_
  refine List.forall_mem_cons.mpr ⟨?_, fun _ h => absurd h List.not_mem_nil⟩
  · intro ρ τ Lc stc hx g1 g2 g3 g4 g5 g6 g7 g8
    have e0 : ρ 0 = x0 := hx 0 (by decide)
    have e1 : ρ 1 = x1 := hx 1 (by decide)
    subst e0
    subst e1
    match stc, g8 with
    | [_], ⟨h, _⟩ => cases h; exact l0 τ ρ g1 g2 g3 g4 g5 g6
set_option maxRecDepth 100000 in
theorem pl_p0 {σ : pm_S} {Q : Option Value → pm_S → Prop} (x0 x1 : Int)  (hB : an_GB pm_B σ) (eF : ((-2147483648) ≤ x0 ∧ x0 ≤ 2147483647) ∧ (0 ≤ x1 ∧ x1 ≤ 39) ∧ True) (eC : (σ.1 31 2).toInt = x1 ∧ True)
    (l0 : ∀ (τ : pm_S) (y : Nat → Int), an_GB pm_B τ → FQ [] σ τ → (((-2147483648) ≤ x0 ∧ x0 ≤ 2147483647) ∧ (0 ≤ x1 ∧ x1 ≤ 39) ∧ True) → (True) → (True) → ((τ.1 31 2).toInt = x1 ∧ True) → Ok 20 2 14 [.ref 31, .int (Int32.ofInt (x0))] [.int (Int32.ofInt (x0)), .int (Int32.ofInt (x1)), .ref 33] τ Q)
    : Ok 20 2 0 [.ref 31, .int (Int32.ofInt (x0))] [] σ Q := by
  refine an_seg (B := pm_B) (F := []) (T := []) (S := []) (fun _ h => absurd h List.not_mem_nil) (k := 20) (d := 1) (cs := [14]) 16 0 2 [(0, (-2147483648), 2147483647), (1, 0, 39)] [(31, (1, 0, 2), (0, 1, 0))] [(2, 31, 0), (0, 0, 0)] [] [(14, [(2, 31, 0), (0, 0, 0)], [(0, 0, 0), (0, 1, 0), (2, 33, 0)], [(0, (-2147483648), 2147483647), (1, 0, 39)], [], [], [(31, (1, 0, 2), (0, 1, 0))])] (by decide +kernel) (ρ0 := (fun s => [x0, x1].getD s 0)) hB eF eC ⟨rfl, ⟨rfl, trivial⟩⟩ trivial ?_
  refine List.forall_mem_cons.mpr ⟨?_, fun _ h => absurd h List.not_mem_nil⟩
  · intro ρ τ Lc stc hx g1 g2 g3 g4 g5 g6 g7 g8
    have e0 : ρ 0 = x0 := hx 0 (by decide)
    have e1 : ρ 1 = x1 := hx 1 (by decide)
    subst e0
    subst e1
    have g7 := g7 (by decide)
    match Lc, stc, g7, g8 with
    | [v0, v1], [w0, w1, w2], ⟨hv0, hv1, _⟩, ⟨hw0, hw1, hw2, _⟩ =>
      cases hv0
      cases hv1
      cases hw0
      cases hw1
      cases hw2
      exact l0 τ ρ  g1 g2 g3 g4 g5 g6
set_option maxRecDepth 100000 in
theorem pl_p15 {σ : pm_S} {Q : Option Value → pm_S → Prop} (x0 x1 : Int)  (hB : an_GB pm_B σ) (eF : ((-2147483648) ≤ x0 ∧ x0 ≤ 2147483647) ∧ (0 ≤ x1 ∧ x1 ≤ 39) ∧ True) (eC : (σ.1 31 2).toInt = x1 ∧ True)
    (l0 : ∀ (τ : pm_S) (y : Nat → Int), an_GB pm_B τ → FQ [(31, 2)] σ τ → (((-2147483648) ≤ x0 ∧ x0 ≤ 2147483647) ∧ (0 ≤ x1 ∧ x1 ≤ 39) ∧ True) → (True) → (True) → ((τ.1 31 2).toInt = x1 + 1 ∧ True) → Q none τ)
    : Ok 20 2 15 [.ref 31, .int (Int32.ofInt (x0))] [] σ Q := by
  refine an_seg (B := pm_B) (F := [(31, 2)]) (T := []) (S := []) (fun _ h => absurd h List.not_mem_nil) (k := 20) (d := 1) (cs := []) 9 15 2 [(0, (-2147483648), 2147483647), (1, 0, 39)] [(31, (1, 0, 2), (0, 1, 0))] [(2, 31, 0), (0, 0, 0)] [] [(9999, [], [], [(0, (-2147483648), 2147483647), (1, 0, 39)], [], [], [(31, (1, 0, 2), (0, 1, 1))])] (by decide +kernel) (ρ0 := (fun s => [x0, x1].getD s 0)) hB eF eC ⟨rfl, ⟨rfl, trivial⟩⟩ trivial ?_
  refine List.forall_mem_cons.mpr ⟨?_, fun _ h => absurd h List.not_mem_nil⟩
  · intro ρ τ Lc stc hx g1 g2 g3 g4 g5 g6 g7 g8
    have e0 : ρ 0 = x0 := hx 0 (by decide)
    have e1 : ρ 1 = x1 := hx 1 (by decide)
    subst e0
    subst e1
    match stc, g8 with
    | [], _ => exact l0 τ ρ g1 g2 g3 g4 g5 g6
set_option maxRecDepth 100000 in
theorem pl_o0 {σ : pm_S} {Q : Option Value → pm_S → Prop} (x0 : Int)  (hB : an_GB pm_B σ) (eF : (1 ≤ x0 ∧ x0 ≤ 40) ∧ True) (eC : (σ.1 31 2).toInt = x0 ∧ True)
    (l0 : ∀ (τ : pm_S) (y : Nat → Int), an_GB pm_B τ → FQ [(31, 2)] σ τ → ((1 ≤ x0 ∧ x0 ≤ 40) ∧ True) → (True) → (True) → ((τ.1 31 2).toInt = x0 + (-1) ∧ True) → Ok 21 2 21 [.ref 31] [.int (Int32.ofInt (x0 + (-1))), .ref 33] τ Q)
    : Ok 21 2 0 [.ref 31] [] σ Q := by
  refine an_seg (B := pm_B) (F := [(31, 2)]) (T := []) (S := []) (fun _ h => absurd h List.not_mem_nil) (k := 21) (d := 1) (cs := [21]) 21 0 1 [(0, 1, 40)] [(31, (1, 0, 2), (0, 0, 0))] [(2, 31, 0)] [] [(21, [(2, 31, 0)], [(0, 0, (-1)), (2, 33, 0)], [(0, 1, 40)], [], [], [(31, (1, 0, 2), (0, 0, (-1)))])] (by decide +kernel) (ρ0 := (fun s => [x0].getD s 0)) hB eF eC ⟨rfl, trivial⟩ trivial ?_
  refine List.forall_mem_cons.mpr ⟨?_, fun _ h => absurd h List.not_mem_nil⟩
  · intro ρ τ Lc stc hx g1 g2 g3 g4 g5 g6 g7 g8
    have e0 : ρ 0 = x0 := hx 0 (by decide)
    subst e0
    have g7 := g7 (by decide)
    match Lc, stc, g7, g8 with
    | [v0], [w0, w1], ⟨hv0, _⟩, ⟨hw0, hw1, _⟩ =>
      cases hv0
      cases hw0
      cases hw1
      exact l0 τ ρ  g1 g2 g3 g4 g5 g6
set_option maxRecDepth 100000 in
theorem pl_o22 {σ : pm_S} {Q : Option Value → pm_S → Prop} (x0 : Int)  (hB : an_GB pm_B σ) (eF : ((-2147483648) ≤ x0 ∧ x0 ≤ 2147483647) ∧ True)
    (l0 : ∀ (τ : pm_S) (y : Nat → Int), an_GB pm_B τ → FQ [] σ τ → (((-2147483648) ≤ x0 ∧ x0 ≤ 2147483647) ∧ True) → (True) → (True) → (True) → Q (some (.int (Int32.ofInt (x0)))) τ)
    : Ok 21 2 22 [.ref 31] [.int (Int32.ofInt (x0))] σ Q := by
  refine an_seg (B := pm_B) (F := []) (T := []) (S := []) (fun _ h => absurd h List.not_mem_nil) (k := 21) (d := 1) (cs := []) 3 22 1 [(0, (-2147483648), 2147483647)] [] [(2, 31, 0)] [(0, 0, 0)] [(9999, [], [(0, 0, 0)], [(0, (-2147483648), 2147483647)], [], [], [])] (by decide +kernel) (ρ0 := (fun s => [x0].getD s 0)) hB eF trivial ⟨rfl, trivial⟩ ⟨rfl, trivial⟩ ?_
  refine List.forall_mem_cons.mpr ⟨?_, fun _ h => absurd h List.not_mem_nil⟩
  · intro ρ τ Lc stc hx g1 g2 g3 g4 g5 g6 g7 g8
    have e0 : ρ 0 = x0 := hx 0 (by decide)
    subst e0
    match stc, g8 with
    | [_], ⟨h, _⟩ => cases h; exact l0 τ ρ g1 g2 g3 g4 g5 g6
set_option maxRecDepth 100000 in
theorem pl_s0 {σ : pm_S} {Q : Option Value → pm_S → Prop} (x0 : Int) (v3 : Value) (v4 : Value) (hv3 : v3.category = 1) (hv4 : v4.category = 1) (hB : an_GB pm_B σ) (eF : (0 ≤ x0 ∧ x0 ≤ 9999) ∧ True)
    (l0 : ∀ (τ : pm_S) (y : Nat → Int) (v3 : Value) (v4 : Value), v3.category = 1 → v4.category = 1 → an_GB pm_B τ → FQ [] σ τ → ((0 ≤ x0 ∧ x0 ≤ 9999) ∧ True) → (True) → (True) → (True) → Ok 17 5 4 [.ref 31, .int (Int32.ofInt (x0)), .ref 75, v3, v4] [.int (Int32.ofInt (x0)), .ref 31] τ Q)
    : Ok 17 5 0 [.ref 31, .int (Int32.ofInt (x0)), .ref 75, v3, v4] [] σ Q := by
  refine an_seg (B := pm_B) (F := []) (T := []) (S := []) (fun _ h => absurd h List.not_mem_nil) (k := 17) (d := 4) (cs := [4]) 6 0 1 [(0, 0, 9999)] [] [(2, 31, 0), (0, 0, 0), (2, 75, 0), (5, 0, 0), (5, 0, 0)] [] [(4, [(2, 31, 0), (0, 0, 0), (2, 75, 0), (5, 0, 0), (5, 0, 0)], [(0, 0, 0), (2, 31, 0)], [(0, 0, 9999)], [], [], [])] (by decide +kernel) (ρ0 := (fun s => [x0].getD s 0)) hB eF trivial ⟨rfl, ⟨rfl, ⟨rfl, ⟨hv3, ⟨hv4, trivial⟩⟩⟩⟩⟩ trivial ?_
  refine List.forall_mem_cons.mpr ⟨?_, fun _ h => absurd h List.not_mem_nil⟩
  · intro ρ τ Lc stc hx g1 g2 g3 g4 g5 g6 g7 g8
    have e0 : ρ 0 = x0 := hx 0 (by decide)
    subst e0
    have g7 := g7 (by decide)
    match Lc, stc, g7, g8 with
    | [v0, v1, v2, v3, v4], [w0, w1], ⟨hv0, hv1, hv2, hv3, hv4, _⟩, ⟨hw0, hw1, _⟩ =>
      cases hv0
      cases hv1
      cases hv2
      cases hw0
      cases hw1
      exact l0 τ ρ v3 v4 hv3 hv4 g1 g2 g3 g4 g5 g6
set_option maxRecDepth 100000 in
theorem pl_s5 {σ : pm_S} {Q : Option Value → pm_S → Prop} (v1 : Value) (v3 : Value) (v4 : Value) (hv1 : v1.category = 1) (hv3 : v3.category = 1) (hv4 : v4.category = 1) (hB : an_GB pm_B σ)
    (l0 : ∀ (τ : pm_S) (y : Nat → Int), an_GB pm_B τ → FQ [] σ τ → (True) → (True) → (True) → (True) → Q none τ)
    : Ok 17 5 5 [.ref 31, v1, .ref 75, v3, v4] [] σ Q := by
  refine an_seg (B := pm_B) (F := []) (T := []) (S := []) (fun _ h => absurd h List.not_mem_nil) (k := 17) (d := 4) (cs := []) 4 5 0 [] [] [(2, 31, 0), (5, 0, 0), (2, 75, 0), (5, 0, 0), (5, 0, 0)] [] [(9999, [], [], [], [], [], [])] (by decide +kernel) (ρ0 := (fun s => [].getD s 0)) hB trivial trivial ⟨rfl, ⟨hv1, ⟨rfl, ⟨hv3, ⟨hv4, trivial⟩⟩⟩⟩⟩ trivial ?_
  refine List.forall_mem_cons.mpr ⟨?_, fun _ h => absurd h List.not_mem_nil⟩
  · intro ρ τ Lc stc hx g1 g2 g3 g4 g5 g6 g7 g8
    match stc, g8 with
    | [], _ => exact l0 τ ρ g1 g2 g3 g4 g5 g6
set_option maxRecDepth 100000 in
theorem pl_s0f {σ : pm_S} {Q : Option Value → pm_S → Prop} (x0 : Int) (v3 : Value) (v4 : Value) (hv3 : v3.category = 1) (hv4 : v4.category = 1) (hB : an_GB pm_B σ) (eF : ((-15) ≤ x0 ∧ x0 ≤ (-7)) ∧ True)
    (l0 : ∀ (τ : pm_S) (y : Nat → Int) (v4 : Value), v4.category = 1 → an_GB pm_B τ → FQ [] σ τ → (((-15) ≤ x0 ∧ x0 ≤ (-7)) ∧ (0 ≤ y 1 ∧ y 1 ≤ 8) ∧ True) → (True) → ((an_f 1 (Int32.ofInt ((-7))) (Int32.ofInt (x0))).toInt = y 1 ∧ True) → (True) → Ok 17 5 20 [.ref 31, .int (Int32.ofInt (x0)), .ref 75, .int (Int32.ofInt (y 1)), v4] [.int (Int32.ofInt (y 1)), .ref 75, .ref 31] τ Q)
    : Ok 17 5 0 [.ref 31, .int (Int32.ofInt (x0)), .ref 75, v3, v4] [] σ Q := by
  refine an_seg (B := pm_B) (F := []) (T := []) (S := []) (fun _ h => absurd h List.not_mem_nil) (k := 17) (d := 4) (cs := [20]) 27 0 1 [(0, (-15), (-7))] [] [(2, 31, 0), (0, 0, 0), (2, 75, 0), (5, 0, 0), (5, 0, 0)] [] [(20, [(2, 31, 0), (0, 0, 0), (2, 75, 0), (0, 1, 0), (5, 0, 0)], [(0, 1, 0), (2, 75, 0), (2, 31, 0)], [(0, (-15), (-7)), (1, 0, 8)], [], [(1, (1, 0, (-7)), (0, 0, 0), 1)], [])] (by decide +kernel) (ρ0 := (fun s => [x0].getD s 0)) hB eF trivial ⟨rfl, ⟨rfl, ⟨rfl, ⟨hv3, ⟨hv4, trivial⟩⟩⟩⟩⟩ trivial ?_
  refine List.forall_mem_cons.mpr ⟨?_, fun _ h => absurd h List.not_mem_nil⟩
  · intro ρ τ Lc stc hx g1 g2 g3 g4 g5 g6 g7 g8
    have e0 : ρ 0 = x0 := hx 0 (by decide)
    subst e0
    have g7 := g7 (by decide)
    match Lc, stc, g7, g8 with
    | [v0, v1, v2, v3, v4], [w0, w1, w2], ⟨hv0, hv1, hv2, hv3, hv4, _⟩, ⟨hw0, hw1, hw2, _⟩ =>
      cases hv0
      cases hv1
      cases hv2
      cases hv3
      cases hw0
      cases hw1
      cases hw2
      exact l0 τ ρ v4 hv4 g1 g2 g3 g4 g5 g6
set_option maxRecDepth 100000 in
theorem pl_s21 {σ : pm_S} {Q : Option Value → pm_S → Prop} (x0 : Int) (v1 : Value) (v3 : Value) (v4 : Value) (hv1 : v1.category = 1) (hv3 : v3.category = 1) (hv4 : v4.category = 1) (hB : an_GB pm_B σ) (eF : ((-2147483648) ≤ x0 ∧ x0 ≤ 2147483647) ∧ True)
    (l0 : ∀ (τ : pm_S) (y : Nat → Int) (v1 : Value) (v3 : Value) (v4 : Value), v1.category = 1 → v3.category = 1 → v4.category = 1 → an_GB pm_B τ → FQ [] σ τ → (((-2147483648) ≤ x0 ∧ x0 ≤ 2147483647) ∧ True) → (True) → (True) → (True) → Ok 17 5 23 [.ref 31, v1, .ref 75, v3, v4] [.int (Int32.ofInt (x0)), .ref 31] τ Q)
    : Ok 17 5 21 [.ref 31, v1, .ref 75, v3, v4] [.int (Int32.ofInt (x0)), .ref 31] σ Q := by
  refine an_seg (B := pm_B) (F := []) (T := []) (S := []) (fun _ h => absurd h List.not_mem_nil) (k := 17) (d := 4) (cs := [23]) 3 21 1 [(0, (-2147483648), 2147483647)] [] [(2, 31, 0), (5, 0, 0), (2, 75, 0), (5, 0, 0), (5, 0, 0)] [(0, 0, 0), (2, 31, 0)] [(23, [(2, 31, 0), (5, 0, 0), (2, 75, 0), (5, 0, 0), (5, 0, 0)], [(0, 0, 0), (2, 31, 0)], [(0, (-2147483648), 2147483647)], [], [], [])] (by decide +kernel) (ρ0 := (fun s => [x0].getD s 0)) hB eF trivial ⟨rfl, ⟨hv1, ⟨rfl, ⟨hv3, ⟨hv4, trivial⟩⟩⟩⟩⟩ ⟨rfl, ⟨rfl, trivial⟩⟩ ?_
  refine List.forall_mem_cons.mpr ⟨?_, fun _ h => absurd h List.not_mem_nil⟩
  · intro ρ τ Lc stc hx g1 g2 g3 g4 g5 g6 g7 g8
    have e0 : ρ 0 = x0 := hx 0 (by decide)
    subst e0
    have g7 := g7 (by decide)
    match Lc, stc, g7, g8 with
    | [v0, v1, v2, v3, v4], [w0, w1], ⟨hv0, hv1, hv2, hv3, hv4, _⟩, ⟨hw0, hw1, _⟩ =>
      cases hv0
      cases hv2
      cases hw0
      cases hw1
      exact l0 τ ρ v1 v3 v4 hv1 hv3 hv4 g1 g2 g3 g4 g5 g6
set_option maxRecDepth 100000 in
theorem pl_s24 {σ : pm_S} {Q : Option Value → pm_S → Prop} (v1 : Value) (v3 : Value) (v4 : Value) (hv1 : v1.category = 1) (hv3 : v3.category = 1) (hv4 : v4.category = 1) (hB : an_GB pm_B σ)
    (l0 : ∀ (τ : pm_S) (y : Nat → Int), an_GB pm_B τ → FQ [] σ τ → (True) → (True) → (True) → (True) → Q none τ)
    : Ok 17 5 24 [.ref 31, v1, .ref 75, v3, v4] [] σ Q := by
  refine an_seg (B := pm_B) (F := []) (T := []) (S := []) (fun _ h => absurd h List.not_mem_nil) (k := 17) (d := 4) (cs := []) 4 24 0 [] [] [(2, 31, 0), (5, 0, 0), (2, 75, 0), (5, 0, 0), (5, 0, 0)] [] [(9999, [], [], [], [], [], [])] (by decide +kernel) (ρ0 := (fun s => [].getD s 0)) hB trivial trivial ⟨rfl, ⟨hv1, ⟨rfl, ⟨hv3, ⟨hv4, trivial⟩⟩⟩⟩⟩ trivial ?_
  refine List.forall_mem_cons.mpr ⟨?_, fun _ h => absurd h List.not_mem_nil⟩
  · intro ρ τ Lc stc hx g1 g2 g3 g4 g5 g6 g7 g8
    match stc, g8 with
    | [], _ => exact l0 τ ρ g1 g2 g3 g4 g5 g6
set_option maxRecDepth 100000 in
theorem pl_s0n {σ : pm_S} {Q : Option Value → pm_S → Prop} (v3 : Value) (v4 : Value) (hv3 : v3.category = 1) (hv4 : v4.category = 1) (hB : an_GB pm_B σ)
    (l0 : ∀ (τ : pm_S) (y : Nat → Int) (v3 : Value) (v4 : Value), v3.category = 1 → v4.category = 1 → an_GB pm_B τ → FQ [] σ τ → (True) → (True) → (True) → (True) → Ok 17 5 30 [.ref 31, .int (Int32.ofInt (-6)), .ref 75, v3, v4] [.ref 31, .ref 31] τ Q)
    : Ok 17 5 0 [.ref 31, .int (Int32.ofInt (-6)), .ref 75, v3, v4] [] σ Q := by
  refine an_seg (B := pm_B) (F := []) (T := []) (S := []) (fun _ h => absurd h List.not_mem_nil) (k := 17) (d := 4) (cs := [30]) 17 0 0 [] [] [(2, 31, 0), (1, 0, (-6)), (2, 75, 0), (5, 0, 0), (5, 0, 0)] [] [(30, [(2, 31, 0), (1, 0, (-6)), (2, 75, 0), (5, 0, 0), (5, 0, 0)], [(2, 31, 0), (2, 31, 0)], [], [], [], [])] (by decide +kernel) (ρ0 := (fun s => [].getD s 0)) hB trivial trivial ⟨rfl, ⟨rfl, ⟨rfl, ⟨hv3, ⟨hv4, trivial⟩⟩⟩⟩⟩ trivial ?_
  refine List.forall_mem_cons.mpr ⟨?_, fun _ h => absurd h List.not_mem_nil⟩
  · intro ρ τ Lc stc hx g1 g2 g3 g4 g5 g6 g7 g8
    have g7 := g7 (by decide)
    match Lc, stc, g7, g8 with
    | [v0, v1, v2, v3, v4], [w0, w1], ⟨hv0, hv1, hv2, hv3, hv4, _⟩, ⟨hw0, hw1, _⟩ =>
      cases hv0
      cases hv1
      cases hv2
      cases hw0
      cases hw1
      exact l0 τ ρ v3 v4 hv3 hv4 g1 g2 g3 g4 g5 g6
set_option maxRecDepth 100000 in
theorem pl_s31 {σ : pm_S} {Q : Option Value → pm_S → Prop} (x0 : Int) (v3 : Value) (v4 : Value) (hv3 : v3.category = 1) (hv4 : v4.category = 1) (hB : an_GB pm_B σ) (eF : ((-2147483648) ≤ x0 ∧ x0 ≤ 2147483647) ∧ True)
    (l0 : ∀ (τ : pm_S) (y : Nat → Int) (v3 : Value) (v4 : Value), v3.category = 1 → v4.category = 1 → an_GB pm_B τ → FQ [] σ τ → (((-2147483648) ≤ x0 ∧ x0 ≤ 2147483647) ∧ True) → (x0 ≠ 0 ∧ True) → (True) → (True) → Ok 17 5 35 [.ref 31, .int (Int32.ofInt (-6)), .ref 75, v3, v4] [.int (Int32.ofInt 0), .ref 31] τ Q)
    (l1 : ∀ (τ : pm_S) (y : Nat → Int) (v3 : Value) (v4 : Value), v3.category = 1 → v4.category = 1 → an_GB pm_B τ → FQ [] σ τ → ((0 ≤ x0 ∧ x0 ≤ 0) ∧ True) → (True) → (True) → (True) → Ok 17 5 35 [.ref 31, .int (Int32.ofInt (-6)), .ref 75, v3, v4] [.int (Int32.ofInt 1), .ref 31] τ Q)
    : Ok 17 5 31 [.ref 31, .int (Int32.ofInt (-6)), .ref 75, v3, v4] [.int (Int32.ofInt (x0)), .ref 31] σ Q := by
  refine an_seg (B := pm_B) (F := []) (T := []) (S := []) (fun _ h => absurd h List.not_mem_nil) (k := 17) (d := 4) (cs := [35]) 5 31 1 [(0, (-2147483648), 2147483647)] [] [(2, 31, 0), (1, 0, (-6)), (2, 75, 0), (5, 0, 0), (5, 0, 0)] [(0, 0, 0), (2, 31, 0)] [(35, [(2, 31, 0), (1, 0, (-6)), (2, 75, 0), (5, 0, 0), (5, 0, 0)], [(1, 0, 0), (2, 31, 0)], [(0, (-2147483648), 2147483647)], [(3, 0, 0, 0)], [], []),
    (35, [(2, 31, 0), (1, 0, (-6)), (2, 75, 0), (5, 0, 0), (5, 0, 0)], [(1, 0, 1), (2, 31, 0)], [(0, 0, 0)], [], [], [])] (by decide +kernel) (ρ0 := (fun s => [x0].getD s 0)) hB eF trivial ⟨rfl, ⟨rfl, ⟨rfl, ⟨hv3, ⟨hv4, trivial⟩⟩⟩⟩⟩ ⟨rfl, ⟨rfl, trivial⟩⟩ ?_
  refine List.forall_mem_cons.mpr ⟨?_, List.forall_mem_cons.mpr ⟨?_, fun _ h => absurd h List.not_mem_nil⟩⟩
  · intro ρ τ Lc stc hx g1 g2 g3 g4 g5 g6 g7 g8
    have e0 : ρ 0 = x0 := hx 0 (by decide)
    subst e0
    have g7 := g7 (by decide)
    match Lc, stc, g7, g8 with
    | [v0, v1, v2, v3, v4], [w0, w1], ⟨hv0, hv1, hv2, hv3, hv4, _⟩, ⟨hw0, hw1, _⟩ =>
      cases hv0
      cases hv1
      cases hv2
      cases hw0
      cases hw1
      exact l0 τ ρ v3 v4 hv3 hv4 g1 g2 g3 g4 g5 g6
  · intro ρ τ Lc stc hx g1 g2 g3 g4 g5 g6 g7 g8
    have e0 : ρ 0 = x0 := hx 0 (by decide)
    subst e0
    have g7 := g7 (by decide)
    match Lc, stc, g7, g8 with
    | [v0, v1, v2, v3, v4], [w0, w1], ⟨hv0, hv1, hv2, hv3, hv4, _⟩, ⟨hw0, hw1, _⟩ =>
      cases hv0
      cases hv1
      cases hv2
      cases hw0
      cases hw1
      exact l1 τ ρ v3 v4 hv3 hv4 g1 g2 g3 g4 g5 g6
set_option maxRecDepth 100000 in
theorem pl_s36 {σ : pm_S} {Q : Option Value → pm_S → Prop} (v1 : Value) (v3 : Value) (v4 : Value) (hv1 : v1.category = 1) (hv3 : v3.category = 1) (hv4 : v4.category = 1) (hB : an_GB pm_B σ)
    (l0 : ∀ (τ : pm_S) (y : Nat → Int), an_GB pm_B τ → FQ [] σ τ → (True) → (True) → (True) → (True) → Q none τ)
    : Ok 17 5 36 [.ref 31, v1, .ref 75, v3, v4] [] σ Q := by
  refine an_seg (B := pm_B) (F := []) (T := []) (S := []) (fun _ h => absurd h List.not_mem_nil) (k := 17) (d := 4) (cs := []) 4 36 0 [] [] [(2, 31, 0), (5, 0, 0), (2, 75, 0), (5, 0, 0), (5, 0, 0)] [] [(9999, [], [], [], [], [], [])] (by decide +kernel) (ρ0 := (fun s => [].getD s 0)) hB trivial trivial ⟨rfl, ⟨hv1, ⟨rfl, ⟨hv3, ⟨hv4, trivial⟩⟩⟩⟩⟩ trivial ?_
  refine List.forall_mem_cons.mpr ⟨?_, fun _ h => absurd h List.not_mem_nil⟩
  · intro ρ τ Lc stc hx g1 g2 g3 g4 g5 g6 g7 g8
    match stc, g8 with
    | [], _ => exact l0 τ ρ g1 g2 g3 g4 g5 g6
set_option maxRecDepth 100000 in
theorem pl_s0b1 {σ : pm_S} {Q : Option Value → pm_S → Prop} (x0 : Int) (v3 : Value) (v4 : Value) (hv3 : v3.category = 1) (hv4 : v4.category = 1) (hB : an_GB pm_B σ) (eF : ((-25) ≤ x0 ∧ x0 ≤ (-23)) ∧ True)
    (l0 : ∀ (τ : pm_S) (y : Nat → Int) (v3 : Value) (v4 : Value), v3.category = 1 → v4.category = 1 → an_GB pm_B τ → FQ [] σ τ → (((-25) ≤ x0 ∧ x0 ≤ (-23)) ∧ True) → (x0 ≠ (-6) ∧ True) → (True) → (True) → Ok 17 5 38 [.ref 31, .int (Int32.ofInt (x0)), .ref 75, v3, v4] [.ref 31] τ Q)
    : Ok 17 5 0 [.ref 31, .int (Int32.ofInt (x0)), .ref 75, v3, v4] [] σ Q := by
  refine an_seg (B := pm_B) (F := []) (T := []) (S := []) (fun _ h => absurd h List.not_mem_nil) (k := 17) (d := 4) (cs := [38]) 19 0 1 [(0, (-25), (-23))] [] [(2, 31, 0), (0, 0, 0), (2, 75, 0), (5, 0, 0), (5, 0, 0)] [] [(38, [(2, 31, 0), (0, 0, 0), (2, 75, 0), (5, 0, 0), (5, 0, 0)], [(2, 31, 0)], [(0, (-25), (-23))], [(3, 0, 0, (-6))], [], [])] (by decide +kernel) (ρ0 := (fun s => [x0].getD s 0)) hB eF trivial ⟨rfl, ⟨rfl, ⟨rfl, ⟨hv3, ⟨hv4, trivial⟩⟩⟩⟩⟩ trivial ?_
  refine List.forall_mem_cons.mpr ⟨?_, fun _ h => absurd h List.not_mem_nil⟩
  · intro ρ τ Lc stc hx g1 g2 g3 g4 g5 g6 g7 g8
    have e0 : ρ 0 = x0 := hx 0 (by decide)
    subst e0
    have g7 := g7 (by decide)
    match Lc, stc, g7, g8 with
    | [v0, v1, v2, v3, v4], [w0], ⟨hv0, hv1, hv2, hv3, hv4, _⟩, ⟨hw0, _⟩ =>
      cases hv0
      cases hv1
      cases hv2
      cases hw0
      exact l0 τ ρ v3 v4 hv3 hv4 g1 g2 g3 g4 g5 g6
set_option maxRecDepth 100000 in
theorem pl_s0b2 {σ : pm_S} {Q : Option Value → pm_S → Prop} (x0 : Int) (v3 : Value) (v4 : Value) (hv3 : v3.category = 1) (hv4 : v4.category = 1) (hB : an_GB pm_B σ) (eF : ((-20) ≤ x0 ∧ x0 ≤ (-17)) ∧ True)
    (l0 : ∀ (τ : pm_S) (y : Nat → Int) (v3 : Value) (v4 : Value), v3.category = 1 → v4.category = 1 → an_GB pm_B τ → FQ [] σ τ → (((-20) ≤ x0 ∧ x0 ≤ (-17)) ∧ True) → (x0 ≠ (-6) ∧ True) → (True) → (True) → Ok 17 5 38 [.ref 31, .int (Int32.ofInt (x0)), .ref 75, v3, v4] [.ref 31] τ Q)
    : Ok 17 5 0 [.ref 31, .int (Int32.ofInt (x0)), .ref 75, v3, v4] [] σ Q := by
  refine an_seg (B := pm_B) (F := []) (T := []) (S := []) (fun _ h => absurd h List.not_mem_nil) (k := 17) (d := 4) (cs := [38]) 19 0 1 [(0, (-20), (-17))] [] [(2, 31, 0), (0, 0, 0), (2, 75, 0), (5, 0, 0), (5, 0, 0)] [] [(38, [(2, 31, 0), (0, 0, 0), (2, 75, 0), (5, 0, 0), (5, 0, 0)], [(2, 31, 0)], [(0, (-20), (-17))], [(3, 0, 0, (-6))], [], [])] (by decide +kernel) (ρ0 := (fun s => [x0].getD s 0)) hB eF trivial ⟨rfl, ⟨rfl, ⟨rfl, ⟨hv3, ⟨hv4, trivial⟩⟩⟩⟩⟩ trivial ?_
  refine List.forall_mem_cons.mpr ⟨?_, fun _ h => absurd h List.not_mem_nil⟩
  · intro ρ τ Lc stc hx g1 g2 g3 g4 g5 g6 g7 g8
    have e0 : ρ 0 = x0 := hx 0 (by decide)
    subst e0
    have g7 := g7 (by decide)
    match Lc, stc, g7, g8 with
    | [v0, v1, v2, v3, v4], [w0], ⟨hv0, hv1, hv2, hv3, hv4, _⟩, ⟨hw0, _⟩ =>
      cases hv0
      cases hv1
      cases hv2
      cases hw0
      exact l0 τ ρ v3 v4 hv3 hv4 g1 g2 g3 g4 g5 g6
set_option maxRecDepth 100000 in
theorem pl_s0b3 {σ : pm_S} {Q : Option Value → pm_S → Prop} (x0 : Int) (v3 : Value) (v4 : Value) (hv3 : v3.category = 1) (hv4 : v4.category = 1) (hB : an_GB pm_B σ) (eF : ((-5) ≤ x0 ∧ x0 ≤ (-4)) ∧ True)
    (l0 : ∀ (τ : pm_S) (y : Nat → Int) (v3 : Value) (v4 : Value), v3.category = 1 → v4.category = 1 → an_GB pm_B τ → FQ [] σ τ → (((-5) ≤ x0 ∧ x0 ≤ (-4)) ∧ True) → (x0 ≠ (-6) ∧ True) → (True) → (True) → Ok 17 5 38 [.ref 31, .int (Int32.ofInt (x0)), .ref 75, v3, v4] [.ref 31] τ Q)
    : Ok 17 5 0 [.ref 31, .int (Int32.ofInt (x0)), .ref 75, v3, v4] [] σ Q := by
  refine an_seg (B := pm_B) (F := []) (T := []) (S := []) (fun _ h => absurd h List.not_mem_nil) (k := 17) (d := 4) (cs := [38]) 16 0 1 [(0, (-5), (-4))] [] [(2, 31, 0), (0, 0, 0), (2, 75, 0), (5, 0, 0), (5, 0, 0)] [] [(38, [(2, 31, 0), (0, 0, 0), (2, 75, 0), (5, 0, 0), (5, 0, 0)], [(2, 31, 0)], [(0, (-5), (-4))], [(3, 0, 0, (-6))], [], [])] (by decide +kernel) (ρ0 := (fun s => [x0].getD s 0)) hB eF trivial ⟨rfl, ⟨rfl, ⟨rfl, ⟨hv3, ⟨hv4, trivial⟩⟩⟩⟩⟩ trivial ?_
  refine List.forall_mem_cons.mpr ⟨?_, fun _ h => absurd h List.not_mem_nil⟩
  · intro ρ τ Lc stc hx g1 g2 g3 g4 g5 g6 g7 g8
    have e0 : ρ 0 = x0 := hx 0 (by decide)
    subst e0
    have g7 := g7 (by decide)
    match Lc, stc, g7, g8 with
    | [v0, v1, v2, v3, v4], [w0], ⟨hv0, hv1, hv2, hv3, hv4, _⟩, ⟨hw0, _⟩ =>
      cases hv0
      cases hv1
      cases hv2
      cases hw0
      exact l0 τ ρ v3 v4 hv3 hv4 g1 g2 g3 g4 g5 g6
set_option maxRecDepth 100000 in
theorem pl_s39 {σ : pm_S} {Q : Option Value → pm_S → Prop} (x0 x1 : Int) (v3 : Value) (v4 : Value) (hv3 : v3.category = 1) (hv4 : v4.category = 1) (hB : an_GB pm_B σ) (eF : ((-25) ≤ x0 ∧ x0 ≤ (-4)) ∧ ((-2147483648) ≤ x1 ∧ x1 ≤ 2147483647) ∧ True)
    (l0 : ∀ (τ : pm_S) (y : Nat → Int) (v4 : Value), v4.category = 1 → an_GB pm_B τ → FQ [] σ τ → (((-25) ≤ x0 ∧ x0 ≤ (-4)) ∧ ((-2147483648) ≤ x1 ∧ x1 ≤ 2147483647) ∧ True) → (True) → (True) → (True) → Ok 17 5 41 [.ref 31, .int (Int32.ofInt (x0)), .ref 75, .int (Int32.ofInt (x1)), v4] [.ref 31] τ Q)
    : Ok 17 5 39 [.ref 31, .int (Int32.ofInt (x0)), .ref 75, v3, v4] [.int (Int32.ofInt (x1))] σ Q := by
  refine an_seg (B := pm_B) (F := []) (T := []) (S := []) (fun _ h => absurd h List.not_mem_nil) (k := 17) (d := 4) (cs := [41]) 4 39 2 [(0, (-25), (-4)), (1, (-2147483648), 2147483647)] [] [(2, 31, 0), (0, 0, 0), (2, 75, 0), (5, 0, 0), (5, 0, 0)] [(0, 1, 0)] [(41, [(2, 31, 0), (0, 0, 0), (2, 75, 0), (0, 1, 0), (5, 0, 0)], [(2, 31, 0)], [(0, (-25), (-4)), (1, (-2147483648), 2147483647)], [], [], [])] (by decide +kernel) (ρ0 := (fun s => [x0, x1].getD s 0)) hB eF trivial ⟨rfl, ⟨rfl, ⟨rfl, ⟨hv3, ⟨hv4, trivial⟩⟩⟩⟩⟩ ⟨rfl, trivial⟩ ?_
  refine List.forall_mem_cons.mpr ⟨?_, fun _ h => absurd h List.not_mem_nil⟩
  · intro ρ τ Lc stc hx g1 g2 g3 g4 g5 g6 g7 g8
    have e0 : ρ 0 = x0 := hx 0 (by decide)
    have e1 : ρ 1 = x1 := hx 1 (by decide)
    subst e0
    subst e1
    have g7 := g7 (by decide)
    match Lc, stc, g7, g8 with
    | [v0, v1, v2, v3, v4], [w0], ⟨hv0, hv1, hv2, hv3, hv4, _⟩, ⟨hw0, _⟩ =>
      cases hv0
      cases hv1
      cases hv2
      cases hv3
      cases hw0
      exact l0 τ ρ v4 hv4 g1 g2 g3 g4 g5 g6
set_option maxRecDepth 100000 in
theorem pl_s42 {σ : pm_S} {Q : Option Value → pm_S → Prop} (x0 x1 x2 : Int) (v4 : Value) (hv4 : v4.category = 1) (hB : an_GB pm_B σ) (eF : ((-25) ≤ x0 ∧ x0 ≤ (-4)) ∧ ((-2147483648) ≤ x1 ∧ x1 ≤ 2147483647) ∧ ((-2147483648) ≤ x2 ∧ x2 ≤ 2147483647) ∧ True)
    (l0 : ∀ (τ : pm_S) (y : Nat → Int), an_GB pm_B τ → FQ [] σ τ → (((-25) ≤ x0 ∧ x0 ≤ (-4)) ∧ ((-2147483648) ≤ x1 ∧ x1 ≤ 2147483647) ∧ ((-2147483648) ≤ x2 ∧ x2 ≤ 2147483647) ∧ True) → (True) → (True) → (True) → Ok 17 5 47 [.ref 31, .int (Int32.ofInt (x0)), .ref 75, .int (Int32.ofInt (x1)), .int (Int32.ofInt (x2))] [.int (Int32.ofInt (x1)), .int (Int32.ofInt (x2)), .int (Int32.ofInt (x0)), .ref 31] τ Q)
    : Ok 17 5 42 [.ref 31, .int (Int32.ofInt (x0)), .ref 75, .int (Int32.ofInt (x1)), v4] [.int (Int32.ofInt (x2))] σ Q := by
  refine an_seg (B := pm_B) (F := []) (T := []) (S := []) (fun _ h => absurd h List.not_mem_nil) (k := 17) (d := 4) (cs := [47]) 7 42 3 [(0, (-25), (-4)), (1, (-2147483648), 2147483647), (2, (-2147483648), 2147483647)] [] [(2, 31, 0), (0, 0, 0), (2, 75, 0), (0, 1, 0), (5, 0, 0)] [(0, 2, 0)] [(47, [(2, 31, 0), (0, 0, 0), (2, 75, 0), (0, 1, 0), (0, 2, 0)], [(0, 1, 0), (0, 2, 0), (0, 0, 0), (2, 31, 0)], [(0, (-25), (-4)), (1, (-2147483648), 2147483647), (2, (-2147483648), 2147483647)], [], [], [])] (by decide +kernel) (ρ0 := (fun s => [x0, x1, x2].getD s 0)) hB eF trivial ⟨rfl, ⟨rfl, ⟨rfl, ⟨rfl, ⟨hv4, trivial⟩⟩⟩⟩⟩ ⟨rfl, trivial⟩ ?_
  refine List.forall_mem_cons.mpr ⟨?_, fun _ h => absurd h List.not_mem_nil⟩
  · intro ρ τ Lc stc hx g1 g2 g3 g4 g5 g6 g7 g8
    have e0 : ρ 0 = x0 := hx 0 (by decide)
    have e1 : ρ 1 = x1 := hx 1 (by decide)
    have e2 : ρ 2 = x2 := hx 2 (by decide)
    subst e0
    subst e1
    subst e2
    have g7 := g7 (by decide)
    match Lc, stc, g7, g8 with
    | [v0, v1, v2, v3, v4], [w0, w1, w2, w3], ⟨hv0, hv1, hv2, hv3, hv4, _⟩, ⟨hw0, hw1, hw2, hw3, _⟩ =>
      cases hv0
      cases hv1
      cases hv2
      cases hv3
      cases hv4
      cases hw0
      cases hw1
      cases hw2
      cases hw3
      exact l0 τ ρ  g1 g2 g3 g4 g5 g6
set_option maxRecDepth 100000 in
theorem pl_s49 {σ : pm_S} {Q : Option Value → pm_S → Prop} (v1 : Value) (v3 : Value) (v4 : Value) (hv1 : v1.category = 1) (hv3 : v3.category = 1) (hv4 : v4.category = 1) (hB : an_GB pm_B σ)
    (l0 : ∀ (τ : pm_S) (y : Nat → Int), an_GB pm_B τ → FQ [] σ τ → (True) → (True) → (True) → (True) → Q none τ)
    : Ok 17 5 49 [.ref 31, v1, .ref 75, v3, v4] [] σ Q := by
  refine an_seg (B := pm_B) (F := []) (T := []) (S := []) (fun _ h => absurd h List.not_mem_nil) (k := 17) (d := 4) (cs := []) 3 49 0 [] [] [(2, 31, 0), (5, 0, 0), (2, 75, 0), (5, 0, 0), (5, 0, 0)] [] [(9999, [], [], [], [], [], [])] (by decide +kernel) (ρ0 := (fun s => [].getD s 0)) hB trivial trivial ⟨rfl, ⟨hv1, ⟨rfl, ⟨hv3, ⟨hv4, trivial⟩⟩⟩⟩⟩ trivial ?_
  refine List.forall_mem_cons.mpr ⟨?_, fun _ h => absurd h List.not_mem_nil⟩
  · intro ρ τ Lc stc hx g1 g2 g3 g4 g5 g6 g7 g8
    match stc, g8 with
    | [], _ => exact l0 τ ρ g1 g2 g3 g4 g5 g6
set_option maxRecDepth 100000 in
theorem pl_l0 {σ : pm_S} {Q : Option Value → pm_S → Prop} (v2 : Value) (v3 : Value) (hv2 : v2.category = 1) (hv3 : v3.category = 1) (hB : an_GB pm_B σ)
    (l0 : ∀ (τ : pm_S) (y : Nat → Int) (v3 : Value), v3.category = 1 → an_GB pm_B τ → FQ [(31, 2)] σ τ → (True) → (True) → (True) → ((τ.1 31 2).toInt = 0 ∧ True) → Ok 16 8 5 [.ref 31, .ref 75, .int (Int32.ofInt 0), v3] [] τ Q)
    : Ok 16 8 0 [.ref 31, .ref 75, v2, v3] [] σ Q := by
  refine an_seg (B := pm_B) (F := [(31, 2)]) (T := []) (S := []) (fun _ h => absurd h List.not_mem_nil) (k := 16) (d := 7) (cs := [5]) 7 0 0 [] [] [(2, 31, 0), (2, 75, 0), (5, 0, 0), (5, 0, 0)] [] [(5, [(2, 31, 0), (2, 75, 0), (1, 0, 0), (5, 0, 0)], [], [], [], [], [(31, (1, 0, 2), (1, 0, 0))])] (by decide +kernel) (ρ0 := (fun s => [].getD s 0)) hB trivial trivial ⟨rfl, ⟨rfl, ⟨hv2, ⟨hv3, trivial⟩⟩⟩⟩ trivial ?_
  refine List.forall_mem_cons.mpr ⟨?_, fun _ h => absurd h List.not_mem_nil⟩
  · intro ρ τ Lc stc hx g1 g2 g3 g4 g5 g6 g7 g8
    have g7 := g7 (by decide)
    match Lc, stc, g7, g8 with
    | [v0, v1, v2, v3], [], ⟨hv0, hv1, hv2, hv3, _⟩, _ =>
      cases hv0
      cases hv1
      cases hv2
      exact l0 τ ρ v3 hv3 g1 g2 g3 g4 g5 g6
set_option maxRecDepth 100000 in
theorem pl_l5 {σ : pm_S} {Q : Option Value → pm_S → Prop} (x0 x1 : Int) (v3 : Value) (hv3 : v3.category = 1) (hB : an_GB pm_B σ) (eF : (0 ≤ x0 ∧ x0 ≤ 400) ∧ (0 ≤ x1 ∧ x1 ≤ 400) ∧ True) (eC : (σ.1 31 1).toInt = x1 ∧ True)
    (l0 : ∀ (τ : pm_S) (y : Nat → Int) (v3 : Value), v3.category = 1 → an_GB pm_B τ → FQ [] σ τ → ((0 ≤ x0 ∧ x0 ≤ 400) ∧ (0 ≤ x1 ∧ x1 ≤ 400) ∧ True) → (True) → (True) → ((τ.1 31 1).toInt = x1 ∧ True) → Ok 16 8 8 [.ref 31, .ref 75, .int (Int32.ofInt (x0)), v3] [.int (Int32.ofInt (x1)), .int (Int32.ofInt (x0))] τ Q)
    : Ok 16 8 5 [.ref 31, .ref 75, .int (Int32.ofInt (x0)), v3] [] σ Q := by
  refine an_seg (B := pm_B) (F := []) (T := []) (S := []) (fun _ h => absurd h List.not_mem_nil) (k := 16) (d := 7) (cs := [8]) 5 5 2 [(0, 0, 400), (1, 0, 400)] [(31, (1, 0, 1), (0, 1, 0))] [(2, 31, 0), (2, 75, 0), (0, 0, 0), (5, 0, 0)] [] [(8, [(2, 31, 0), (2, 75, 0), (0, 0, 0), (5, 0, 0)], [(0, 1, 0), (0, 0, 0)], [(0, 0, 400), (1, 0, 400)], [], [], [(31, (1, 0, 1), (0, 1, 0))])] (by decide +kernel) (ρ0 := (fun s => [x0, x1].getD s 0)) hB eF eC ⟨rfl, ⟨rfl, ⟨rfl, ⟨hv3, trivial⟩⟩⟩⟩ trivial ?_
  refine List.forall_mem_cons.mpr ⟨?_, fun _ h => absurd h List.not_mem_nil⟩
  · intro ρ τ Lc stc hx g1 g2 g3 g4 g5 g6 g7 g8
    have e0 : ρ 0 = x0 := hx 0 (by decide)
    have e1 : ρ 1 = x1 := hx 1 (by decide)
    subst e0
    subst e1
    have g7 := g7 (by decide)
    match Lc, stc, g7, g8 with
    | [v0, v1, v2, v3], [w0, w1], ⟨hv0, hv1, hv2, hv3, _⟩, ⟨hw0, hw1, _⟩ =>
      cases hv0
      cases hv1
      cases hv2
      cases hw0
      cases hw1
      exact l0 τ ρ v3 hv3 g1 g2 g3 g4 g5 g6
set_option maxRecDepth 100000 in
theorem pl_l9 {σ : pm_S} {Q : Option Value → pm_S → Prop} (x0 : Int) (v3 : Value) (hv3 : v3.category = 1) (hB : an_GB pm_B σ) (eF : (0 ≤ x0 ∧ x0 ≤ 399) ∧ True)
    (l0 : ∀ (τ : pm_S) (y : Nat → Int) (v3 : Value), v3.category = 1 → an_GB pm_B τ → FQ [] σ τ → ((0 ≤ x0 ∧ x0 ≤ 399) ∧ True) → (True) → (True) → (True) → Ok 16 8 17 [.ref 31, .ref 75, .int (Int32.ofInt (x0)), v3] [.int (Int32.ofInt (x0)), .ref 32] τ Q)
    : Ok 16 8 9 [.ref 31, .ref 75, .int (Int32.ofInt (x0)), v3] [] σ Q := by
  refine an_seg (B := pm_B) (F := []) (T := []) (S := []) (fun _ h => absurd h List.not_mem_nil) (k := 16) (d := 7) (cs := [17]) 10 9 1 [(0, 0, 399)] [] [(2, 31, 0), (2, 75, 0), (0, 0, 0), (5, 0, 0)] [] [(17, [(2, 31, 0), (2, 75, 0), (0, 0, 0), (5, 0, 0)], [(0, 0, 0), (2, 32, 0)], [(0, 0, 399)], [], [], [])] (by decide +kernel) (ρ0 := (fun s => [x0].getD s 0)) hB eF trivial ⟨rfl, ⟨rfl, ⟨rfl, ⟨hv3, trivial⟩⟩⟩⟩ trivial ?_
  refine List.forall_mem_cons.mpr ⟨?_, fun _ h => absurd h List.not_mem_nil⟩
  · intro ρ τ Lc stc hx g1 g2 g3 g4 g5 g6 g7 g8
    have e0 : ρ 0 = x0 := hx 0 (by decide)
    subst e0
    have g7 := g7 (by decide)
    match Lc, stc, g7, g8 with
    | [v0, v1, v2, v3], [w0, w1], ⟨hv0, hv1, hv2, hv3, _⟩, ⟨hw0, hw1, _⟩ =>
      cases hv0
      cases hv1
      cases hv2
      cases hw0
      cases hw1
      exact l0 τ ρ v3 hv3 g1 g2 g3 g4 g5 g6
set_option maxRecDepth 100000 in
theorem pl_l18v {σ : pm_S} {Q : Option Value → pm_S → Prop} (x0 x1 : Int) (v3 : Value) (hv3 : v3.category = 1) (hB : an_GB pm_B σ) (eF : (0 ≤ x0 ∧ x0 ≤ 399) ∧ ((-2) ≤ x1 ∧ x1 ≤ (-1)) ∧ True)
    (l0 : ∀ (τ : pm_S) (y : Nat → Int), an_GB pm_B τ → FQ [] σ τ → ((0 ≤ x0 ∧ x0 ≤ 399) ∧ ((-1) ≤ x1 ∧ x1 ≤ (-1)) ∧ True) → (True) → (True) → (True) → Ok 16 8 26 [.ref 31, .ref 75, .int (Int32.ofInt (x0)), .int (Int32.ofInt (x1))] [.ref 31] τ Q)
    (l1 : ∀ (τ : pm_S) (y : Nat → Int), an_GB pm_B τ → FQ [] σ τ → ((0 ≤ x0 ∧ x0 ≤ 399) ∧ ((-2) ≤ x1 ∧ x1 ≤ (-2)) ∧ True) → (True) → (True) → (True) → Ok 16 8 26 [.ref 31, .ref 75, .int (Int32.ofInt (x0)), .int (Int32.ofInt (x1))] [.ref 31] τ Q)
    : Ok 16 8 18 [.ref 31, .ref 75, .int (Int32.ofInt (x0)), v3] [.int (Int32.ofInt (x1))] σ Q := by
  refine an_seg (B := pm_B) (F := []) (T := []) (S := []) (fun _ h => absurd h List.not_mem_nil) (k := 16) (d := 7) (cs := [26]) 10 18 2 [(0, 0, 399), (1, (-2), (-1))] [] [(2, 31, 0), (2, 75, 0), (0, 0, 0), (5, 0, 0)] [(0, 1, 0)] [(26, [(2, 31, 0), (2, 75, 0), (0, 0, 0), (0, 1, 0)], [(2, 31, 0)], [(0, 0, 399), (1, (-1), (-1))], [], [], []),
    (26, [(2, 31, 0), (2, 75, 0), (0, 0, 0), (0, 1, 0)], [(2, 31, 0)], [(0, 0, 399), (1, (-2), (-2))], [], [], [])] (by decide +kernel) (ρ0 := (fun s => [x0, x1].getD s 0)) hB eF trivial ⟨rfl, ⟨rfl, ⟨rfl, ⟨hv3, trivial⟩⟩⟩⟩ ⟨rfl, trivial⟩ ?_
  refine List.forall_mem_cons.mpr ⟨?_, List.forall_mem_cons.mpr ⟨?_, fun _ h => absurd h List.not_mem_nil⟩⟩
  · intro ρ τ Lc stc hx g1 g2 g3 g4 g5 g6 g7 g8
    have e0 : ρ 0 = x0 := hx 0 (by decide)
    have e1 : ρ 1 = x1 := hx 1 (by decide)
    subst e0
    subst e1
    have g7 := g7 (by decide)
    match Lc, stc, g7, g8 with
    | [v0, v1, v2, v3], [w0], ⟨hv0, hv1, hv2, hv3, _⟩, ⟨hw0, _⟩ =>
      cases hv0
      cases hv1
      cases hv2
      cases hv3
      cases hw0
      exact l0 τ ρ  g1 g2 g3 g4 g5 g6
  · intro ρ τ Lc stc hx g1 g2 g3 g4 g5 g6 g7 g8
    have e0 : ρ 0 = x0 := hx 0 (by decide)
    have e1 : ρ 1 = x1 := hx 1 (by decide)
    subst e0
    subst e1
    have g7 := g7 (by decide)
    match Lc, stc, g7, g8 with
    | [v0, v1, v2, v3], [w0], ⟨hv0, hv1, hv2, hv3, _⟩, ⟨hw0, _⟩ =>
      cases hv0
      cases hv1
      cases hv2
      cases hv3
      cases hw0
      exact l1 τ ρ  g1 g2 g3 g4 g5 g6
set_option maxRecDepth 100000 in
theorem pl_l18w {σ : pm_S} {Q : Option Value → pm_S → Prop} (x0 x1 : Int) (v3 : Value) (hv3 : v3.category = 1) (hB : an_GB pm_B σ) (eF : (0 ≤ x0 ∧ x0 ≤ 399) ∧ (0 ≤ x1 ∧ x1 ≤ 9999) ∧ True)
    (l0 : ∀ (τ : pm_S) (y : Nat → Int), an_GB pm_B τ → FQ [] σ τ → ((0 ≤ x0 ∧ x0 ≤ 399) ∧ (0 ≤ x1 ∧ x1 ≤ 9999) ∧ True) → (x1 ≠ (-2) ∧ x1 ≠ (-1) ∧ True) → (True) → (True) → Ok 16 8 38 [.ref 31, .ref 75, .int (Int32.ofInt (x0)), .int (Int32.ofInt (x1))] [.ref 75, .int (Int32.ofInt (x1)), .ref 31] τ Q)
    : Ok 16 8 18 [.ref 31, .ref 75, .int (Int32.ofInt (x0)), v3] [.int (Int32.ofInt (x1))] σ Q := by
  refine an_seg (B := pm_B) (F := []) (T := []) (S := []) (fun _ h => absurd h List.not_mem_nil) (k := 16) (d := 7) (cs := [38]) 12 18 2 [(0, 0, 399), (1, 0, 9999)] [] [(2, 31, 0), (2, 75, 0), (0, 0, 0), (5, 0, 0)] [(0, 1, 0)] [(38, [(2, 31, 0), (2, 75, 0), (0, 0, 0), (0, 1, 0)], [(2, 75, 0), (0, 1, 0), (2, 31, 0)], [(0, 0, 399), (1, 0, 9999)], [(3, 1, 1, (-2)), (3, 1, 1, (-1))], [], [])] (by decide +kernel) (ρ0 := (fun s => [x0, x1].getD s 0)) hB eF trivial ⟨rfl, ⟨rfl, ⟨rfl, ⟨hv3, trivial⟩⟩⟩⟩ ⟨rfl, trivial⟩ ?_
  refine List.forall_mem_cons.mpr ⟨?_, fun _ h => absurd h List.not_mem_nil⟩
  · intro ρ τ Lc stc hx g1 g2 g3 g4 g5 g6 g7 g8
    have e0 : ρ 0 = x0 := hx 0 (by decide)
    have e1 : ρ 1 = x1 := hx 1 (by decide)
    subst e0
    subst e1
    have g7 := g7 (by decide)
    match Lc, stc, g7, g8 with
    | [v0, v1, v2, v3], [w0, w1, w2], ⟨hv0, hv1, hv2, hv3, _⟩, ⟨hw0, hw1, hw2, _⟩ =>
      cases hv0
      cases hv1
      cases hv2
      cases hv3
      cases hw0
      cases hw1
      cases hw2
      exact l0 τ ρ  g1 g2 g3 g4 g5 g6
set_option maxRecDepth 100000 in
theorem pl_l18x {σ : pm_S} {Q : Option Value → pm_S → Prop} (x0 x1 : Int) (v3 : Value) (hv3 : v3.category = 1) (hB : an_GB pm_B σ) (eF : (0 ≤ x0 ∧ x0 ≤ 399) ∧ ((-25) ≤ x1 ∧ x1 ≤ (-4)) ∧ True)
    (l0 : ∀ (τ : pm_S) (y : Nat → Int), an_GB pm_B τ → FQ [] σ τ → ((0 ≤ x0 ∧ x0 ≤ 399) ∧ ((-25) ≤ x1 ∧ x1 ≤ (-4)) ∧ True) → (x1 ≠ (-2) ∧ x1 ≠ (-1) ∧ True) → (True) → (True) → Ok 16 8 38 [.ref 31, .ref 75, .int (Int32.ofInt (x0)), .int (Int32.ofInt (x1))] [.ref 75, .int (Int32.ofInt (x1)), .ref 31] τ Q)
    : Ok 16 8 18 [.ref 31, .ref 75, .int (Int32.ofInt (x0)), v3] [.int (Int32.ofInt (x1))] σ Q := by
  refine an_seg (B := pm_B) (F := []) (T := []) (S := []) (fun _ h => absurd h List.not_mem_nil) (k := 16) (d := 7) (cs := [38]) 12 18 2 [(0, 0, 399), (1, (-25), (-4))] [] [(2, 31, 0), (2, 75, 0), (0, 0, 0), (5, 0, 0)] [(0, 1, 0)] [(38, [(2, 31, 0), (2, 75, 0), (0, 0, 0), (0, 1, 0)], [(2, 75, 0), (0, 1, 0), (2, 31, 0)], [(0, 0, 399), (1, (-25), (-4))], [(3, 1, 1, (-2)), (3, 1, 1, (-1))], [], [])] (by decide +kernel) (ρ0 := (fun s => [x0, x1].getD s 0)) hB eF trivial ⟨rfl, ⟨rfl, ⟨rfl, ⟨hv3, trivial⟩⟩⟩⟩ ⟨rfl, trivial⟩ ?_
  refine List.forall_mem_cons.mpr ⟨?_, fun _ h => absurd h List.not_mem_nil⟩
  · intro ρ τ Lc stc hx g1 g2 g3 g4 g5 g6 g7 g8
    have e0 : ρ 0 = x0 := hx 0 (by decide)
    have e1 : ρ 1 = x1 := hx 1 (by decide)
    subst e0
    subst e1
    have g7 := g7 (by decide)
    match Lc, stc, g7, g8 with
    | [v0, v1, v2, v3], [w0, w1, w2], ⟨hv0, hv1, hv2, hv3, _⟩, ⟨hw0, hw1, hw2, _⟩ =>
      cases hv0
      cases hv1
      cases hv2
      cases hv3
      cases hw0
      cases hw1
      cases hw2
      exact l0 τ ρ  g1 g2 g3 g4 g5 g6
set_option maxRecDepth 100000 in
theorem pl_l27 {σ : pm_S} {Q : Option Value → pm_S → Prop} (x0 x1 x2 : Int)  (hB : an_GB pm_B σ) (eF : (0 ≤ x0 ∧ x0 ≤ 399) ∧ ((-2) ≤ x1 ∧ x1 ≤ (-1)) ∧ ((-2147483648) ≤ x2 ∧ x2 ≤ 2147483647) ∧ True)
    (l0 : ∀ (τ : pm_S) (y : Nat → Int), an_GB pm_B τ → FQ [] σ τ → ((0 ≤ x0 ∧ x0 ≤ 399) ∧ ((-2) ≤ x1 ∧ x1 ≤ (-1)) ∧ (0 ≤ x2 ∧ x2 ≤ 0) ∧ True) → (True) → (True) → (True) → Ok 16 8 5 [.ref 31, .ref 75, .int (Int32.ofInt (x0 + 1)), .int (Int32.ofInt (x1))] [] τ Q)
    (l1 : ∀ (τ : pm_S) (y : Nat → Int), an_GB pm_B τ → FQ [] σ τ → ((0 ≤ x0 ∧ x0 ≤ 399) ∧ ((-2) ≤ x1 ∧ x1 ≤ (-2)) ∧ ((-2147483648) ≤ x2 ∧ x2 ≤ 2147483647) ∧ True) → (x2 ≠ 0 ∧ True) → (True) → (True) → Q (some (.int (Int32.ofInt 0))) τ)
    (l2 : ∀ (τ : pm_S) (y : Nat → Int), an_GB pm_B τ → FQ [] σ τ → ((0 ≤ x0 ∧ x0 ≤ 399) ∧ ((-1) ≤ x1 ∧ x1 ≤ (-1)) ∧ ((-2147483648) ≤ x2 ∧ x2 ≤ 2147483647) ∧ True) → (x2 ≠ 0 ∧ True) → (True) → (True) → Q (some (.int (Int32.ofInt 1))) τ)
    : Ok 16 8 27 [.ref 31, .ref 75, .int (Int32.ofInt (x0)), .int (Int32.ofInt (x1))] [.int (Int32.ofInt (x2))] σ Q := by
  refine an_seg (B := pm_B) (F := []) (T := []) (S := []) (fun _ h => absurd h List.not_mem_nil) (k := 16) (d := 7) (cs := [5]) 9 27 3 [(0, 0, 399), (1, (-2), (-1)), (2, (-2147483648), 2147483647)] [] [(2, 31, 0), (2, 75, 0), (0, 0, 0), (0, 1, 0)] [(0, 2, 0)] [(5, [(2, 31, 0), (2, 75, 0), (0, 0, 1), (0, 1, 0)], [], [(0, 0, 399), (1, (-2), (-1)), (2, 0, 0)], [], [], []),
    (9999, [], [(1, 0, 0)], [(0, 0, 399), (1, (-2), (-2)), (2, (-2147483648), 2147483647)], [(3, 2, 2, 0)], [], []),
    (9999, [], [(1, 0, 1)], [(0, 0, 399), (1, (-1), (-1)), (2, (-2147483648), 2147483647)], [(3, 2, 2, 0)], [], [])] (by decide +kernel) (ρ0 := (fun s => [x0, x1, x2].getD s 0)) hB eF trivial ⟨rfl, ⟨rfl, ⟨rfl, ⟨rfl, trivial⟩⟩⟩⟩ ⟨rfl, trivial⟩ ?_
  refine List.forall_mem_cons.mpr ⟨?_, List.forall_mem_cons.mpr ⟨?_, List.forall_mem_cons.mpr ⟨?_, fun _ h => absurd h List.not_mem_nil⟩⟩⟩
  · intro ρ τ Lc stc hx g1 g2 g3 g4 g5 g6 g7 g8
    have e0 : ρ 0 = x0 := hx 0 (by decide)
    have e1 : ρ 1 = x1 := hx 1 (by decide)
    have e2 : ρ 2 = x2 := hx 2 (by decide)
    subst e0
    subst e1
    subst e2
    have g7 := g7 (by decide)
    match Lc, stc, g7, g8 with
    | [v0, v1, v2, v3], [], ⟨hv0, hv1, hv2, hv3, _⟩, _ =>
      cases hv0
      cases hv1
      cases hv2
      cases hv3
      exact l0 τ ρ  g1 g2 g3 g4 g5 g6
  · intro ρ τ Lc stc hx g1 g2 g3 g4 g5 g6 g7 g8
    have e0 : ρ 0 = x0 := hx 0 (by decide)
    have e1 : ρ 1 = x1 := hx 1 (by decide)
    have e2 : ρ 2 = x2 := hx 2 (by decide)
    subst e0
    subst e1
    subst e2
    match stc, g8 with
    | [_], ⟨h, _⟩ => cases h; exact l1 τ ρ g1 g2 g3 g4 g5 g6
  · intro ρ τ Lc stc hx g1 g2 g3 g4 g5 g6 g7 g8
    have e0 : ρ 0 = x0 := hx 0 (by decide)
    have e1 : ρ 1 = x1 := hx 1 (by decide)
    have e2 : ρ 2 = x2 := hx 2 (by decide)
    subst e0
    subst e1
    subst e2
    match stc, g8 with
    | [_], ⟨h, _⟩ => cases h; exact l2 τ ρ g1 g2 g3 g4 g5 g6
set_option maxRecDepth 100000 in
theorem pl_l39 {σ : pm_S} {Q : Option Value → pm_S → Prop} (x0 : Int) (v3 : Value) (hv3 : v3.category = 1) (hB : an_GB pm_B σ) (eF : (0 ≤ x0 ∧ x0 ≤ 399) ∧ True)
    (l0 : ∀ (τ : pm_S) (y : Nat → Int) (v3 : Value), v3.category = 1 → an_GB pm_B τ → FQ [] σ τ → ((0 ≤ x0 ∧ x0 ≤ 399) ∧ True) → (True) → (True) → (True) → Ok 16 8 5 [.ref 31, .ref 75, .int (Int32.ofInt (x0 + 1)), v3] [] τ Q)
    : Ok 16 8 39 [.ref 31, .ref 75, .int (Int32.ofInt (x0)), v3] [] σ Q := by
  refine an_seg (B := pm_B) (F := []) (T := []) (S := []) (fun _ h => absurd h List.not_mem_nil) (k := 16) (d := 7) (cs := [5]) 4 39 1 [(0, 0, 399)] [] [(2, 31, 0), (2, 75, 0), (0, 0, 0), (5, 0, 0)] [] [(5, [(2, 31, 0), (2, 75, 0), (0, 0, 1), (5, 0, 0)], [], [(0, 0, 399)], [], [], [])] (by decide +kernel) (ρ0 := (fun s => [x0].getD s 0)) hB eF trivial ⟨rfl, ⟨rfl, ⟨rfl, ⟨hv3, trivial⟩⟩⟩⟩ trivial ?_
  refine List.forall_mem_cons.mpr ⟨?_, fun _ h => absurd h List.not_mem_nil⟩
  · intro ρ τ Lc stc hx g1 g2 g3 g4 g5 g6 g7 g8
    have e0 : ρ 0 = x0 := hx 0 (by decide)
    subst e0
    have g7 := g7 (by decide)
    match Lc, stc, g7, g8 with
    | [v0, v1, v2, v3], [], ⟨hv0, hv1, hv2, hv3, _⟩, _ =>
      cases hv0
      cases hv1
      cases hv2
      exact l0 τ ρ v3 hv3 g1 g2 g3 g4 g5 g6
set_option maxRecDepth 100000 in
theorem pl_l40 {σ : pm_S} {Q : Option Value → pm_S → Prop} (v2 : Value) (v3 : Value) (hv2 : v2.category = 1) (hv3 : v3.category = 1) (hB : an_GB pm_B σ)
    (l0 : ∀ (τ : pm_S) (y : Nat → Int), an_GB pm_B τ → FQ [] σ τ → (True) → (True) → (True) → (True) → Q (some (.int (Int32.ofInt 1))) τ)
    : Ok 16 8 41 [.ref 31, .ref 75, v2, v3] [] σ Q := by
  refine an_seg (B := pm_B) (F := []) (T := []) (S := []) (fun _ h => absurd h List.not_mem_nil) (k := 16) (d := 7) (cs := []) 4 41 0 [] [] [(2, 31, 0), (2, 75, 0), (5, 0, 0), (5, 0, 0)] [] [(9999, [], [(1, 0, 1)], [], [], [], [])] (by decide +kernel) (ρ0 := (fun s => [].getD s 0)) hB trivial trivial ⟨rfl, ⟨rfl, ⟨hv2, ⟨hv3, trivial⟩⟩⟩⟩ trivial ?_
  refine List.forall_mem_cons.mpr ⟨?_, fun _ h => absurd h List.not_mem_nil⟩
  · intro ρ τ Lc stc hx g1 g2 g3 g4 g5 g6 g7 g8
    match stc, g8 with
    | [_], ⟨h, _⟩ => cases h; exact l0 τ ρ g1 g2 g3 g4 g5 g6
set_option maxRecDepth 100000 in
theorem ql_t2 {σ : pm_S} {Q : Option Value → pm_S → Prop} (x0 x1 : Int)  (hB : an_GB pm_B σ) (eF : ((-2147483648) ≤ x0 ∧ x0 ≤ 2147483647) ∧ ((-2147483648) ≤ x1 ∧ x1 ≤ 2147483647) ∧ True)
    (l0 : ∀ (τ : pm_S) (y : Nat → Int), an_GB pm_B τ → FQ [] σ τ → (((-2147483648) ≤ x0 ∧ x0 ≤ 2147483647) ∧ ((-2147483648) ≤ x1 ∧ x1 ≤ 2147483647) ∧ ((-2147483648) ≤ y 2 ∧ y 2 ≤ 2147483647) ∧ True) → (True) → ((an_f 0 (Int32.ofInt (x0)) (Int32.ofInt (x1))).toInt = y 2 ∧ True) → (True) → Q (some (.int (Int32.ofInt (y 2)))) τ)
    : Ok 197 2 0 [.ref 93, .int (Int32.ofInt 2), .int (Int32.ofInt (x0)), .int (Int32.ofInt (x1))] [] σ Q := by
  refine an_seg (B := pm_B) (F := []) (T := []) (S := []) (fun _ h => absurd h List.not_mem_nil) (k := 197) (d := 1) (cs := []) 9 0 2 [(0, (-2147483648), 2147483647), (1, (-2147483648), 2147483647)] [] [(2, 93, 0), (1, 0, 2), (0, 0, 0), (0, 1, 0)] [] [(9999, [], [(0, 2, 0)], [(0, (-2147483648), 2147483647), (1, (-2147483648), 2147483647), (2, (-2147483648), 2147483647)], [], [(0, (0, 0, 0), (0, 1, 0), 2)], [])] (by decide +kernel) (ρ0 := (fun s => [x0, x1].getD s 0)) hB eF trivial ⟨rfl, ⟨rfl, ⟨rfl, ⟨rfl, trivial⟩⟩⟩⟩ trivial ?_
  refine List.forall_mem_cons.mpr ⟨?_, fun _ h => absurd h List.not_mem_nil⟩
  · intro ρ τ Lc stc hx g1 g2 g3 g4 g5 g6 g7 g8
    have e0 : ρ 0 = x0 := hx 0 (by decide)
    have e1 : ρ 1 = x1 := hx 1 (by decide)
    subst e0
    subst e1
    match stc, g8 with
    | [_], ⟨h, _⟩ => cases h; exact l0 τ ρ g1 g2 g3 g4 g5 g6
set_option maxRecDepth 100000 in
theorem ql_t3 {σ : pm_S} {Q : Option Value → pm_S → Prop} (x0 x1 : Int)  (hB : an_GB pm_B σ) (eF : ((-2147483648) ≤ x0 ∧ x0 ≤ 2147483647) ∧ ((-2147483648) ≤ x1 ∧ x1 ≤ 2147483647) ∧ True)
    (l0 : ∀ (τ : pm_S) (y : Nat → Int), an_GB pm_B τ → FQ [] σ τ → (((-2147483648) ≤ x0 ∧ x0 ≤ 2147483647) ∧ ((-2147483648) ≤ x1 ∧ x1 ≤ 2147483647) ∧ ((-2147483648) ≤ y 2 ∧ y 2 ≤ 2147483647) ∧ True) → (True) → ((an_f 1 (Int32.ofInt (x0)) (Int32.ofInt (x1))).toInt = y 2 ∧ True) → (True) → Q (some (.int (Int32.ofInt (y 2)))) τ)
    : Ok 197 2 0 [.ref 93, .int (Int32.ofInt 3), .int (Int32.ofInt (x0)), .int (Int32.ofInt (x1))] [] σ Q := by
  refine an_seg (B := pm_B) (F := []) (T := []) (S := []) (fun _ h => absurd h List.not_mem_nil) (k := 197) (d := 1) (cs := []) 12 0 2 [(0, (-2147483648), 2147483647), (1, (-2147483648), 2147483647)] [] [(2, 93, 0), (1, 0, 3), (0, 0, 0), (0, 1, 0)] [] [(9999, [], [(0, 2, 0)], [(0, (-2147483648), 2147483647), (1, (-2147483648), 2147483647), (2, (-2147483648), 2147483647)], [], [(1, (0, 0, 0), (0, 1, 0), 2)], [])] (by decide +kernel) (ρ0 := (fun s => [x0, x1].getD s 0)) hB eF trivial ⟨rfl, ⟨rfl, ⟨rfl, ⟨rfl, trivial⟩⟩⟩⟩ trivial ?_
  refine List.forall_mem_cons.mpr ⟨?_, fun _ h => absurd h List.not_mem_nil⟩
  · intro ρ τ Lc stc hx g1 g2 g3 g4 g5 g6 g7 g8
    have e0 : ρ 0 = x0 := hx 0 (by decide)
    have e1 : ρ 1 = x1 := hx 1 (by decide)
    subst e0
    subst e1
    match stc, g8 with
    | [_], ⟨h, _⟩ => cases h; exact l0 τ ρ g1 g2 g3 g4 g5 g6
set_option maxRecDepth 100000 in
theorem ql_t4 {σ : pm_S} {Q : Option Value → pm_S → Prop} (x0 x1 : Int)  (hB : an_GB pm_B σ) (eF : ((-2147483648) ≤ x0 ∧ x0 ≤ 2147483647) ∧ ((-2147483648) ≤ x1 ∧ x1 ≤ 2147483647) ∧ True)
    (l0 : ∀ (τ : pm_S) (y : Nat → Int), an_GB pm_B τ → FQ [] σ τ → (((-2147483648) ≤ x0 ∧ x0 ≤ 2147483647) ∧ ((-2147483648) ≤ x1 ∧ x1 ≤ 2147483647) ∧ ((-2147483648) ≤ y 2 ∧ y 2 ≤ 2147483647) ∧ True) → (True) → ((an_f 2 (Int32.ofInt (x0)) (Int32.ofInt (x1))).toInt = y 2 ∧ True) → (True) → Q (some (.int (Int32.ofInt (y 2)))) τ)
    : Ok 197 2 0 [.ref 93, .int (Int32.ofInt 4), .int (Int32.ofInt (x0)), .int (Int32.ofInt (x1))] [] σ Q := by
  refine an_seg (B := pm_B) (F := []) (T := []) (S := []) (fun _ h => absurd h List.not_mem_nil) (k := 197) (d := 1) (cs := []) 15 0 2 [(0, (-2147483648), 2147483647), (1, (-2147483648), 2147483647)] [] [(2, 93, 0), (1, 0, 4), (0, 0, 0), (0, 1, 0)] [] [(9999, [], [(0, 2, 0)], [(0, (-2147483648), 2147483647), (1, (-2147483648), 2147483647), (2, (-2147483648), 2147483647)], [], [(2, (0, 0, 0), (0, 1, 0), 2)], [])] (by decide +kernel) (ρ0 := (fun s => [x0, x1].getD s 0)) hB eF trivial ⟨rfl, ⟨rfl, ⟨rfl, ⟨rfl, trivial⟩⟩⟩⟩ trivial ?_
  refine List.forall_mem_cons.mpr ⟨?_, fun _ h => absurd h List.not_mem_nil⟩
  · intro ρ τ Lc stc hx g1 g2 g3 g4 g5 g6 g7 g8
    have e0 : ρ 0 = x0 := hx 0 (by decide)
    have e1 : ρ 1 = x1 := hx 1 (by decide)
    subst e0
    subst e1
    match stc, g8 with
    | [_], ⟨h, _⟩ => cases h; exact l0 τ ρ g1 g2 g3 g4 g5 g6
set_option maxRecDepth 100000 in
theorem ql_t10 {σ : pm_S} {Q : Option Value → pm_S → Prop} (x0 x1 : Int)  (hB : an_GB pm_B σ) (eF : ((-2147483648) ≤ x0 ∧ x0 ≤ 2147483647) ∧ ((-2147483648) ≤ x1 ∧ x1 ≤ 2147483647) ∧ True)
    (l0 : ∀ (τ : pm_S) (y : Nat → Int), an_GB pm_B τ → FQ [] σ τ → (((-2147483648) ≤ x0 ∧ x0 ≤ 2147483647) ∧ ((-2147483648) ≤ x1 ∧ x1 ≤ 2147483647) ∧ ((-2147483648) ≤ y 2 ∧ y 2 ≤ 2147483647) ∧ True) → (True) → ((an_f 2 (Int32.ofInt (x0)) (Int32.ofInt (x1))).toInt = y 2 ∧ True) → (True) → Q (some (.int (Int32.ofInt (y 2)))) τ)
    : Ok 197 2 0 [.ref 93, .int (Int32.ofInt 10), .int (Int32.ofInt (x0)), .int (Int32.ofInt (x1))] [] σ Q := by
  refine an_seg (B := pm_B) (F := []) (T := []) (S := []) (fun _ h => absurd h List.not_mem_nil) (k := 197) (d := 1) (cs := []) 31 0 2 [(0, (-2147483648), 2147483647), (1, (-2147483648), 2147483647)] [] [(2, 93, 0), (1, 0, 10), (0, 0, 0), (0, 1, 0)] [] [(9999, [], [(0, 2, 0)], [(0, (-2147483648), 2147483647), (1, (-2147483648), 2147483647), (2, (-2147483648), 2147483647)], [], [(2, (0, 0, 0), (0, 1, 0), 2)], [])] (by decide +kernel) (ρ0 := (fun s => [x0, x1].getD s 0)) hB eF trivial ⟨rfl, ⟨rfl, ⟨rfl, ⟨rfl, trivial⟩⟩⟩⟩ trivial ?_
  refine List.forall_mem_cons.mpr ⟨?_, fun _ h => absurd h List.not_mem_nil⟩
  · intro ρ τ Lc stc hx g1 g2 g3 g4 g5 g6 g7 g8
    have e0 : ρ 0 = x0 := hx 0 (by decide)
    have e1 : ρ 1 = x1 := hx 1 (by decide)
    subst e0
    subst e1
    match stc, g8 with
    | [_], ⟨h, _⟩ => cases h; exact l0 τ ρ g1 g2 g3 g4 g5 g6
set_option maxRecDepth 100000 in
theorem ql_t5p {σ : pm_S} {Q : Option Value → pm_S → Prop} (x0 x1 : Int)  (hB : an_GB pm_B σ) (eF : ((-2147483648) ≤ x0 ∧ x0 ≤ 2147483647) ∧ (1 ≤ x1 ∧ x1 ≤ 2147483647) ∧ True)
    (l0 : ∀ (τ : pm_S) (y : Nat → Int), an_GB pm_B τ → FQ [] σ τ → (((-2147483648) ≤ x0 ∧ x0 ≤ 2147483647) ∧ (1 ≤ x1 ∧ x1 ≤ 2147483647) ∧ ((-2147483648) ≤ y 2 ∧ y 2 ≤ 2147483647) ∧ True) → (True) → ((an_f 9 (Int32.ofInt (x0)) (Int32.ofInt (x1))).toInt = y 2 ∧ True) → (True) → Q (some (.int (Int32.ofInt (y 2)))) τ)
    : Ok 197 2 0 [.ref 93, .int (Int32.ofInt 5), .int (Int32.ofInt (x0)), .int (Int32.ofInt (x1))] [] σ Q := by
  refine an_seg (B := pm_B) (F := []) (T := []) (S := []) (fun _ h => absurd h List.not_mem_nil) (k := 197) (d := 1) (cs := []) 18 0 2 [(0, (-2147483648), 2147483647), (1, 1, 2147483647)] [] [(2, 93, 0), (1, 0, 5), (0, 0, 0), (0, 1, 0)] [] [(9999, [], [(0, 2, 0)], [(0, (-2147483648), 2147483647), (1, 1, 2147483647), (2, (-2147483648), 2147483647)], [], [(9, (0, 0, 0), (0, 1, 0), 2)], [])] (by decide +kernel) (ρ0 := (fun s => [x0, x1].getD s 0)) hB eF trivial ⟨rfl, ⟨rfl, ⟨rfl, ⟨rfl, trivial⟩⟩⟩⟩ trivial ?_
  refine List.forall_mem_cons.mpr ⟨?_, fun _ h => absurd h List.not_mem_nil⟩
  · intro ρ τ Lc stc hx g1 g2 g3 g4 g5 g6 g7 g8
    have e0 : ρ 0 = x0 := hx 0 (by decide)
    have e1 : ρ 1 = x1 := hx 1 (by decide)
    subst e0
    subst e1
    match stc, g8 with
    | [_], ⟨h, _⟩ => cases h; exact l0 τ ρ g1 g2 g3 g4 g5 g6
set_option maxRecDepth 100000 in
theorem ql_t5n {σ : pm_S} {Q : Option Value → pm_S → Prop} (x0 x1 : Int)  (hB : an_GB pm_B σ) (eF : ((-2147483648) ≤ x0 ∧ x0 ≤ 2147483647) ∧ ((-2147483648) ≤ x1 ∧ x1 ≤ (-1)) ∧ True)
    (l0 : ∀ (τ : pm_S) (y : Nat → Int), an_GB pm_B τ → FQ [] σ τ → (((-2147483648) ≤ x0 ∧ x0 ≤ 2147483647) ∧ ((-2147483648) ≤ x1 ∧ x1 ≤ (-1)) ∧ ((-2147483648) ≤ y 2 ∧ y 2 ≤ 2147483647) ∧ True) → (True) → ((an_f 9 (Int32.ofInt (x0)) (Int32.ofInt (x1))).toInt = y 2 ∧ True) → (True) → Q (some (.int (Int32.ofInt (y 2)))) τ)
    : Ok 197 2 0 [.ref 93, .int (Int32.ofInt 5), .int (Int32.ofInt (x0)), .int (Int32.ofInt (x1))] [] σ Q := by
  refine an_seg (B := pm_B) (F := []) (T := []) (S := []) (fun _ h => absurd h List.not_mem_nil) (k := 197) (d := 1) (cs := []) 18 0 2 [(0, (-2147483648), 2147483647), (1, (-2147483648), (-1))] [] [(2, 93, 0), (1, 0, 5), (0, 0, 0), (0, 1, 0)] [] [(9999, [], [(0, 2, 0)], [(0, (-2147483648), 2147483647), (1, (-2147483648), (-1)), (2, (-2147483648), 2147483647)], [], [(9, (0, 0, 0), (0, 1, 0), 2)], [])] (by decide +kernel) (ρ0 := (fun s => [x0, x1].getD s 0)) hB eF trivial ⟨rfl, ⟨rfl, ⟨rfl, ⟨rfl, trivial⟩⟩⟩⟩ trivial ?_
  refine List.forall_mem_cons.mpr ⟨?_, fun _ h => absurd h List.not_mem_nil⟩
  · intro ρ τ Lc stc hx g1 g2 g3 g4 g5 g6 g7 g8
    have e0 : ρ 0 = x0 := hx 0 (by decide)
    have e1 : ρ 1 = x1 := hx 1 (by decide)
    subst e0
    subst e1
    match stc, g8 with
    | [_], ⟨h, _⟩ => cases h; exact l0 τ ρ g1 g2 g3 g4 g5 g6
set_option maxRecDepth 100000 in
theorem ql_t11 {σ : pm_S} {Q : Option Value → pm_S → Prop} (x0 x1 : Int)  (hB : an_GB pm_B σ) (eF : ((-2147483648) ≤ x0 ∧ x0 ≤ 2147483647) ∧ ((-2147483648) ≤ x1 ∧ x1 ≤ 2147483647) ∧ True)
    (l0 : ∀ (τ : pm_S) (y : Nat → Int), an_GB pm_B τ → FQ [] σ τ → (((-2147483648) ≤ x0 ∧ x0 ≤ 2147483647) ∧ ((-2147483648) ≤ x1 ∧ x1 ≤ 2147483647) ∧ ((-2147483648) ≤ y 2 ∧ y 2 ≤ 0) ∧ True) → (True) → ((an_f 0 (Int32.ofInt (x0)) (Int32.ofInt (x1))).toInt = y 2 ∧ True) → (True) → Q (some (.int (Int32.ofInt 0))) τ)
    (l1 : ∀ (τ : pm_S) (y : Nat → Int), an_GB pm_B τ → FQ [] σ τ → (((-2147483648) ≤ x0 ∧ x0 ≤ 2147483647) ∧ ((-2147483648) ≤ x1 ∧ x1 ≤ 2147483647) ∧ (1 ≤ y 2 ∧ y 2 ≤ 2147483647) ∧ True) → (True) → ((an_f 0 (Int32.ofInt (x0)) (Int32.ofInt (x1))).toInt = y 2 ∧ True) → (True) → Q (some (.int (Int32.ofInt 1))) τ)
    : Ok 197 2 0 [.ref 93, .int (Int32.ofInt 11), .int (Int32.ofInt (x0)), .int (Int32.ofInt (x1))] [] σ Q := by
  refine an_seg (B := pm_B) (F := []) (T := []) (S := []) (fun _ h => absurd h List.not_mem_nil) (k := 197) (d := 1) (cs := []) 33 0 2 [(0, (-2147483648), 2147483647), (1, (-2147483648), 2147483647)] [] [(2, 93, 0), (1, 0, 11), (0, 0, 0), (0, 1, 0)] [] [(9999, [], [(1, 0, 0)], [(0, (-2147483648), 2147483647), (1, (-2147483648), 2147483647), (2, (-2147483648), 0)], [], [(0, (0, 0, 0), (0, 1, 0), 2)], []),
    (9999, [], [(1, 0, 1)], [(0, (-2147483648), 2147483647), (1, (-2147483648), 2147483647), (2, 1, 2147483647)], [], [(0, (0, 0, 0), (0, 1, 0), 2)], [])] (by decide +kernel) (ρ0 := (fun s => [x0, x1].getD s 0)) hB eF trivial ⟨rfl, ⟨rfl, ⟨rfl, ⟨rfl, trivial⟩⟩⟩⟩ trivial ?_
  refine List.forall_mem_cons.mpr ⟨?_, List.forall_mem_cons.mpr ⟨?_, fun _ h => absurd h List.not_mem_nil⟩⟩
  · intro ρ τ Lc stc hx g1 g2 g3 g4 g5 g6 g7 g8
    have e0 : ρ 0 = x0 := hx 0 (by decide)
    have e1 : ρ 1 = x1 := hx 1 (by decide)
    subst e0
    subst e1
    match stc, g8 with
    | [_], ⟨h, _⟩ => cases h; exact l0 τ ρ g1 g2 g3 g4 g5 g6
  · intro ρ τ Lc stc hx g1 g2 g3 g4 g5 g6 g7 g8
    have e0 : ρ 0 = x0 := hx 0 (by decide)
    have e1 : ρ 1 = x1 := hx 1 (by decide)
    subst e0
    subst e1
    match stc, g8 with
    | [_], ⟨h, _⟩ => cases h; exact l1 τ ρ g1 g2 g3 g4 g5 g6
set_option maxRecDepth 100000 in
theorem ql_t6 {σ : pm_S} {Q : Option Value → pm_S → Prop} (x0 x1 : Int)  (hB : an_GB pm_B σ) (eF : ((-2147483648) ≤ x0 ∧ x0 ≤ 2147483647) ∧ ((-2147483648) ≤ x1 ∧ x1 ≤ 2147483647) ∧ True)
    (l0 : ∀ (τ : pm_S) (y : Nat → Int), an_GB pm_B τ → FQ [] σ τ → (((-2147483648) ≤ x0 ∧ x0 ≤ 2147483647) ∧ ((-2147483648) ≤ x1 ∧ x1 ≤ 2147483647) ∧ True) → (True) → (True) → (True) → Ok 197 2 33 [.ref 93, .int (Int32.ofInt 6), .int (Int32.ofInt (x0)), .int (Int32.ofInt (x1))] [.int (Int32.ofInt (x1)), .int (Int32.ofInt (x0))] τ Q)
    : Ok 197 2 0 [.ref 93, .int (Int32.ofInt 6), .int (Int32.ofInt (x0)), .int (Int32.ofInt (x1))] [] σ Q := by
  refine an_seg (B := pm_B) (F := []) (T := []) (S := []) (fun _ h => absurd h List.not_mem_nil) (k := 197) (d := 1) (cs := [33]) 19 0 2 [(0, (-2147483648), 2147483647), (1, (-2147483648), 2147483647)] [] [(2, 93, 0), (1, 0, 6), (0, 0, 0), (0, 1, 0)] [] [(33, [(2, 93, 0), (1, 0, 6), (0, 0, 0), (0, 1, 0)], [(0, 1, 0), (0, 0, 0)], [(0, (-2147483648), 2147483647), (1, (-2147483648), 2147483647)], [], [], [])] (by decide +kernel) (ρ0 := (fun s => [x0, x1].getD s 0)) hB eF trivial ⟨rfl, ⟨rfl, ⟨rfl, ⟨rfl, trivial⟩⟩⟩⟩ trivial ?_
  refine List.forall_mem_cons.mpr ⟨?_, fun _ h => absurd h List.not_mem_nil⟩
  · intro ρ τ Lc stc hx g1 g2 g3 g4 g5 g6 g7 g8
    have e0 : ρ 0 = x0 := hx 0 (by decide)
    have e1 : ρ 1 = x1 := hx 1 (by decide)
    subst e0
    subst e1
    have g7 := g7 (by decide)
    match Lc, stc, g7, g8 with
    | [v0, v1, v2, v3], [w0, w1], ⟨hv0, hv1, hv2, hv3, _⟩, ⟨hw0, hw1, _⟩ =>
      cases hv0
      cases hv1
      cases hv2
      cases hv3
      cases hw0
      cases hw1
      exact l0 τ ρ  g1 g2 g3 g4 g5 g6
set_option maxRecDepth 100000 in
theorem ql_t6t {σ : pm_S} {Q : Option Value → pm_S → Prop} (x0 x1 : Int)  (hB : an_GB pm_B σ) (eF : ((-2147483648) ≤ x0 ∧ x0 ≤ 2147483647) ∧ ((-2147483648) ≤ x1 ∧ x1 ≤ 2147483647) ∧ True)
    (l0 : ∀ (τ : pm_S) (y : Nat → Int), an_GB pm_B τ → FQ [] σ τ → (((-2147483648) ≤ x0 ∧ x0 ≤ 2147483647) ∧ ((-2147483648) ≤ x1 ∧ x1 ≤ 2147483647) ∧ True) → (True) → (True) → (True) → Q (some (.int (Int32.ofInt 1))) τ)
    : Ok 197 2 34 [.ref 93, .int (Int32.ofInt 6), .int (Int32.ofInt (x0)), .int (Int32.ofInt (x1))] [] σ Q := by
  refine an_seg (B := pm_B) (F := []) (T := []) (S := []) (fun _ h => absurd h List.not_mem_nil) (k := 197) (d := 1) (cs := []) 5 34 2 [(0, (-2147483648), 2147483647), (1, (-2147483648), 2147483647)] [] [(2, 93, 0), (1, 0, 6), (0, 0, 0), (0, 1, 0)] [] [(9999, [], [(1, 0, 1)], [(0, (-2147483648), 2147483647), (1, (-2147483648), 2147483647)], [], [], [])] (by decide +kernel) (ρ0 := (fun s => [x0, x1].getD s 0)) hB eF trivial ⟨rfl, ⟨rfl, ⟨rfl, ⟨rfl, trivial⟩⟩⟩⟩ trivial ?_
  refine List.forall_mem_cons.mpr ⟨?_, fun _ h => absurd h List.not_mem_nil⟩
  · intro ρ τ Lc stc hx g1 g2 g3 g4 g5 g6 g7 g8
    have e0 : ρ 0 = x0 := hx 0 (by decide)
    have e1 : ρ 1 = x1 := hx 1 (by decide)
    subst e0
    subst e1
    match stc, g8 with
    | [_], ⟨h, _⟩ => cases h; exact l0 τ ρ g1 g2 g3 g4 g5 g6
set_option maxRecDepth 100000 in
theorem ql_t6f {σ : pm_S} {Q : Option Value → pm_S → Prop} (x0 x1 : Int)  (hB : an_GB pm_B σ) (eF : ((-2147483648) ≤ x0 ∧ x0 ≤ 2147483647) ∧ ((-2147483648) ≤ x1 ∧ x1 ≤ 2147483647) ∧ True)
    (l0 : ∀ (τ : pm_S) (y : Nat → Int), an_GB pm_B τ → FQ [] σ τ → (((-2147483648) ≤ x0 ∧ x0 ≤ 2147483647) ∧ ((-2147483648) ≤ x1 ∧ x1 ≤ 2147483647) ∧ True) → (True) → (True) → (True) → Q (some (.int (Int32.ofInt 0))) τ)
    : Ok 197 2 36 [.ref 93, .int (Int32.ofInt 6), .int (Int32.ofInt (x0)), .int (Int32.ofInt (x1))] [] σ Q := by
  refine an_seg (B := pm_B) (F := []) (T := []) (S := []) (fun _ h => absurd h List.not_mem_nil) (k := 197) (d := 1) (cs := []) 4 36 2 [(0, (-2147483648), 2147483647), (1, (-2147483648), 2147483647)] [] [(2, 93, 0), (1, 0, 6), (0, 0, 0), (0, 1, 0)] [] [(9999, [], [(1, 0, 0)], [(0, (-2147483648), 2147483647), (1, (-2147483648), 2147483647)], [], [], [])] (by decide +kernel) (ρ0 := (fun s => [x0, x1].getD s 0)) hB eF trivial ⟨rfl, ⟨rfl, ⟨rfl, ⟨rfl, trivial⟩⟩⟩⟩ trivial ?_
  refine List.forall_mem_cons.mpr ⟨?_, fun _ h => absurd h List.not_mem_nil⟩
  · intro ρ τ Lc stc hx g1 g2 g3 g4 g5 g6 g7 g8
    have e0 : ρ 0 = x0 := hx 0 (by decide)
    have e1 : ρ 1 = x1 := hx 1 (by decide)
    subst e0
    subst e1
    match stc, g8 with
    | [_], ⟨h, _⟩ => cases h; exact l0 τ ρ g1 g2 g3 g4 g5 g6
set_option maxRecDepth 100000 in
theorem ql_t7 {σ : pm_S} {Q : Option Value → pm_S → Prop} (x0 x1 : Int)  (hB : an_GB pm_B σ) (eF : ((-2147483648) ≤ x0 ∧ x0 ≤ 2147483647) ∧ ((-2147483648) ≤ x1 ∧ x1 ≤ 2147483647) ∧ True)
    (l0 : ∀ (τ : pm_S) (y : Nat → Int), an_GB pm_B τ → FQ [] σ τ → (((-2147483648) ≤ x0 ∧ x0 ≤ 2147483647) ∧ ((-2147483648) ≤ x1 ∧ x1 ≤ 2147483647) ∧ True) → (True) → (True) → (True) → Ok 197 2 43 [.ref 93, .int (Int32.ofInt 7), .int (Int32.ofInt (x0)), .int (Int32.ofInt (x1))] [.int (Int32.ofInt (x1)), .int (Int32.ofInt (x0))] τ Q)
    : Ok 197 2 0 [.ref 93, .int (Int32.ofInt 7), .int (Int32.ofInt (x0)), .int (Int32.ofInt (x1))] [] σ Q := by
  refine an_seg (B := pm_B) (F := []) (T := []) (S := []) (fun _ h => absurd h List.not_mem_nil) (k := 197) (d := 1) (cs := [43]) 22 0 2 [(0, (-2147483648), 2147483647), (1, (-2147483648), 2147483647)] [] [(2, 93, 0), (1, 0, 7), (0, 0, 0), (0, 1, 0)] [] [(43, [(2, 93, 0), (1, 0, 7), (0, 0, 0), (0, 1, 0)], [(0, 1, 0), (0, 0, 0)], [(0, (-2147483648), 2147483647), (1, (-2147483648), 2147483647)], [], [], [])] (by decide +kernel) (ρ0 := (fun s => [x0, x1].getD s 0)) hB eF trivial ⟨rfl, ⟨rfl, ⟨rfl, ⟨rfl, trivial⟩⟩⟩⟩ trivial ?_
  refine List.forall_mem_cons.mpr ⟨?_, fun _ h => absurd h List.not_mem_nil⟩
  · intro ρ τ Lc stc hx g1 g2 g3 g4 g5 g6 g7 g8
    have e0 : ρ 0 = x0 := hx 0 (by decide)
    have e1 : ρ 1 = x1 := hx 1 (by decide)
    subst e0
    subst e1
    have g7 := g7 (by decide)
    match Lc, stc, g7, g8 with
    | [v0, v1, v2, v3], [w0, w1], ⟨hv0, hv1, hv2, hv3, _⟩, ⟨hw0, hw1, _⟩ =>
      cases hv0
      cases hv1
      cases hv2
      cases hv3
      cases hw0
      cases hw1
      exact l0 τ ρ  g1 g2 g3 g4 g5 g6
set_option maxRecDepth 100000 in
theorem ql_t7t {σ : pm_S} {Q : Option Value → pm_S → Prop} (x0 x1 : Int)  (hB : an_GB pm_B σ) (eF : ((-2147483648) ≤ x0 ∧ x0 ≤ 2147483647) ∧ ((-2147483648) ≤ x1 ∧ x1 ≤ 2147483647) ∧ True)
    (l0 : ∀ (τ : pm_S) (y : Nat → Int), an_GB pm_B τ → FQ [] σ τ → (((-2147483648) ≤ x0 ∧ x0 ≤ 2147483647) ∧ ((-2147483648) ≤ x1 ∧ x1 ≤ 2147483647) ∧ True) → (True) → (True) → (True) → Q (some (.int (Int32.ofInt 1))) τ)
    : Ok 197 2 44 [.ref 93, .int (Int32.ofInt 7), .int (Int32.ofInt (x0)), .int (Int32.ofInt (x1))] [] σ Q := by
  refine an_seg (B := pm_B) (F := []) (T := []) (S := []) (fun _ h => absurd h List.not_mem_nil) (k := 197) (d := 1) (cs := []) 5 44 2 [(0, (-2147483648), 2147483647), (1, (-2147483648), 2147483647)] [] [(2, 93, 0), (1, 0, 7), (0, 0, 0), (0, 1, 0)] [] [(9999, [], [(1, 0, 1)], [(0, (-2147483648), 2147483647), (1, (-2147483648), 2147483647)], [], [], [])] (by decide +kernel) (ρ0 := (fun s => [x0, x1].getD s 0)) hB eF trivial ⟨rfl, ⟨rfl, ⟨rfl, ⟨rfl, trivial⟩⟩⟩⟩ trivial ?_
  refine List.forall_mem_cons.mpr ⟨?_, fun _ h => absurd h List.not_mem_nil⟩
  · intro ρ τ Lc stc hx g1 g2 g3 g4 g5 g6 g7 g8
    have e0 : ρ 0 = x0 := hx 0 (by decide)
    have e1 : ρ 1 = x1 := hx 1 (by decide)
    subst e0
    subst e1
    match stc, g8 with
    | [_], ⟨h, _⟩ => cases h; exact l0 τ ρ g1 g2 g3 g4 g5 g6
set_option maxRecDepth 100000 in
theorem ql_t7f {σ : pm_S} {Q : Option Value → pm_S → Prop} (x0 x1 : Int)  (hB : an_GB pm_B σ) (eF : ((-2147483648) ≤ x0 ∧ x0 ≤ 2147483647) ∧ ((-2147483648) ≤ x1 ∧ x1 ≤ 2147483647) ∧ True)
    (l0 : ∀ (τ : pm_S) (y : Nat → Int), an_GB pm_B τ → FQ [] σ τ → (((-2147483648) ≤ x0 ∧ x0 ≤ 2147483647) ∧ ((-2147483648) ≤ x1 ∧ x1 ≤ 2147483647) ∧ True) → (True) → (True) → (True) → Q (some (.int (Int32.ofInt 0))) τ)
    : Ok 197 2 46 [.ref 93, .int (Int32.ofInt 7), .int (Int32.ofInt (x0)), .int (Int32.ofInt (x1))] [] σ Q := by
  refine an_seg (B := pm_B) (F := []) (T := []) (S := []) (fun _ h => absurd h List.not_mem_nil) (k := 197) (d := 1) (cs := []) 4 46 2 [(0, (-2147483648), 2147483647), (1, (-2147483648), 2147483647)] [] [(2, 93, 0), (1, 0, 7), (0, 0, 0), (0, 1, 0)] [] [(9999, [], [(1, 0, 0)], [(0, (-2147483648), 2147483647), (1, (-2147483648), 2147483647)], [], [], [])] (by decide +kernel) (ρ0 := (fun s => [x0, x1].getD s 0)) hB eF trivial ⟨rfl, ⟨rfl, ⟨rfl, ⟨rfl, trivial⟩⟩⟩⟩ trivial ?_
  refine List.forall_mem_cons.mpr ⟨?_, fun _ h => absurd h List.not_mem_nil⟩
  · intro ρ τ Lc stc hx g1 g2 g3 g4 g5 g6 g7 g8
    have e0 : ρ 0 = x0 := hx 0 (by decide)
    have e1 : ρ 1 = x1 := hx 1 (by decide)
    subst e0
    subst e1
    match stc, g8 with
    | [_], ⟨h, _⟩ => cases h; exact l0 τ ρ g1 g2 g3 g4 g5 g6
set_option maxRecDepth 100000 in
theorem ql_t8 {σ : pm_S} {Q : Option Value → pm_S → Prop} (x0 x1 : Int)  (hB : an_GB pm_B σ) (eF : ((-2147483648) ≤ x0 ∧ x0 ≤ 2147483647) ∧ ((-2147483648) ≤ x1 ∧ x1 ≤ 2147483647) ∧ True)
    (l0 : ∀ (τ : pm_S) (y : Nat → Int), an_GB pm_B τ → FQ [] σ τ → (((-2147483648) ≤ x0 ∧ x0 ≤ 2147483647) ∧ ((-2147483648) ≤ x1 ∧ x1 ≤ 2147483647) ∧ True) → (True) → (True) → (True) → Ok 197 2 53 [.ref 93, .int (Int32.ofInt 8), .int (Int32.ofInt (x0)), .int (Int32.ofInt (x1))] [.int (Int32.ofInt (x1)), .int (Int32.ofInt (x0))] τ Q)
    : Ok 197 2 0 [.ref 93, .int (Int32.ofInt 8), .int (Int32.ofInt (x0)), .int (Int32.ofInt (x1))] [] σ Q := by
  refine an_seg (B := pm_B) (F := []) (T := []) (S := []) (fun _ h => absurd h List.not_mem_nil) (k := 197) (d := 1) (cs := [53]) 25 0 2 [(0, (-2147483648), 2147483647), (1, (-2147483648), 2147483647)] [] [(2, 93, 0), (1, 0, 8), (0, 0, 0), (0, 1, 0)] [] [(53, [(2, 93, 0), (1, 0, 8), (0, 0, 0), (0, 1, 0)], [(0, 1, 0), (0, 0, 0)], [(0, (-2147483648), 2147483647), (1, (-2147483648), 2147483647)], [], [], [])] (by decide +kernel) (ρ0 := (fun s => [x0, x1].getD s 0)) hB eF trivial ⟨rfl, ⟨rfl, ⟨rfl, ⟨rfl, trivial⟩⟩⟩⟩ trivial ?_
  refine List.forall_mem_cons.mpr ⟨?_, fun _ h => absurd h List.not_mem_nil⟩
  · intro ρ τ Lc stc hx g1 g2 g3 g4 g5 g6 g7 g8
    have e0 : ρ 0 = x0 := hx 0 (by decide)
    have e1 : ρ 1 = x1 := hx 1 (by decide)
    subst e0
    subst e1
    have g7 := g7 (by decide)
    match Lc, stc, g7, g8 with
    | [v0, v1, v2, v3], [w0, w1], ⟨hv0, hv1, hv2, hv3, _⟩, ⟨hw0, hw1, _⟩ =>
      cases hv0
      cases hv1
      cases hv2
      cases hv3
      cases hw0
      cases hw1
      exact l0 τ ρ  g1 g2 g3 g4 g5 g6
set_option maxRecDepth 100000 in
theorem ql_t8t {σ : pm_S} {Q : Option Value → pm_S → Prop} (x0 x1 : Int)  (hB : an_GB pm_B σ) (eF : ((-2147483648) ≤ x0 ∧ x0 ≤ 2147483647) ∧ ((-2147483648) ≤ x1 ∧ x1 ≤ 2147483647) ∧ True)
    (l0 : ∀ (τ : pm_S) (y : Nat → Int), an_GB pm_B τ → FQ [] σ τ → (((-2147483648) ≤ x0 ∧ x0 ≤ 2147483647) ∧ ((-2147483648) ≤ x1 ∧ x1 ≤ 2147483647) ∧ True) → (True) → (True) → (True) → Q (some (.int (Int32.ofInt 1))) τ)
    : Ok 197 2 54 [.ref 93, .int (Int32.ofInt 8), .int (Int32.ofInt (x0)), .int (Int32.ofInt (x1))] [] σ Q := by
  refine an_seg (B := pm_B) (F := []) (T := []) (S := []) (fun _ h => absurd h List.not_mem_nil) (k := 197) (d := 1) (cs := []) 5 54 2 [(0, (-2147483648), 2147483647), (1, (-2147483648), 2147483647)] [] [(2, 93, 0), (1, 0, 8), (0, 0, 0), (0, 1, 0)] [] [(9999, [], [(1, 0, 1)], [(0, (-2147483648), 2147483647), (1, (-2147483648), 2147483647)], [], [], [])] (by decide +kernel) (ρ0 := (fun s => [x0, x1].getD s 0)) hB eF trivial ⟨rfl, ⟨rfl, ⟨rfl, ⟨rfl, trivial⟩⟩⟩⟩ trivial ?_
  refine List.forall_mem_cons.mpr ⟨?_, fun _ h => absurd h List.not_mem_nil⟩
  · intro ρ τ Lc stc hx g1 g2 g3 g4 g5 g6 g7 g8
    have e0 : ρ 0 = x0 := hx 0 (by decide)
    have e1 : ρ 1 = x1 := hx 1 (by decide)
    subst e0
    subst e1
    match stc, g8 with
    | [_], ⟨h, _⟩ => cases h; exact l0 τ ρ g1 g2 g3 g4 g5 g6
set_option maxRecDepth 100000 in
theorem ql_t8f {σ : pm_S} {Q : Option Value → pm_S → Prop} (x0 x1 : Int)  (hB : an_GB pm_B σ) (eF : ((-2147483648) ≤ x0 ∧ x0 ≤ 2147483647) ∧ ((-2147483648) ≤ x1 ∧ x1 ≤ 2147483647) ∧ True)
    (l0 : ∀ (τ : pm_S) (y : Nat → Int), an_GB pm_B τ → FQ [] σ τ → (((-2147483648) ≤ x0 ∧ x0 ≤ 2147483647) ∧ ((-2147483648) ≤ x1 ∧ x1 ≤ 2147483647) ∧ True) → (True) → (True) → (True) → Q (some (.int (Int32.ofInt 0))) τ)
    : Ok 197 2 56 [.ref 93, .int (Int32.ofInt 8), .int (Int32.ofInt (x0)), .int (Int32.ofInt (x1))] [] σ Q := by
  refine an_seg (B := pm_B) (F := []) (T := []) (S := []) (fun _ h => absurd h List.not_mem_nil) (k := 197) (d := 1) (cs := []) 4 56 2 [(0, (-2147483648), 2147483647), (1, (-2147483648), 2147483647)] [] [(2, 93, 0), (1, 0, 8), (0, 0, 0), (0, 1, 0)] [] [(9999, [], [(1, 0, 0)], [(0, (-2147483648), 2147483647), (1, (-2147483648), 2147483647)], [], [], [])] (by decide +kernel) (ρ0 := (fun s => [x0, x1].getD s 0)) hB eF trivial ⟨rfl, ⟨rfl, ⟨rfl, ⟨rfl, trivial⟩⟩⟩⟩ trivial ?_
  refine List.forall_mem_cons.mpr ⟨?_, fun _ h => absurd h List.not_mem_nil⟩
  · intro ρ τ Lc stc hx g1 g2 g3 g4 g5 g6 g7 g8
    have e0 : ρ 0 = x0 := hx 0 (by decide)
    have e1 : ρ 1 = x1 := hx 1 (by decide)
    subst e0
    subst e1
    match stc, g8 with
    | [_], ⟨h, _⟩ => cases h; exact l0 τ ρ g1 g2 g3 g4 g5 g6
set_option maxRecDepth 100000 in
theorem ql_i0 {σ : pm_S} {Q : Option Value → pm_S → Prop} (x0 x1 x2 : Int) (v3 : Value) (v4 : Value) (hv3 : v3.category = 1) (hv4 : v4.category = 1) (hB : an_GB pm_B σ) (eF : (0 ≤ x0 ∧ x0 ≤ 15) ∧ (0 ≤ x1 ∧ x1 ≤ 400) ∧ (0 ≤ x2 ∧ x2 ≤ 400) ∧ True) (eC : (σ.1 117 (x0).toNat).toInt = x1 ∧ (σ.1 118 (x0).toNat).toInt = x2 ∧ True)
    (l0 : ∀ (τ : pm_S) (y : Nat → Int) (v3 : Value) (v4 : Value), v3.category = 1 → v4.category = 1 → an_GB pm_B τ → FQ [] σ τ → ((0 ≤ x0 ∧ x0 ≤ 15) ∧ (0 ≤ x1 ∧ x1 ≤ 400) ∧ (0 ≤ x2 ∧ x2 ≤ 400) ∧ True) → (True) → (True) → ((τ.1 117 (x0).toNat).toInt = x1 ∧ (τ.1 118 (x0).toNat).toInt = x2 ∧ True) → Ok 198 5 8 [.ref 93, .int (Int32.ofInt 0), .int (Int32.ofInt (x0)), v3, v4] [.int (Int32.ofInt (x2)), .int (Int32.ofInt (x1))] τ Q)
    : Ok 198 5 0 [.ref 93, .int (Int32.ofInt 0), .int (Int32.ofInt (x0)), v3, v4] [] σ Q := by
  refine an_seg (B := pm_B) (F := []) (T := [117, 118, 119, 120]) (S := []) (fun _ h => absurd h List.not_mem_nil) (k := 198) (d := 4) (cs := [8]) 10 0 3 [(0, 0, 15), (1, 0, 400), (2, 0, 400)] [(117, (0, 0, 0), (0, 1, 0)), (118, (0, 0, 0), (0, 2, 0))] [(2, 93, 0), (1, 0, 0), (0, 0, 0), (5, 0, 0), (5, 0, 0)] [] [(8, [(2, 93, 0), (1, 0, 0), (0, 0, 0), (5, 0, 0), (5, 0, 0)], [(0, 2, 0), (0, 1, 0)], [(0, 0, 15), (1, 0, 400), (2, 0, 400)], [], [], [(117, (0, 0, 0), (0, 1, 0)), (118, (0, 0, 0), (0, 2, 0))])] (by decide +kernel) (ρ0 := (fun s => [x0, x1, x2].getD s 0)) hB eF eC ⟨rfl, ⟨rfl, ⟨rfl, ⟨hv3, ⟨hv4, trivial⟩⟩⟩⟩⟩ trivial ?_
  refine List.forall_mem_cons.mpr ⟨?_, fun _ h => absurd h List.not_mem_nil⟩
  · intro ρ τ Lc stc hx g1 g2 g3 g4 g5 g6 g7 g8
    have e0 : ρ 0 = x0 := hx 0 (by decide)
    have e1 : ρ 1 = x1 := hx 1 (by decide)
    have e2 : ρ 2 = x2 := hx 2 (by decide)
    subst e0
    subst e1
    subst e2
    have g7 := g7 (by decide)
    match Lc, stc, g7, g8 with
    | [v0, v1, v2, v3, v4], [w0, w1], ⟨hv0, hv1, hv2, hv3, hv4, _⟩, ⟨hw0, hw1, _⟩ =>
      cases hv0
      cases hv1
      cases hv2
      cases hw0
      cases hw1
      exact l0 τ ρ v3 v4 hv3 hv4 g1 g2 g3 g4 g5 g6
set_option maxRecDepth 100000 in
theorem ql_i9 {σ : pm_S} {Q : Option Value → pm_S → Prop} (x0 : Int) (v3 : Value) (v4 : Value) (hv3 : v3.category = 1) (hv4 : v4.category = 1) (hB : an_GB pm_B σ) (eF : (0 ≤ x0 ∧ x0 ≤ 15) ∧ True)
    (l0 : ∀ (τ : pm_S) (y : Nat → Int), an_GB pm_B τ → FQ [] σ τ → ((0 ≤ x0 ∧ x0 ≤ 15) ∧ True) → (True) → (True) → (True) → Q (some (.int (Int32.ofInt 1))) τ)
    : Ok 198 5 9 [.ref 93, .int (Int32.ofInt 0), .int (Int32.ofInt (x0)), v3, v4] [] σ Q := by
  refine an_seg (B := pm_B) (F := []) (T := [117, 118, 119, 120]) (S := []) (fun _ h => absurd h List.not_mem_nil) (k := 198) (d := 4) (cs := []) 4 9 1 [(0, 0, 15)] [] [(2, 93, 0), (1, 0, 0), (0, 0, 0), (5, 0, 0), (5, 0, 0)] [] [(9999, [], [(1, 0, 1)], [(0, 0, 15)], [], [], [])] (by decide +kernel) (ρ0 := (fun s => [x0].getD s 0)) hB eF trivial ⟨rfl, ⟨rfl, ⟨rfl, ⟨hv3, ⟨hv4, trivial⟩⟩⟩⟩⟩ trivial ?_
  refine List.forall_mem_cons.mpr ⟨?_, fun _ h => absurd h List.not_mem_nil⟩
  · intro ρ τ Lc stc hx g1 g2 g3 g4 g5 g6 g7 g8
    have e0 : ρ 0 = x0 := hx 0 (by decide)
    subst e0
    match stc, g8 with
    | [_], ⟨h, _⟩ => cases h; exact l0 τ ρ g1 g2 g3 g4 g5 g6
set_option maxRecDepth 100000 in
theorem ql_i11 {σ : pm_S} {Q : Option Value → pm_S → Prop} (x0 x1 x2 : Int) (v3 : Value) (v4 : Value) (hv3 : v3.category = 1) (hv4 : v4.category = 1) (hB : an_GB pm_B σ) (eF : (0 ≤ x0 ∧ x0 ≤ 15) ∧ (0 ≤ x1 ∧ x1 ≤ 400) ∧ (0 ≤ x2 ∧ x2 ≤ 400) ∧ True) (eC : (σ.1 117 (x0).toNat).toInt = x1 ∧ (σ.1 118 (x0).toNat).toInt = x2 ∧ True)
    (l0 : ∀ (τ : pm_S) (y : Nat → Int), an_GB pm_B τ → FQ [] σ τ → ((0 ≤ x0 ∧ x0 ≤ 15) ∧ (0 ≤ x1 ∧ x1 ≤ 400) ∧ (0 ≤ x2 ∧ x2 ≤ 400) ∧ True) → (True) → (True) → ((τ.1 117 (x0).toNat).toInt = x1 ∧ (τ.1 118 (x0).toNat).toInt = x2 ∧ True) → Ok 198 5 22 [.ref 93, .int (Int32.ofInt 0), .int (Int32.ofInt (x0)), .int (Int32.ofInt 0), .int (Int32.ofInt (x1))] [] τ Q)
    : Ok 198 5 11 [.ref 93, .int (Int32.ofInt 0), .int (Int32.ofInt (x0)), v3, v4] [] σ Q := by
  refine an_seg (B := pm_B) (F := []) (T := [117, 118, 119, 120]) (S := []) (fun _ h => absurd h List.not_mem_nil) (k := 198) (d := 4) (cs := [22]) 13 11 3 [(0, 0, 15), (1, 0, 400), (2, 0, 400)] [(117, (0, 0, 0), (0, 1, 0)), (118, (0, 0, 0), (0, 2, 0))] [(2, 93, 0), (1, 0, 0), (0, 0, 0), (5, 0, 0), (5, 0, 0)] [] [(22, [(2, 93, 0), (1, 0, 0), (0, 0, 0), (1, 0, 0), (0, 1, 0)], [], [(0, 0, 15), (1, 0, 400), (2, 0, 400)], [], [], [(117, (0, 0, 0), (0, 1, 0)), (118, (0, 0, 0), (0, 2, 0))])] (by decide +kernel) (ρ0 := (fun s => [x0, x1, x2].getD s 0)) hB eF eC ⟨rfl, ⟨rfl, ⟨rfl, ⟨hv3, ⟨hv4, trivial⟩⟩⟩⟩⟩ trivial ?_
  refine List.forall_mem_cons.mpr ⟨?_, fun _ h => absurd h List.not_mem_nil⟩
  · intro ρ τ Lc stc hx g1 g2 g3 g4 g5 g6 g7 g8
    have e0 : ρ 0 = x0 := hx 0 (by decide)
    have e1 : ρ 1 = x1 := hx 1 (by decide)
    have e2 : ρ 2 = x2 := hx 2 (by decide)
    subst e0
    subst e1
    subst e2
    have g7 := g7 (by decide)
    match Lc, stc, g7, g8 with
    | [v0, v1, v2, v3, v4], [], ⟨hv0, hv1, hv2, hv3, hv4, _⟩, _ =>
      cases hv0
      cases hv1
      cases hv2
      cases hv3
      cases hv4
      exact l0 τ ρ  g1 g2 g3 g4 g5 g6
set_option maxRecDepth 100000 in
theorem ql_i22 {σ : pm_S} {Q : Option Value → pm_S → Prop} (x0 x1 x2 x3 : Int)  (hB : an_GB pm_B σ) (eF : (0 ≤ x0 ∧ x0 ≤ 15) ∧ (0 ≤ x1 ∧ x1 ≤ 419) ∧ (0 ≤ x2 ∧ x2 ≤ 400) ∧ (0 ≤ x3 ∧ x3 ≤ 400) ∧ True) (eC : (σ.1 118 (x0).toNat).toInt = x3 ∧ True)
    (l0 : ∀ (τ : pm_S) (y : Nat → Int), an_GB pm_B τ → FQ [] σ τ → ((0 ≤ x0 ∧ x0 ≤ 15) ∧ (0 ≤ x1 ∧ x1 ≤ 419) ∧ (0 ≤ x2 ∧ x2 ≤ 400) ∧ (0 ≤ x3 ∧ x3 ≤ 400) ∧ True) → (True) → (True) → ((τ.1 118 (x0).toNat).toInt = x3 ∧ True) → Ok 198 5 31 [.ref 93, .int (Int32.ofInt 0), .int (Int32.ofInt (x0)), .int (Int32.ofInt (x1)), .int (Int32.ofInt (x2))] [.int (Int32.ofInt (x3)), .int (Int32.ofInt (x2))] τ Q)
    : Ok 198 5 22 [.ref 93, .int (Int32.ofInt 0), .int (Int32.ofInt (x0)), .int (Int32.ofInt (x1)), .int (Int32.ofInt (x2))] [] σ Q := by
  refine an_seg (B := pm_B) (F := []) (T := [117, 118, 119, 120]) (S := []) (fun _ h => absurd h List.not_mem_nil) (k := 198) (d := 4) (cs := [31]) 11 22 4 [(0, 0, 15), (1, 0, 419), (2, 0, 400), (3, 0, 400)] [(118, (0, 0, 0), (0, 3, 0))] [(2, 93, 0), (1, 0, 0), (0, 0, 0), (0, 1, 0), (0, 2, 0)] [] [(31, [(2, 93, 0), (1, 0, 0), (0, 0, 0), (0, 1, 0), (0, 2, 0)], [(0, 3, 0), (0, 2, 0)], [(0, 0, 15), (1, 0, 419), (2, 0, 400), (3, 0, 400)], [], [], [(118, (0, 0, 0), (0, 3, 0))])] (by decide +kernel) (ρ0 := (fun s => [x0, x1, x2, x3].getD s 0)) hB eF eC ⟨rfl, ⟨rfl, ⟨rfl, ⟨rfl, ⟨rfl, trivial⟩⟩⟩⟩⟩ trivial ?_
  refine List.forall_mem_cons.mpr ⟨?_, fun _ h => absurd h List.not_mem_nil⟩
  · intro ρ τ Lc stc hx g1 g2 g3 g4 g5 g6 g7 g8
    have e0 : ρ 0 = x0 := hx 0 (by decide)
    have e1 : ρ 1 = x1 := hx 1 (by decide)
    have e2 : ρ 2 = x2 := hx 2 (by decide)
    have e3 : ρ 3 = x3 := hx 3 (by decide)
    subst e0
    subst e1
    subst e2
    subst e3
    have g7 := g7 (by decide)
    match Lc, stc, g7, g8 with
    | [v0, v1, v2, v3, v4], [w0, w1], ⟨hv0, hv1, hv2, hv3, hv4, _⟩, ⟨hw0, hw1, _⟩ =>
      cases hv0
      cases hv1
      cases hv2
      cases hv3
      cases hv4
      cases hw0
      cases hw1
      exact l0 τ ρ  g1 g2 g3 g4 g5 g6
set_option maxRecDepth 100000 in
theorem ql_n32 {σ : pm_S} {Q : Option Value → pm_S → Prop} (x0 x1 x2 x3 : Int)  (hB : an_GB pm_B σ) (eF : (0 ≤ x0 ∧ x0 ≤ 15) ∧ (0 ≤ x1 ∧ x1 ≤ 419) ∧ (0 ≤ x2 ∧ x2 ≤ 399) ∧ ((-2147483648) ≤ x3 ∧ x3 ≤ 2147483647) ∧ True) (eC : (σ.1 119 (x2).toNat).toInt = 0 ∧ (σ.1 120 (x2).toNat).toInt = x3 ∧ True)
    (l0 : ∀ (τ : pm_S) (y : Nat → Int), an_GB pm_B τ → FQ [] σ τ → ((0 ≤ x0 ∧ x0 ≤ 15) ∧ (0 ≤ x1 ∧ x1 ≤ 419) ∧ (0 ≤ x2 ∧ x2 ≤ 399) ∧ ((-2147483648) ≤ x3 ∧ x3 ≤ 2147483647) ∧ True) → (True) → (True) → ((τ.1 119 (x2).toNat).toInt = 0 ∧ (τ.1 120 (x2).toNat).toInt = x3 ∧ True) → Ok 198 5 63 [.ref 93, .int (Int32.ofInt 0), .int (Int32.ofInt (x0)), .int (Int32.ofInt (x1)), .int (Int32.ofInt (x2))] [.int (Int32.ofInt (x3)), .int (Int32.ofInt (x1)), .ref 123] τ Q)
    : Ok 198 5 32 [.ref 93, .int (Int32.ofInt 0), .int (Int32.ofInt (x0)), .int (Int32.ofInt (x1)), .int (Int32.ofInt (x2))] [] σ Q := by
  refine an_seg (B := pm_B) (F := []) (T := [117, 118, 119, 120]) (S := []) (fun _ h => absurd h List.not_mem_nil) (k := 198) (d := 4) (cs := [63]) 20 32 4 [(0, 0, 15), (1, 0, 419), (2, 0, 399), (3, (-2147483648), 2147483647)] [(119, (0, 2, 0), (1, 0, 0)), (120, (0, 2, 0), (0, 3, 0))] [(2, 93, 0), (1, 0, 0), (0, 0, 0), (0, 1, 0), (0, 2, 0)] [] [(63, [(2, 93, 0), (1, 0, 0), (0, 0, 0), (0, 1, 0), (0, 2, 0)], [(0, 3, 0), (0, 1, 0), (2, 123, 0)], [(0, 0, 15), (1, 0, 419), (2, 0, 399), (3, (-2147483648), 2147483647)], [], [], [(119, (0, 2, 0), (1, 0, 0)), (120, (0, 2, 0), (0, 3, 0))])] (by decide +kernel) (ρ0 := (fun s => [x0, x1, x2, x3].getD s 0)) hB eF eC ⟨rfl, ⟨rfl, ⟨rfl, ⟨rfl, ⟨rfl, trivial⟩⟩⟩⟩⟩ trivial ?_
  refine List.forall_mem_cons.mpr ⟨?_, fun _ h => absurd h List.not_mem_nil⟩
  · intro ρ τ Lc stc hx g1 g2 g3 g4 g5 g6 g7 g8
    have e0 : ρ 0 = x0 := hx 0 (by decide)
    have e1 : ρ 1 = x1 := hx 1 (by decide)
    have e2 : ρ 2 = x2 := hx 2 (by decide)
    have e3 : ρ 3 = x3 := hx 3 (by decide)
    subst e0
    subst e1
    subst e2
    subst e3
    have g7 := g7 (by decide)
    match Lc, stc, g7, g8 with
    | [v0, v1, v2, v3, v4], [w0, w1, w2], ⟨hv0, hv1, hv2, hv3, hv4, _⟩, ⟨hw0, hw1, hw2, _⟩ =>
      cases hv0
      cases hv1
      cases hv2
      cases hv3
      cases hv4
      cases hw0
      cases hw1
      cases hw2
      exact l0 τ ρ  g1 g2 g3 g4 g5 g6
set_option maxRecDepth 100000 in
theorem ql_a32 {σ : pm_S} {Q : Option Value → pm_S → Prop} (x0 x1 x2 x3 : Int)  (hB : an_GB pm_B σ) (eF : (0 ≤ x0 ∧ x0 ≤ 15) ∧ (0 ≤ x1 ∧ x1 ≤ 419) ∧ (0 ≤ x2 ∧ x2 ≤ 399) ∧ (0 ≤ x3 ∧ x3 ≤ 8) ∧ True) (eC : (σ.1 119 (x2).toNat).toInt = 1 ∧ (σ.1 120 (x2).toNat).toInt = x3 ∧ True)
    (l0 : ∀ (τ : pm_S) (y : Nat → Int), an_GB pm_B τ → FQ [] σ τ → ((0 ≤ x0 ∧ x0 ≤ 15) ∧ (0 ≤ x1 ∧ x1 ≤ 419) ∧ (0 ≤ x2 ∧ x2 ≤ 399) ∧ (0 ≤ x3 ∧ x3 ≤ 8) ∧ True) → (True) → (True) → ((τ.1 119 (x2).toNat).toInt = 1 ∧ (τ.1 120 (x2).toNat).toInt = x3 ∧ True) → Ok 198 5 62 [.ref 93, .int (Int32.ofInt 0), .int (Int32.ofInt (x0)), .int (Int32.ofInt (x1)), .int (Int32.ofInt (x2))] [.int (Int32.ofInt (x3)), .ref 122, .int (Int32.ofInt (x1)), .ref 123] τ Q)
    : Ok 198 5 32 [.ref 93, .int (Int32.ofInt 0), .int (Int32.ofInt (x0)), .int (Int32.ofInt (x1)), .int (Int32.ofInt (x2))] [] σ Q := by
  refine an_seg (B := pm_B) (F := []) (T := [117, 118, 119, 120]) (S := []) (fun _ h => absurd h List.not_mem_nil) (k := 198) (d := 4) (cs := [62]) 27 32 4 [(0, 0, 15), (1, 0, 419), (2, 0, 399), (3, 0, 8)] [(119, (0, 2, 0), (1, 0, 1)), (120, (0, 2, 0), (0, 3, 0))] [(2, 93, 0), (1, 0, 0), (0, 0, 0), (0, 1, 0), (0, 2, 0)] [] [(62, [(2, 93, 0), (1, 0, 0), (0, 0, 0), (0, 1, 0), (0, 2, 0)], [(0, 3, 0), (2, 122, 0), (0, 1, 0), (2, 123, 0)], [(0, 0, 15), (1, 0, 419), (2, 0, 399), (3, 0, 8)], [], [], [(119, (0, 2, 0), (1, 0, 1)), (120, (0, 2, 0), (0, 3, 0))])] (by decide +kernel) (ρ0 := (fun s => [x0, x1, x2, x3].getD s 0)) hB eF eC ⟨rfl, ⟨rfl, ⟨rfl, ⟨rfl, ⟨rfl, trivial⟩⟩⟩⟩⟩ trivial ?_
  refine List.forall_mem_cons.mpr ⟨?_, fun _ h => absurd h List.not_mem_nil⟩
  · intro ρ τ Lc stc hx g1 g2 g3 g4 g5 g6 g7 g8
    have e0 : ρ 0 = x0 := hx 0 (by decide)
    have e1 : ρ 1 = x1 := hx 1 (by decide)
    have e2 : ρ 2 = x2 := hx 2 (by decide)
    have e3 : ρ 3 = x3 := hx 3 (by decide)
    subst e0
    subst e1
    subst e2
    subst e3
    have g7 := g7 (by decide)
    match Lc, stc, g7, g8 with
    | [v0, v1, v2, v3, v4], [w0, w1, w2, w3], ⟨hv0, hv1, hv2, hv3, hv4, _⟩, ⟨hw0, hw1, hw2, hw3, _⟩ =>
      cases hv0
      cases hv1
      cases hv2
      cases hv3
      cases hv4
      cases hw0
      cases hw1
      cases hw2
      cases hw3
      exact l0 τ ρ  g1 g2 g3 g4 g5 g6
set_option maxRecDepth 100000 in
theorem ql_64 {σ : pm_S} {Q : Option Value → pm_S → Prop} (x0 x1 x2 : Int)  (hB : an_GB pm_B σ) (eF : (0 ≤ x0 ∧ x0 ≤ 15) ∧ (0 ≤ x1 ∧ x1 ≤ 419) ∧ (0 ≤ x2 ∧ x2 ≤ 399) ∧ True)
    (l0 : ∀ (τ : pm_S) (y : Nat → Int), an_GB pm_B τ → FQ [] σ τ → ((0 ≤ x0 ∧ x0 ≤ 15) ∧ (0 ≤ x1 ∧ x1 ≤ 419) ∧ (0 ≤ x2 ∧ x2 ≤ 399) ∧ True) → (True) → (True) → (True) → Ok 198 5 22 [.ref 93, .int (Int32.ofInt 0), .int (Int32.ofInt (x0)), .int (Int32.ofInt (x1 + 1)), .int (Int32.ofInt (x2 + 1))] [] τ Q)
    : Ok 198 5 64 [.ref 93, .int (Int32.ofInt 0), .int (Int32.ofInt (x0)), .int (Int32.ofInt (x1)), .int (Int32.ofInt (x2))] [] σ Q := by
  refine an_seg (B := pm_B) (F := []) (T := [117, 118, 119, 120]) (S := []) (fun _ h => absurd h List.not_mem_nil) (k := 198) (d := 4) (cs := [22]) 9 64 3 [(0, 0, 15), (1, 0, 419), (2, 0, 399)] [] [(2, 93, 0), (1, 0, 0), (0, 0, 0), (0, 1, 0), (0, 2, 0)] [] [(22, [(2, 93, 0), (1, 0, 0), (0, 0, 0), (0, 1, 1), (0, 2, 1)], [], [(0, 0, 15), (1, 0, 419), (2, 0, 399)], [], [], [])] (by decide +kernel) (ρ0 := (fun s => [x0, x1, x2].getD s 0)) hB eF trivial ⟨rfl, ⟨rfl, ⟨rfl, ⟨rfl, ⟨rfl, trivial⟩⟩⟩⟩⟩ trivial ?_
  refine List.forall_mem_cons.mpr ⟨?_, fun _ h => absurd h List.not_mem_nil⟩
  · intro ρ τ Lc stc hx g1 g2 g3 g4 g5 g6 g7 g8
    have e0 : ρ 0 = x0 := hx 0 (by decide)
    have e1 : ρ 1 = x1 := hx 1 (by decide)
    have e2 : ρ 2 = x2 := hx 2 (by decide)
    subst e0
    subst e1
    subst e2
    have g7 := g7 (by decide)
    match Lc, stc, g7, g8 with
    | [v0, v1, v2, v3, v4], [], ⟨hv0, hv1, hv2, hv3, hv4, _⟩, _ =>
      cases hv0
      cases hv1
      cases hv2
      cases hv3
      cases hv4
      exact l0 τ ρ  g1 g2 g3 g4 g5 g6
set_option maxRecDepth 100000 in
theorem ql_o32 {σ : pm_S} {Q : Option Value → pm_S → Prop} (x0 x1 x2 : Int)  (hB : an_GB pm_B σ) (eF : (0 ≤ x0 ∧ x0 ≤ 15) ∧ (1 ≤ x1 ∧ x1 ≤ 419) ∧ (0 ≤ x2 ∧ x2 ≤ 399) ∧ True) (eC : (σ.1 119 (x2).toNat).toInt = 9 ∧ True)
    (l0 : ∀ (τ : pm_S) (y : Nat → Int), an_GB pm_B τ → FQ [] σ τ → ((0 ≤ x0 ∧ x0 ≤ 15) ∧ (1 ≤ x1 ∧ x1 ≤ 419) ∧ (0 ≤ x2 ∧ x2 ≤ 399) ∧ True) → (True) → (True) → ((τ.1 119 (x2).toNat).toInt = 9 ∧ True) → Ok 198 5 86 [.ref 93, .int (Int32.ofInt 0), .int (Int32.ofInt (x0)), .int (Int32.ofInt (x1)), .int (Int32.ofInt (x2))] [.int (Int32.ofInt (x1 + (-1))), .ref 123, .int (Int32.ofInt 1), .int (Int32.ofInt (x1 + (-1))), .ref 123] τ Q)
    : Ok 198 5 32 [.ref 93, .int (Int32.ofInt 0), .int (Int32.ofInt (x0)), .int (Int32.ofInt (x1)), .int (Int32.ofInt (x2))] [] σ Q := by
  refine an_seg (B := pm_B) (F := []) (T := [117, 118, 119, 120]) (S := []) (fun _ h => absurd h List.not_mem_nil) (k := 198) (d := 4) (cs := [86]) 30 32 3 [(0, 0, 15), (1, 1, 419), (2, 0, 399)] [(119, (0, 2, 0), (1, 0, 9))] [(2, 93, 0), (1, 0, 0), (0, 0, 0), (0, 1, 0), (0, 2, 0)] [] [(86, [(2, 93, 0), (1, 0, 0), (0, 0, 0), (0, 1, 0), (0, 2, 0)], [(0, 1, (-1)), (2, 123, 0), (1, 0, 1), (0, 1, (-1)), (2, 123, 0)], [(0, 0, 15), (1, 1, 419), (2, 0, 399)], [], [], [(119, (0, 2, 0), (1, 0, 9))])] (by decide +kernel) (ρ0 := (fun s => [x0, x1, x2].getD s 0)) hB eF eC ⟨rfl, ⟨rfl, ⟨rfl, ⟨rfl, ⟨rfl, trivial⟩⟩⟩⟩⟩ trivial ?_
  refine List.forall_mem_cons.mpr ⟨?_, fun _ h => absurd h List.not_mem_nil⟩
  · intro ρ τ Lc stc hx g1 g2 g3 g4 g5 g6 g7 g8
    have e0 : ρ 0 = x0 := hx 0 (by decide)
    have e1 : ρ 1 = x1 := hx 1 (by decide)
    have e2 : ρ 2 = x2 := hx 2 (by decide)
    subst e0
    subst e1
    subst e2
    have g7 := g7 (by decide)
    match Lc, stc, g7, g8 with
    | [v0, v1, v2, v3, v4], [w0, w1, w2, w3, w4], ⟨hv0, hv1, hv2, hv3, hv4, _⟩, ⟨hw0, hw1, hw2, hw3, hw4, _⟩ =>
      cases hv0
      cases hv1
      cases hv2
      cases hv3
      cases hv4
      cases hw0
      cases hw1
      cases hw2
      cases hw3
      cases hw4
      exact l0 τ ρ  g1 g2 g3 g4 g5 g6
set_option maxRecDepth 100000 in
theorem ql_87 {σ : pm_S} {Q : Option Value → pm_S → Prop} (x0 x1 x2 x3 x4 : Int)  (hB : an_GB pm_B σ) (eF : (0 ≤ x0 ∧ x0 ≤ 15) ∧ (1 ≤ x1 ∧ x1 ≤ 419) ∧ (0 ≤ x2 ∧ x2 ≤ 399) ∧ ((-2147483648) ≤ x3 ∧ x3 ≤ 2147483647) ∧ (0 ≤ x4 ∧ x4 ≤ 418) ∧ True)
    (l0 : ∀ (τ : pm_S) (y : Nat → Int), an_GB pm_B τ → FQ [] σ τ → ((0 ≤ x0 ∧ x0 ≤ 15) ∧ (1 ≤ x1 ∧ x1 ≤ 419) ∧ (0 ≤ x2 ∧ x2 ≤ 399) ∧ ((-2147483648) ≤ x3 ∧ x3 ≤ 2147483647) ∧ (0 ≤ x4 ∧ x4 ≤ 418) ∧ ((-2147483648) ≤ y 5 ∧ y 5 ≤ 2147483647) ∧ True) → (True) → ((an_f 1 (Int32.ofInt (1)) (Int32.ofInt (x3))).toInt = y 5 ∧ True) → (True) → Ok 198 5 88 [.ref 93, .int (Int32.ofInt 0), .int (Int32.ofInt (x0)), .int (Int32.ofInt (x1)), .int (Int32.ofInt (x2))] [.int (Int32.ofInt (y 5)), .int (Int32.ofInt (x4)), .ref 123] τ Q)
    : Ok 198 5 87 [.ref 93, .int (Int32.ofInt 0), .int (Int32.ofInt (x0)), .int (Int32.ofInt (x1)), .int (Int32.ofInt (x2))] [.int (Int32.ofInt (x3)), .int (Int32.ofInt 1), .int (Int32.ofInt (x4)), .ref 123] σ Q := by
  refine an_seg (B := pm_B) (F := []) (T := [117, 118, 119, 120]) (S := []) (fun _ h => absurd h List.not_mem_nil) (k := 198) (d := 4) (cs := [88]) 3 87 5 [(0, 0, 15), (1, 1, 419), (2, 0, 399), (3, (-2147483648), 2147483647), (4, 0, 418)] [] [(2, 93, 0), (1, 0, 0), (0, 0, 0), (0, 1, 0), (0, 2, 0)] [(0, 3, 0), (1, 0, 1), (0, 4, 0), (2, 123, 0)] [(88, [(2, 93, 0), (1, 0, 0), (0, 0, 0), (0, 1, 0), (0, 2, 0)], [(0, 5, 0), (0, 4, 0), (2, 123, 0)], [(0, 0, 15), (1, 1, 419), (2, 0, 399), (3, (-2147483648), 2147483647), (4, 0, 418), (5, (-2147483648), 2147483647)], [], [(1, (1, 0, 1), (0, 3, 0), 5)], [])] (by decide +kernel) (ρ0 := (fun s => [x0, x1, x2, x3, x4].getD s 0)) hB eF trivial ⟨rfl, ⟨rfl, ⟨rfl, ⟨rfl, ⟨rfl, trivial⟩⟩⟩⟩⟩ ⟨rfl, ⟨rfl, ⟨rfl, ⟨rfl, trivial⟩⟩⟩⟩ ?_
  refine List.forall_mem_cons.mpr ⟨?_, fun _ h => absurd h List.not_mem_nil⟩
  · intro ρ τ Lc stc hx g1 g2 g3 g4 g5 g6 g7 g8
    have e0 : ρ 0 = x0 := hx 0 (by decide)
    have e1 : ρ 1 = x1 := hx 1 (by decide)
    have e2 : ρ 2 = x2 := hx 2 (by decide)
    have e3 : ρ 3 = x3 := hx 3 (by decide)
    have e4 : ρ 4 = x4 := hx 4 (by decide)
    subst e0
    subst e1
    subst e2
    subst e3
    subst e4
    have g7 := g7 (by decide)
    match Lc, stc, g7, g8 with
    | [v0, v1, v2, v3, v4], [w0, w1, w2], ⟨hv0, hv1, hv2, hv3, hv4, _⟩, ⟨hw0, hw1, hw2, _⟩ =>
      cases hv0
      cases hv1
      cases hv2
      cases hv3
      cases hv4
      cases hw0
      cases hw1
      cases hw2
      exact l0 τ ρ  g1 g2 g3 g4 g5 g6
set_option maxRecDepth 100000 in
theorem ql_89 {σ : pm_S} {Q : Option Value → pm_S → Prop} (x0 x1 x2 : Int)  (hB : an_GB pm_B σ) (eF : (0 ≤ x0 ∧ x0 ≤ 15) ∧ (0 ≤ x1 ∧ x1 ≤ 419) ∧ (0 ≤ x2 ∧ x2 ≤ 399) ∧ True)
    (l0 : ∀ (τ : pm_S) (y : Nat → Int), an_GB pm_B τ → FQ [] σ τ → ((0 ≤ x0 ∧ x0 ≤ 15) ∧ (0 ≤ x1 ∧ x1 ≤ 419) ∧ (0 ≤ x2 ∧ x2 ≤ 399) ∧ True) → (True) → (True) → (True) → Ok 198 5 22 [.ref 93, .int (Int32.ofInt 0), .int (Int32.ofInt (x0)), .int (Int32.ofInt (x1)), .int (Int32.ofInt (x2 + 1))] [] τ Q)
    : Ok 198 5 89 [.ref 93, .int (Int32.ofInt 0), .int (Int32.ofInt (x0)), .int (Int32.ofInt (x1)), .int (Int32.ofInt (x2))] [] σ Q := by
  refine an_seg (B := pm_B) (F := []) (T := [117, 118, 119, 120]) (S := []) (fun _ h => absurd h List.not_mem_nil) (k := 198) (d := 4) (cs := [22]) 5 89 3 [(0, 0, 15), (1, 0, 419), (2, 0, 399)] [] [(2, 93, 0), (1, 0, 0), (0, 0, 0), (0, 1, 0), (0, 2, 0)] [] [(22, [(2, 93, 0), (1, 0, 0), (0, 0, 0), (0, 1, 0), (0, 2, 1)], [], [(0, 0, 15), (1, 0, 419), (2, 0, 399)], [], [], [])] (by decide +kernel) (ρ0 := (fun s => [x0, x1, x2].getD s 0)) hB eF trivial ⟨rfl, ⟨rfl, ⟨rfl, ⟨rfl, ⟨rfl, trivial⟩⟩⟩⟩⟩ trivial ?_
  refine List.forall_mem_cons.mpr ⟨?_, fun _ h => absurd h List.not_mem_nil⟩
  · intro ρ τ Lc stc hx g1 g2 g3 g4 g5 g6 g7 g8
    have e0 : ρ 0 = x0 := hx 0 (by decide)
    have e1 : ρ 1 = x1 := hx 1 (by decide)
    have e2 : ρ 2 = x2 := hx 2 (by decide)
    subst e0
    subst e1
    subst e2
    have g7 := g7 (by decide)
    match Lc, stc, g7, g8 with
    | [v0, v1, v2, v3, v4], [], ⟨hv0, hv1, hv2, hv3, hv4, _⟩, _ =>
      cases hv0
      cases hv1
      cases hv2
      cases hv3
      cases hv4
      exact l0 τ ρ  g1 g2 g3 g4 g5 g6
set_option maxRecDepth 100000 in
theorem ql_b2 {σ : pm_S} {Q : Option Value → pm_S → Prop} (x0 x1 x2 : Int)  (hB : an_GB pm_B σ) (eF : (0 ≤ x0 ∧ x0 ≤ 15) ∧ (2 ≤ x1 ∧ x1 ≤ 419) ∧ (0 ≤ x2 ∧ x2 ≤ 399) ∧ True) (eC : (σ.1 119 (x2).toNat).toInt = 2 ∧ True)
    (l0 : ∀ (τ : pm_S) (y : Nat → Int), an_GB pm_B τ → FQ [] σ τ → ((0 ≤ x0 ∧ x0 ≤ 15) ∧ (2 ≤ x1 ∧ x1 ≤ 419) ∧ (0 ≤ x2 ∧ x2 ≤ 399) ∧ True) → (True) → (True) → ((τ.1 119 (x2).toNat).toInt = 2 ∧ True) → Ok 198 5 109 [.ref 93, .int (Int32.ofInt 0), .int (Int32.ofInt (x0)), .int (Int32.ofInt (x1 + (-1))), .int (Int32.ofInt (x2))] [.int (Int32.ofInt (x1 + (-2))), .ref 123, .int (Int32.ofInt 2), .ref 93, .int (Int32.ofInt (x1 + (-2))), .ref 123] τ Q)
    : Ok 198 5 32 [.ref 93, .int (Int32.ofInt 0), .int (Int32.ofInt (x0)), .int (Int32.ofInt (x1)), .int (Int32.ofInt (x2))] [] σ Q := by
  refine an_seg (B := pm_B) (F := []) (T := [117, 118, 119, 120]) (S := []) (fun _ h => absurd h List.not_mem_nil) (k := 198) (d := 4) (cs := [109]) 38 32 3 [(0, 0, 15), (1, 2, 419), (2, 0, 399)] [(119, (0, 2, 0), (1, 0, 2))] [(2, 93, 0), (1, 0, 0), (0, 0, 0), (0, 1, 0), (0, 2, 0)] [] [(109, [(2, 93, 0), (1, 0, 0), (0, 0, 0), (0, 1, (-1)), (0, 2, 0)], [(0, 1, (-2)), (2, 123, 0), (1, 0, 2), (2, 93, 0), (0, 1, (-2)), (2, 123, 0)], [(0, 0, 15), (1, 2, 419), (2, 0, 399)], [], [], [(119, (0, 2, 0), (1, 0, 2))])] (by decide +kernel) (ρ0 := (fun s => [x0, x1, x2].getD s 0)) hB eF eC ⟨rfl, ⟨rfl, ⟨rfl, ⟨rfl, ⟨rfl, trivial⟩⟩⟩⟩⟩ trivial ?_
  refine List.forall_mem_cons.mpr ⟨?_, fun _ h => absurd h List.not_mem_nil⟩
  · intro ρ τ Lc stc hx g1 g2 g3 g4 g5 g6 g7 g8
    have e0 : ρ 0 = x0 := hx 0 (by decide)
    have e1 : ρ 1 = x1 := hx 1 (by decide)
    have e2 : ρ 2 = x2 := hx 2 (by decide)
    subst e0
    subst e1
    subst e2
    have g7 := g7 (by decide)
    match Lc, stc, g7, g8 with
    | [v0, v1, v2, v3, v4], [w0, w1, w2, w3, w4, w5], ⟨hv0, hv1, hv2, hv3, hv4, _⟩, ⟨hw0, hw1, hw2, hw3, hw4, hw5, _⟩ =>
      cases hv0
      cases hv1
      cases hv2
      cases hv3
      cases hv4
      cases hw0
      cases hw1
      cases hw2
      cases hw3
      cases hw4
      cases hw5
      exact l0 τ ρ  g1 g2 g3 g4 g5 g6
set_option maxRecDepth 100000 in
theorem ql_c2 {σ : pm_S} {Q : Option Value → pm_S → Prop} (x0 x1 x2 x3 x4 : Int)  (hB : an_GB pm_B σ) (eF : (0 ≤ x0 ∧ x0 ≤ 15) ∧ (1 ≤ x1 ∧ x1 ≤ 418) ∧ (0 ≤ x2 ∧ x2 ≤ 399) ∧ ((-2147483648) ≤ x3 ∧ x3 ≤ 2147483647) ∧ (0 ≤ x4 ∧ x4 ≤ 418) ∧ True)
    (l0 : ∀ (τ : pm_S) (y : Nat → Int), an_GB pm_B τ → FQ [] σ τ → ((0 ≤ x0 ∧ x0 ≤ 15) ∧ (1 ≤ x1 ∧ x1 ≤ 418) ∧ (0 ≤ x2 ∧ x2 ≤ 399) ∧ ((-2147483648) ≤ x3 ∧ x3 ≤ 2147483647) ∧ (0 ≤ x4 ∧ x4 ≤ 418) ∧ True) → (True) → (True) → (True) → Ok 198 5 113 [.ref 93, .int (Int32.ofInt 0), .int (Int32.ofInt (x0)), .int (Int32.ofInt (x1)), .int (Int32.ofInt (x2))] [.int (Int32.ofInt (x1)), .ref 123, .int (Int32.ofInt (x3)), .int (Int32.ofInt 2), .ref 93, .int (Int32.ofInt (x4)), .ref 123] τ Q)
    : Ok 198 5 110 [.ref 93, .int (Int32.ofInt 0), .int (Int32.ofInt (x0)), .int (Int32.ofInt (x1)), .int (Int32.ofInt (x2))] [.int (Int32.ofInt (x3)), .int (Int32.ofInt 2), .ref 93, .int (Int32.ofInt (x4)), .ref 123] σ Q := by
  refine an_seg (B := pm_B) (F := []) (T := [117, 118, 119, 120]) (S := []) (fun _ h => absurd h List.not_mem_nil) (k := 198) (d := 4) (cs := [113]) 5 110 5 [(0, 0, 15), (1, 1, 418), (2, 0, 399), (3, (-2147483648), 2147483647), (4, 0, 418)] [] [(2, 93, 0), (1, 0, 0), (0, 0, 0), (0, 1, 0), (0, 2, 0)] [(0, 3, 0), (1, 0, 2), (2, 93, 0), (0, 4, 0), (2, 123, 0)] [(113, [(2, 93, 0), (1, 0, 0), (0, 0, 0), (0, 1, 0), (0, 2, 0)], [(0, 1, 0), (2, 123, 0), (0, 3, 0), (1, 0, 2), (2, 93, 0), (0, 4, 0), (2, 123, 0)], [(0, 0, 15), (1, 1, 418), (2, 0, 399), (3, (-2147483648), 2147483647), (4, 0, 418)], [], [], [])] (by decide +kernel) (ρ0 := (fun s => [x0, x1, x2, x3, x4].getD s 0)) hB eF trivial ⟨rfl, ⟨rfl, ⟨rfl, ⟨rfl, ⟨rfl, trivial⟩⟩⟩⟩⟩ ⟨rfl, ⟨rfl, ⟨rfl, ⟨rfl, ⟨rfl, trivial⟩⟩⟩⟩⟩ ?_
  refine List.forall_mem_cons.mpr ⟨?_, fun _ h => absurd h List.not_mem_nil⟩
  · intro ρ τ Lc stc hx g1 g2 g3 g4 g5 g6 g7 g8
    have e0 : ρ 0 = x0 := hx 0 (by decide)
    have e1 : ρ 1 = x1 := hx 1 (by decide)
    have e2 : ρ 2 = x2 := hx 2 (by decide)
    have e3 : ρ 3 = x3 := hx 3 (by decide)
    have e4 : ρ 4 = x4 := hx 4 (by decide)
    subst e0
    subst e1
    subst e2
    subst e3
    subst e4
    have g7 := g7 (by decide)
    match Lc, stc, g7, g8 with
    | [v0, v1, v2, v3, v4], [w0, w1, w2, w3, w4, w5, w6], ⟨hv0, hv1, hv2, hv3, hv4, _⟩, ⟨hw0, hw1, hw2, hw3, hw4, hw5, hw6, _⟩ =>
      cases hv0
      cases hv1
      cases hv2
      cases hv3
      cases hv4
      cases hw0
      cases hw1
      cases hw2
      cases hw3
      cases hw4
      cases hw5
      cases hw6
      exact l0 τ ρ  g1 g2 g3 g4 g5 g6
set_option maxRecDepth 100000 in
theorem ql_b3 {σ : pm_S} {Q : Option Value → pm_S → Prop} (x0 x1 x2 : Int)  (hB : an_GB pm_B σ) (eF : (0 ≤ x0 ∧ x0 ≤ 15) ∧ (2 ≤ x1 ∧ x1 ≤ 419) ∧ (0 ≤ x2 ∧ x2 ≤ 399) ∧ True) (eC : (σ.1 119 (x2).toNat).toInt = 3 ∧ True)
    (l0 : ∀ (τ : pm_S) (y : Nat → Int), an_GB pm_B τ → FQ [] σ τ → ((0 ≤ x0 ∧ x0 ≤ 15) ∧ (2 ≤ x1 ∧ x1 ≤ 419) ∧ (0 ≤ x2 ∧ x2 ≤ 399) ∧ True) → (True) → (True) → ((τ.1 119 (x2).toNat).toInt = 3 ∧ True) → Ok 198 5 109 [.ref 93, .int (Int32.ofInt 0), .int (Int32.ofInt (x0)), .int (Int32.ofInt (x1 + (-1))), .int (Int32.ofInt (x2))] [.int (Int32.ofInt (x1 + (-2))), .ref 123, .int (Int32.ofInt 3), .ref 93, .int (Int32.ofInt (x1 + (-2))), .ref 123] τ Q)
    : Ok 198 5 32 [.ref 93, .int (Int32.ofInt 0), .int (Int32.ofInt (x0)), .int (Int32.ofInt (x1)), .int (Int32.ofInt (x2))] [] σ Q := by
  refine an_seg (B := pm_B) (F := []) (T := [117, 118, 119, 120]) (S := []) (fun _ h => absurd h List.not_mem_nil) (k := 198) (d := 4) (cs := [109]) 38 32 3 [(0, 0, 15), (1, 2, 419), (2, 0, 399)] [(119, (0, 2, 0), (1, 0, 3))] [(2, 93, 0), (1, 0, 0), (0, 0, 0), (0, 1, 0), (0, 2, 0)] [] [(109, [(2, 93, 0), (1, 0, 0), (0, 0, 0), (0, 1, (-1)), (0, 2, 0)], [(0, 1, (-2)), (2, 123, 0), (1, 0, 3), (2, 93, 0), (0, 1, (-2)), (2, 123, 0)], [(0, 0, 15), (1, 2, 419), (2, 0, 399)], [], [], [(119, (0, 2, 0), (1, 0, 3))])] (by decide +kernel) (ρ0 := (fun s => [x0, x1, x2].getD s 0)) hB eF eC ⟨rfl, ⟨rfl, ⟨rfl, ⟨rfl, ⟨rfl, trivial⟩⟩⟩⟩⟩ trivial ?_
  refine List.forall_mem_cons.mpr ⟨?_, fun _ h => absurd h List.not_mem_nil⟩
  · intro ρ τ Lc stc hx g1 g2 g3 g4 g5 g6 g7 g8
    have e0 : ρ 0 = x0 := hx 0 (by decide)
    have e1 : ρ 1 = x1 := hx 1 (by decide)
    have e2 : ρ 2 = x2 := hx 2 (by decide)
    subst e0
    subst e1
    subst e2
    have g7 := g7 (by decide)
    match Lc, stc, g7, g8 with
    | [v0, v1, v2, v3, v4], [w0, w1, w2, w3, w4, w5], ⟨hv0, hv1, hv2, hv3, hv4, _⟩, ⟨hw0, hw1, hw2, hw3, hw4, hw5, _⟩ =>
      cases hv0
      cases hv1
      cases hv2
      cases hv3
      cases hv4
      cases hw0
      cases hw1
      cases hw2
      cases hw3
      cases hw4
      cases hw5
      exact l0 τ ρ  g1 g2 g3 g4 g5 g6
set_option maxRecDepth 100000 in
theorem ql_c3 {σ : pm_S} {Q : Option Value → pm_S → Prop} (x0 x1 x2 x3 x4 : Int)  (hB : an_GB pm_B σ) (eF : (0 ≤ x0 ∧ x0 ≤ 15) ∧ (1 ≤ x1 ∧ x1 ≤ 418) ∧ (0 ≤ x2 ∧ x2 ≤ 399) ∧ ((-2147483648) ≤ x3 ∧ x3 ≤ 2147483647) ∧ (0 ≤ x4 ∧ x4 ≤ 418) ∧ True)
    (l0 : ∀ (τ : pm_S) (y : Nat → Int), an_GB pm_B τ → FQ [] σ τ → ((0 ≤ x0 ∧ x0 ≤ 15) ∧ (1 ≤ x1 ∧ x1 ≤ 418) ∧ (0 ≤ x2 ∧ x2 ≤ 399) ∧ ((-2147483648) ≤ x3 ∧ x3 ≤ 2147483647) ∧ (0 ≤ x4 ∧ x4 ≤ 418) ∧ True) → (True) → (True) → (True) → Ok 198 5 113 [.ref 93, .int (Int32.ofInt 0), .int (Int32.ofInt (x0)), .int (Int32.ofInt (x1)), .int (Int32.ofInt (x2))] [.int (Int32.ofInt (x1)), .ref 123, .int (Int32.ofInt (x3)), .int (Int32.ofInt 3), .ref 93, .int (Int32.ofInt (x4)), .ref 123] τ Q)
    : Ok 198 5 110 [.ref 93, .int (Int32.ofInt 0), .int (Int32.ofInt (x0)), .int (Int32.ofInt (x1)), .int (Int32.ofInt (x2))] [.int (Int32.ofInt (x3)), .int (Int32.ofInt 3), .ref 93, .int (Int32.ofInt (x4)), .ref 123] σ Q := by
  refine an_seg (B := pm_B) (F := []) (T := [117, 118, 119, 120]) (S := []) (fun _ h => absurd h List.not_mem_nil) (k := 198) (d := 4) (cs := [113]) 5 110 5 [(0, 0, 15), (1, 1, 418), (2, 0, 399), (3, (-2147483648), 2147483647), (4, 0, 418)] [] [(2, 93, 0), (1, 0, 0), (0, 0, 0), (0, 1, 0), (0, 2, 0)] [(0, 3, 0), (1, 0, 3), (2, 93, 0), (0, 4, 0), (2, 123, 0)] [(113, [(2, 93, 0), (1, 0, 0), (0, 0, 0), (0, 1, 0), (0, 2, 0)], [(0, 1, 0), (2, 123, 0), (0, 3, 0), (1, 0, 3), (2, 93, 0), (0, 4, 0), (2, 123, 0)], [(0, 0, 15), (1, 1, 418), (2, 0, 399), (3, (-2147483648), 2147483647), (4, 0, 418)], [], [], [])] (by decide +kernel) (ρ0 := (fun s => [x0, x1, x2, x3, x4].getD s 0)) hB eF trivial ⟨rfl, ⟨rfl, ⟨rfl, ⟨rfl, ⟨rfl, trivial⟩⟩⟩⟩⟩ ⟨rfl, ⟨rfl, ⟨rfl, ⟨rfl, ⟨rfl, trivial⟩⟩⟩⟩⟩ ?_
  refine List.forall_mem_cons.mpr ⟨?_, fun _ h => absurd h List.not_mem_nil⟩
  · intro ρ τ Lc stc hx g1 g2 g3 g4 g5 g6 g7 g8
    have e0 : ρ 0 = x0 := hx 0 (by decide)
    have e1 : ρ 1 = x1 := hx 1 (by decide)
    have e2 : ρ 2 = x2 := hx 2 (by decide)
    have e3 : ρ 3 = x3 := hx 3 (by decide)
    have e4 : ρ 4 = x4 := hx 4 (by decide)
    subst e0
    subst e1
    subst e2
    subst e3
    subst e4
    have g7 := g7 (by decide)
    match Lc, stc, g7, g8 with
    | [v0, v1, v2, v3, v4], [w0, w1, w2, w3, w4, w5, w6], ⟨hv0, hv1, hv2, hv3, hv4, _⟩, ⟨hw0, hw1, hw2, hw3, hw4, hw5, hw6, _⟩ =>
      cases hv0
      cases hv1
      cases hv2
      cases hv3
      cases hv4
      cases hw0
      cases hw1
      cases hw2
      cases hw3
      cases hw4
      cases hw5
      cases hw6
      exact l0 τ ρ  g1 g2 g3 g4 g5 g6
set_option maxRecDepth 100000 in
theorem ql_b4 {σ : pm_S} {Q : Option Value → pm_S → Prop} (x0 x1 x2 : Int)  (hB : an_GB pm_B σ) (eF : (0 ≤ x0 ∧ x0 ≤ 15) ∧ (2 ≤ x1 ∧ x1 ≤ 419) ∧ (0 ≤ x2 ∧ x2 ≤ 399) ∧ True) (eC : (σ.1 119 (x2).toNat).toInt = 4 ∧ True)
    (l0 : ∀ (τ : pm_S) (y : Nat → Int), an_GB pm_B τ → FQ [] σ τ → ((0 ≤ x0 ∧ x0 ≤ 15) ∧ (2 ≤ x1 ∧ x1 ≤ 419) ∧ (0 ≤ x2 ∧ x2 ≤ 399) ∧ True) → (True) → (True) → ((τ.1 119 (x2).toNat).toInt = 4 ∧ True) → Ok 198 5 109 [.ref 93, .int (Int32.ofInt 0), .int (Int32.ofInt (x0)), .int (Int32.ofInt (x1 + (-1))), .int (Int32.ofInt (x2))] [.int (Int32.ofInt (x1 + (-2))), .ref 123, .int (Int32.ofInt 4), .ref 93, .int (Int32.ofInt (x1 + (-2))), .ref 123] τ Q)
    : Ok 198 5 32 [.ref 93, .int (Int32.ofInt 0), .int (Int32.ofInt (x0)), .int (Int32.ofInt (x1)), .int (Int32.ofInt (x2))] [] σ Q := by
  refine an_seg (B := pm_B) (F := []) (T := [117, 118, 119, 120]) (S := []) (fun _ h => absurd h List.not_mem_nil) (k := 198) (d := 4) (cs := [109]) 38 32 3 [(0, 0, 15), (1, 2, 419), (2, 0, 399)] [(119, (0, 2, 0), (1, 0, 4))] [(2, 93, 0), (1, 0, 0), (0, 0, 0), (0, 1, 0), (0, 2, 0)] [] [(109, [(2, 93, 0), (1, 0, 0), (0, 0, 0), (0, 1, (-1)), (0, 2, 0)], [(0, 1, (-2)), (2, 123, 0), (1, 0, 4), (2, 93, 0), (0, 1, (-2)), (2, 123, 0)], [(0, 0, 15), (1, 2, 419), (2, 0, 399)], [], [], [(119, (0, 2, 0), (1, 0, 4))])] (by decide +kernel) (ρ0 := (fun s => [x0, x1, x2].getD s 0)) hB eF eC ⟨rfl, ⟨rfl, ⟨rfl, ⟨rfl, ⟨rfl, trivial⟩⟩⟩⟩⟩ trivial ?_
  refine List.forall_mem_cons.mpr ⟨?_, fun _ h => absurd h List.not_mem_nil⟩
  · intro ρ τ Lc stc hx g1 g2 g3 g4 g5 g6 g7 g8
    have e0 : ρ 0 = x0 := hx 0 (by decide)
    have e1 : ρ 1 = x1 := hx 1 (by decide)
    have e2 : ρ 2 = x2 := hx 2 (by decide)
    subst e0
    subst e1
    subst e2
    have g7 := g7 (by decide)
    match Lc, stc, g7, g8 with
    | [v0, v1, v2, v3, v4], [w0, w1, w2, w3, w4, w5], ⟨hv0, hv1, hv2, hv3, hv4, _⟩, ⟨hw0, hw1, hw2, hw3, hw4, hw5, _⟩ =>
      cases hv0
      cases hv1
      cases hv2
      cases hv3
      cases hv4
      cases hw0
      cases hw1
      cases hw2
      cases hw3
      cases hw4
      cases hw5
      exact l0 τ ρ  g1 g2 g3 g4 g5 g6
set_option maxRecDepth 100000 in
theorem ql_c4 {σ : pm_S} {Q : Option Value → pm_S → Prop} (x0 x1 x2 x3 x4 : Int)  (hB : an_GB pm_B σ) (eF : (0 ≤ x0 ∧ x0 ≤ 15) ∧ (1 ≤ x1 ∧ x1 ≤ 418) ∧ (0 ≤ x2 ∧ x2 ≤ 399) ∧ ((-2147483648) ≤ x3 ∧ x3 ≤ 2147483647) ∧ (0 ≤ x4 ∧ x4 ≤ 418) ∧ True)
    (l0 : ∀ (τ : pm_S) (y : Nat → Int), an_GB pm_B τ → FQ [] σ τ → ((0 ≤ x0 ∧ x0 ≤ 15) ∧ (1 ≤ x1 ∧ x1 ≤ 418) ∧ (0 ≤ x2 ∧ x2 ≤ 399) ∧ ((-2147483648) ≤ x3 ∧ x3 ≤ 2147483647) ∧ (0 ≤ x4 ∧ x4 ≤ 418) ∧ True) → (True) → (True) → (True) → Ok 198 5 113 [.ref 93, .int (Int32.ofInt 0), .int (Int32.ofInt (x0)), .int (Int32.ofInt (x1)), .int (Int32.ofInt (x2))] [.int (Int32.ofInt (x1)), .ref 123, .int (Int32.ofInt (x3)), .int (Int32.ofInt 4), .ref 93, .int (Int32.ofInt (x4)), .ref 123] τ Q)
    : Ok 198 5 110 [.ref 93, .int (Int32.ofInt 0), .int (Int32.ofInt (x0)), .int (Int32.ofInt (x1)), .int (Int32.ofInt (x2))] [.int (Int32.ofInt (x3)), .int (Int32.ofInt 4), .ref 93, .int (Int32.ofInt (x4)), .ref 123] σ Q := by
  refine an_seg (B := pm_B) (F := []) (T := [117, 118, 119, 120]) (S := []) (fun _ h => absurd h List.not_mem_nil) (k := 198) (d := 4) (cs := [113]) 5 110 5 [(0, 0, 15), (1, 1, 418), (2, 0, 399), (3, (-2147483648), 2147483647), (4, 0, 418)] [] [(2, 93, 0), (1, 0, 0), (0, 0, 0), (0, 1, 0), (0, 2, 0)] [(0, 3, 0), (1, 0, 4), (2, 93, 0), (0, 4, 0), (2, 123, 0)] [(113, [(2, 93, 0), (1, 0, 0), (0, 0, 0), (0, 1, 0), (0, 2, 0)], [(0, 1, 0), (2, 123, 0), (0, 3, 0), (1, 0, 4), (2, 93, 0), (0, 4, 0), (2, 123, 0)], [(0, 0, 15), (1, 1, 418), (2, 0, 399), (3, (-2147483648), 2147483647), (4, 0, 418)], [], [], [])] (by decide +kernel) (ρ0 := (fun s => [x0, x1, x2, x3, x4].getD s 0)) hB eF trivial ⟨rfl, ⟨rfl, ⟨rfl, ⟨rfl, ⟨rfl, trivial⟩⟩⟩⟩⟩ ⟨rfl, ⟨rfl, ⟨rfl, ⟨rfl, ⟨rfl, trivial⟩⟩⟩⟩⟩ ?_
  refine List.forall_mem_cons.mpr ⟨?_, fun _ h => absurd h List.not_mem_nil⟩
  · intro ρ τ Lc stc hx g1 g2 g3 g4 g5 g6 g7 g8
    have e0 : ρ 0 = x0 := hx 0 (by decide)
    have e1 : ρ 1 = x1 := hx 1 (by decide)
    have e2 : ρ 2 = x2 := hx 2 (by decide)
    have e3 : ρ 3 = x3 := hx 3 (by decide)
    have e4 : ρ 4 = x4 := hx 4 (by decide)
    subst e0
    subst e1
    subst e2
    subst e3
    subst e4
    have g7 := g7 (by decide)
    match Lc, stc, g7, g8 with
    | [v0, v1, v2, v3, v4], [w0, w1, w2, w3, w4, w5, w6], ⟨hv0, hv1, hv2, hv3, hv4, _⟩, ⟨hw0, hw1, hw2, hw3, hw4, hw5, hw6, _⟩ =>
      cases hv0
      cases hv1
      cases hv2
      cases hv3
      cases hv4
      cases hw0
      cases hw1
      cases hw2
      cases hw3
      cases hw4
      cases hw5
      cases hw6
      exact l0 τ ρ  g1 g2 g3 g4 g5 g6
set_option maxRecDepth 100000 in
theorem ql_b5 {σ : pm_S} {Q : Option Value → pm_S → Prop} (x0 x1 x2 : Int)  (hB : an_GB pm_B σ) (eF : (0 ≤ x0 ∧ x0 ≤ 15) ∧ (2 ≤ x1 ∧ x1 ≤ 419) ∧ (0 ≤ x2 ∧ x2 ≤ 399) ∧ True) (eC : (σ.1 119 (x2).toNat).toInt = 5 ∧ True)
    (l0 : ∀ (τ : pm_S) (y : Nat → Int), an_GB pm_B τ → FQ [] σ τ → ((0 ≤ x0 ∧ x0 ≤ 15) ∧ (2 ≤ x1 ∧ x1 ≤ 419) ∧ (0 ≤ x2 ∧ x2 ≤ 399) ∧ True) → (True) → (True) → ((τ.1 119 (x2).toNat).toInt = 5 ∧ True) → Ok 198 5 109 [.ref 93, .int (Int32.ofInt 0), .int (Int32.ofInt (x0)), .int (Int32.ofInt (x1 + (-1))), .int (Int32.ofInt (x2))] [.int (Int32.ofInt (x1 + (-2))), .ref 123, .int (Int32.ofInt 5), .ref 93, .int (Int32.ofInt (x1 + (-2))), .ref 123] τ Q)
    : Ok 198 5 32 [.ref 93, .int (Int32.ofInt 0), .int (Int32.ofInt (x0)), .int (Int32.ofInt (x1)), .int (Int32.ofInt (x2))] [] σ Q := by
  refine an_seg (B := pm_B) (F := []) (T := [117, 118, 119, 120]) (S := []) (fun _ h => absurd h List.not_mem_nil) (k := 198) (d := 4) (cs := [109]) 38 32 3 [(0, 0, 15), (1, 2, 419), (2, 0, 399)] [(119, (0, 2, 0), (1, 0, 5))] [(2, 93, 0), (1, 0, 0), (0, 0, 0), (0, 1, 0), (0, 2, 0)] [] [(109, [(2, 93, 0), (1, 0, 0), (0, 0, 0), (0, 1, (-1)), (0, 2, 0)], [(0, 1, (-2)), (2, 123, 0), (1, 0, 5), (2, 93, 0), (0, 1, (-2)), (2, 123, 0)], [(0, 0, 15), (1, 2, 419), (2, 0, 399)], [], [], [(119, (0, 2, 0), (1, 0, 5))])] (by decide +kernel) (ρ0 := (fun s => [x0, x1, x2].getD s 0)) hB eF eC ⟨rfl, ⟨rfl, ⟨rfl, ⟨rfl, ⟨rfl, trivial⟩⟩⟩⟩⟩ trivial ?_
  refine List.forall_mem_cons.mpr ⟨?_, fun _ h => absurd h List.not_mem_nil⟩
  · intro ρ τ Lc stc hx g1 g2 g3 g4 g5 g6 g7 g8
    have e0 : ρ 0 = x0 := hx 0 (by decide)
    have e1 : ρ 1 = x1 := hx 1 (by decide)
    have e2 : ρ 2 = x2 := hx 2 (by decide)
    subst e0
    subst e1
    subst e2
    have g7 := g7 (by decide)
    match Lc, stc, g7, g8 with
    | [v0, v1, v2, v3, v4], [w0, w1, w2, w3, w4, w5], ⟨hv0, hv1, hv2, hv3, hv4, _⟩, ⟨hw0, hw1, hw2, hw3, hw4, hw5, _⟩ =>
      cases hv0
      cases hv1
      cases hv2
      cases hv3
      cases hv4
      cases hw0
      cases hw1
      cases hw2
      cases hw3
      cases hw4
      cases hw5
      exact l0 τ ρ  g1 g2 g3 g4 g5 g6
set_option maxRecDepth 100000 in
theorem ql_c5 {σ : pm_S} {Q : Option Value → pm_S → Prop} (x0 x1 x2 x3 x4 : Int)  (hB : an_GB pm_B σ) (eF : (0 ≤ x0 ∧ x0 ≤ 15) ∧ (1 ≤ x1 ∧ x1 ≤ 418) ∧ (0 ≤ x2 ∧ x2 ≤ 399) ∧ ((-2147483648) ≤ x3 ∧ x3 ≤ 2147483647) ∧ (0 ≤ x4 ∧ x4 ≤ 418) ∧ True)
    (l0 : ∀ (τ : pm_S) (y : Nat → Int), an_GB pm_B τ → FQ [] σ τ → ((0 ≤ x0 ∧ x0 ≤ 15) ∧ (1 ≤ x1 ∧ x1 ≤ 418) ∧ (0 ≤ x2 ∧ x2 ≤ 399) ∧ ((-2147483648) ≤ x3 ∧ x3 ≤ 2147483647) ∧ (0 ≤ x4 ∧ x4 ≤ 418) ∧ True) → (True) → (True) → (True) → Ok 198 5 113 [.ref 93, .int (Int32.ofInt 0), .int (Int32.ofInt (x0)), .int (Int32.ofInt (x1)), .int (Int32.ofInt (x2))] [.int (Int32.ofInt (x1)), .ref 123, .int (Int32.ofInt (x3)), .int (Int32.ofInt 5), .ref 93, .int (Int32.ofInt (x4)), .ref 123] τ Q)
    : Ok 198 5 110 [.ref 93, .int (Int32.ofInt 0), .int (Int32.ofInt (x0)), .int (Int32.ofInt (x1)), .int (Int32.ofInt (x2))] [.int (Int32.ofInt (x3)), .int (Int32.ofInt 5), .ref 93, .int (Int32.ofInt (x4)), .ref 123] σ Q := by
  refine an_seg (B := pm_B) (F := []) (T := [117, 118, 119, 120]) (S := []) (fun _ h => absurd h List.not_mem_nil) (k := 198) (d := 4) (cs := [113]) 5 110 5 [(0, 0, 15), (1, 1, 418), (2, 0, 399), (3, (-2147483648), 2147483647), (4, 0, 418)] [] [(2, 93, 0), (1, 0, 0), (0, 0, 0), (0, 1, 0), (0, 2, 0)] [(0, 3, 0), (1, 0, 5), (2, 93, 0), (0, 4, 0), (2, 123, 0)] [(113, [(2, 93, 0), (1, 0, 0), (0, 0, 0), (0, 1, 0), (0, 2, 0)], [(0, 1, 0), (2, 123, 0), (0, 3, 0), (1, 0, 5), (2, 93, 0), (0, 4, 0), (2, 123, 0)], [(0, 0, 15), (1, 1, 418), (2, 0, 399), (3, (-2147483648), 2147483647), (4, 0, 418)], [], [], [])] (by decide +kernel) (ρ0 := (fun s => [x0, x1, x2, x3, x4].getD s 0)) hB eF trivial ⟨rfl, ⟨rfl, ⟨rfl, ⟨rfl, ⟨rfl, trivial⟩⟩⟩⟩⟩ ⟨rfl, ⟨rfl, ⟨rfl, ⟨rfl, ⟨rfl, trivial⟩⟩⟩⟩⟩ ?_
  refine List.forall_mem_cons.mpr ⟨?_, fun _ h => absurd h List.not_mem_nil⟩
  · intro ρ τ Lc stc hx g1 g2 g3 g4 g5 g6 g7 g8
    have e0 : ρ 0 = x0 := hx 0 (by decide)
    have e1 : ρ 1 = x1 := hx 1 (by decide)
    have e2 : ρ 2 = x2 := hx 2 (by decide)
    have e3 : ρ 3 = x3 := hx 3 (by decide)
    have e4 : ρ 4 = x4 := hx 4 (by decide)
    subst e0
    subst e1
    subst e2
    subst e3
    subst e4
    have g7 := g7 (by decide)
    match Lc, stc, g7, g8 with
    | [v0, v1, v2, v3, v4], [w0, w1, w2, w3, w4, w5, w6], ⟨hv0, hv1, hv2, hv3, hv4, _⟩, ⟨hw0, hw1, hw2, hw3, hw4, hw5, hw6, _⟩ =>
      cases hv0
      cases hv1
      cases hv2
      cases hv3
      cases hv4
      cases hw0
      cases hw1
      cases hw2
      cases hw3
      cases hw4
      cases hw5
      cases hw6
      exact l0 τ ρ  g1 g2 g3 g4 g5 g6
set_option maxRecDepth 100000 in
theorem ql_b6 {σ : pm_S} {Q : Option Value → pm_S → Prop} (x0 x1 x2 : Int)  (hB : an_GB pm_B σ) (eF : (0 ≤ x0 ∧ x0 ≤ 15) ∧ (2 ≤ x1 ∧ x1 ≤ 419) ∧ (0 ≤ x2 ∧ x2 ≤ 399) ∧ True) (eC : (σ.1 119 (x2).toNat).toInt = 6 ∧ True)
    (l0 : ∀ (τ : pm_S) (y : Nat → Int), an_GB pm_B τ → FQ [] σ τ → ((0 ≤ x0 ∧ x0 ≤ 15) ∧ (2 ≤ x1 ∧ x1 ≤ 419) ∧ (0 ≤ x2 ∧ x2 ≤ 399) ∧ True) → (True) → (True) → ((τ.1 119 (x2).toNat).toInt = 6 ∧ True) → Ok 198 5 109 [.ref 93, .int (Int32.ofInt 0), .int (Int32.ofInt (x0)), .int (Int32.ofInt (x1 + (-1))), .int (Int32.ofInt (x2))] [.int (Int32.ofInt (x1 + (-2))), .ref 123, .int (Int32.ofInt 6), .ref 93, .int (Int32.ofInt (x1 + (-2))), .ref 123] τ Q)
    : Ok 198 5 32 [.ref 93, .int (Int32.ofInt 0), .int (Int32.ofInt (x0)), .int (Int32.ofInt (x1)), .int (Int32.ofInt (x2))] [] σ Q := by
  refine an_seg (B := pm_B) (F := []) (T := [117, 118, 119, 120]) (S := []) (fun _ h => absurd h List.not_mem_nil) (k := 198) (d := 4) (cs := [109]) 38 32 3 [(0, 0, 15), (1, 2, 419), (2, 0, 399)] [(119, (0, 2, 0), (1, 0, 6))] [(2, 93, 0), (1, 0, 0), (0, 0, 0), (0, 1, 0), (0, 2, 0)] [] [(109, [(2, 93, 0), (1, 0, 0), (0, 0, 0), (0, 1, (-1)), (0, 2, 0)], [(0, 1, (-2)), (2, 123, 0), (1, 0, 6), (2, 93, 0), (0, 1, (-2)), (2, 123, 0)], [(0, 0, 15), (1, 2, 419), (2, 0, 399)], [], [], [(119, (0, 2, 0), (1, 0, 6))])] (by decide +kernel) (ρ0 := (fun s => [x0, x1, x2].getD s 0)) hB eF eC ⟨rfl, ⟨rfl, ⟨rfl, ⟨rfl, ⟨rfl, trivial⟩⟩⟩⟩⟩ trivial ?_
  refine List.forall_mem_cons.mpr ⟨?_, fun _ h => absurd h List.not_mem_nil⟩
  · intro ρ τ Lc stc hx g1 g2 g3 g4 g5 g6 g7 g8
    have e0 : ρ 0 = x0 := hx 0 (by decide)
    have e1 : ρ 1 = x1 := hx 1 (by decide)
    have e2 : ρ 2 = x2 := hx 2 (by decide)
    subst e0
    subst e1
    subst e2
    have g7 := g7 (by decide)
    match Lc, stc, g7, g8 with
    | [v0, v1, v2, v3, v4], [w0, w1, w2, w3, w4, w5], ⟨hv0, hv1, hv2, hv3, hv4, _⟩, ⟨hw0, hw1, hw2, hw3, hw4, hw5, _⟩ =>
      cases hv0
      cases hv1
      cases hv2
      cases hv3
      cases hv4
      cases hw0
      cases hw1
      cases hw2
      cases hw3
      cases hw4
      cases hw5
      exact l0 τ ρ  g1 g2 g3 g4 g5 g6
set_option maxRecDepth 100000 in
theorem ql_c6 {σ : pm_S} {Q : Option Value → pm_S → Prop} (x0 x1 x2 x3 x4 : Int)  (hB : an_GB pm_B σ) (eF : (0 ≤ x0 ∧ x0 ≤ 15) ∧ (1 ≤ x1 ∧ x1 ≤ 418) ∧ (0 ≤ x2 ∧ x2 ≤ 399) ∧ ((-2147483648) ≤ x3 ∧ x3 ≤ 2147483647) ∧ (0 ≤ x4 ∧ x4 ≤ 418) ∧ True)
    (l0 : ∀ (τ : pm_S) (y : Nat → Int), an_GB pm_B τ → FQ [] σ τ → ((0 ≤ x0 ∧ x0 ≤ 15) ∧ (1 ≤ x1 ∧ x1 ≤ 418) ∧ (0 ≤ x2 ∧ x2 ≤ 399) ∧ ((-2147483648) ≤ x3 ∧ x3 ≤ 2147483647) ∧ (0 ≤ x4 ∧ x4 ≤ 418) ∧ True) → (True) → (True) → (True) → Ok 198 5 113 [.ref 93, .int (Int32.ofInt 0), .int (Int32.ofInt (x0)), .int (Int32.ofInt (x1)), .int (Int32.ofInt (x2))] [.int (Int32.ofInt (x1)), .ref 123, .int (Int32.ofInt (x3)), .int (Int32.ofInt 6), .ref 93, .int (Int32.ofInt (x4)), .ref 123] τ Q)
    : Ok 198 5 110 [.ref 93, .int (Int32.ofInt 0), .int (Int32.ofInt (x0)), .int (Int32.ofInt (x1)), .int (Int32.ofInt (x2))] [.int (Int32.ofInt (x3)), .int (Int32.ofInt 6), .ref 93, .int (Int32.ofInt (x4)), .ref 123] σ Q := by
  refine an_seg (B := pm_B) (F := []) (T := [117, 118, 119, 120]) (S := []) (fun _ h => absurd h List.not_mem_nil) (k := 198) (d := 4) (cs := [113]) 5 110 5 [(0, 0, 15), (1, 1, 418), (2, 0, 399), (3, (-2147483648), 2147483647), (4, 0, 418)] [] [(2, 93, 0), (1, 0, 0), (0, 0, 0), (0, 1, 0), (0, 2, 0)] [(0, 3, 0), (1, 0, 6), (2, 93, 0), (0, 4, 0), (2, 123, 0)] [(113, [(2, 93, 0), (1, 0, 0), (0, 0, 0), (0, 1, 0), (0, 2, 0)], [(0, 1, 0), (2, 123, 0), (0, 3, 0), (1, 0, 6), (2, 93, 0), (0, 4, 0), (2, 123, 0)], [(0, 0, 15), (1, 1, 418), (2, 0, 399), (3, (-2147483648), 2147483647), (4, 0, 418)], [], [], [])] (by decide +kernel) (ρ0 := (fun s => [x0, x1, x2, x3, x4].getD s 0)) hB eF trivial ⟨rfl, ⟨rfl, ⟨rfl, ⟨rfl, ⟨rfl, trivial⟩⟩⟩⟩⟩ ⟨rfl, ⟨rfl, ⟨rfl, ⟨rfl, ⟨rfl, trivial⟩⟩⟩⟩⟩ ?_
  refine List.forall_mem_cons.mpr ⟨?_, fun _ h => absurd h List.not_mem_nil⟩
  · intro ρ τ Lc stc hx g1 g2 g3 g4 g5 g6 g7 g8
    have e0 : ρ 0 = x0 := hx 0 (by decide)
    have e1 : ρ 1 = x1 := hx 1 (by decide)
    have e2 : ρ 2 = x2 := hx 2 (by decide)
    have e3 : ρ 3 = x3 := hx 3 (by decide)
    have e4 : ρ 4 = x4 := hx 4 (by decide)
    subst e0
    subst e1
    subst e2
    subst e3
    subst e4
    have g7 := g7 (by decide)
    match Lc, stc, g7, g8 with
    | [v0, v1, v2, v3, v4], [w0, w1, w2, w3, w4, w5, w6], ⟨hv0, hv1, hv2, hv3, hv4, _⟩, ⟨hw0, hw1, hw2, hw3, hw4, hw5, hw6, _⟩ =>
      cases hv0
      cases hv1
      cases hv2
      cases hv3
      cases hv4
      cases hw0
      cases hw1
      cases hw2
      cases hw3
      cases hw4
      cases hw5
      cases hw6
      exact l0 τ ρ  g1 g2 g3 g4 g5 g6
set_option maxRecDepth 100000 in
theorem ql_b7 {σ : pm_S} {Q : Option Value → pm_S → Prop} (x0 x1 x2 : Int)  (hB : an_GB pm_B σ) (eF : (0 ≤ x0 ∧ x0 ≤ 15) ∧ (2 ≤ x1 ∧ x1 ≤ 419) ∧ (0 ≤ x2 ∧ x2 ≤ 399) ∧ True) (eC : (σ.1 119 (x2).toNat).toInt = 7 ∧ True)
    (l0 : ∀ (τ : pm_S) (y : Nat → Int), an_GB pm_B τ → FQ [] σ τ → ((0 ≤ x0 ∧ x0 ≤ 15) ∧ (2 ≤ x1 ∧ x1 ≤ 419) ∧ (0 ≤ x2 ∧ x2 ≤ 399) ∧ True) → (True) → (True) → ((τ.1 119 (x2).toNat).toInt = 7 ∧ True) → Ok 198 5 109 [.ref 93, .int (Int32.ofInt 0), .int (Int32.ofInt (x0)), .int (Int32.ofInt (x1 + (-1))), .int (Int32.ofInt (x2))] [.int (Int32.ofInt (x1 + (-2))), .ref 123, .int (Int32.ofInt 7), .ref 93, .int (Int32.ofInt (x1 + (-2))), .ref 123] τ Q)
    : Ok 198 5 32 [.ref 93, .int (Int32.ofInt 0), .int (Int32.ofInt (x0)), .int (Int32.ofInt (x1)), .int (Int32.ofInt (x2))] [] σ Q := by
  refine an_seg (B := pm_B) (F := []) (T := [117, 118, 119, 120]) (S := []) (fun _ h => absurd h List.not_mem_nil) (k := 198) (d := 4) (cs := [109]) 38 32 3 [(0, 0, 15), (1, 2, 419), (2, 0, 399)] [(119, (0, 2, 0), (1, 0, 7))] [(2, 93, 0), (1, 0, 0), (0, 0, 0), (0, 1, 0), (0, 2, 0)] [] [(109, [(2, 93, 0), (1, 0, 0), (0, 0, 0), (0, 1, (-1)), (0, 2, 0)], [(0, 1, (-2)), (2, 123, 0), (1, 0, 7), (2, 93, 0), (0, 1, (-2)), (2, 123, 0)], [(0, 0, 15), (1, 2, 419), (2, 0, 399)], [], [], [(119, (0, 2, 0), (1, 0, 7))])] (by decide +kernel) (ρ0 := (fun s => [x0, x1, x2].getD s 0)) hB eF eC ⟨rfl, ⟨rfl, ⟨rfl, ⟨rfl, ⟨rfl, trivial⟩⟩⟩⟩⟩ trivial ?_
  refine List.forall_mem_cons.mpr ⟨?_, fun _ h => absurd h List.not_mem_nil⟩
  · intro ρ τ Lc stc hx g1 g2 g3 g4 g5 g6 g7 g8
    have e0 : ρ 0 = x0 := hx 0 (by decide)
    have e1 : ρ 1 = x1 := hx 1 (by decide)
    have e2 : ρ 2 = x2 := hx 2 (by decide)
    subst e0
    subst e1
    subst e2
    have g7 := g7 (by decide)
    match Lc, stc, g7, g8 with
    | [v0, v1, v2, v3, v4], [w0, w1, w2, w3, w4, w5], ⟨hv0, hv1, hv2, hv3, hv4, _⟩, ⟨hw0, hw1, hw2, hw3, hw4, hw5, _⟩ =>
      cases hv0
      cases hv1
      cases hv2
      cases hv3
      cases hv4
      cases hw0
      cases hw1
      cases hw2
      cases hw3
      cases hw4
      cases hw5
      exact l0 τ ρ  g1 g2 g3 g4 g5 g6
set_option maxRecDepth 100000 in
theorem ql_c7 {σ : pm_S} {Q : Option Value → pm_S → Prop} (x0 x1 x2 x3 x4 : Int)  (hB : an_GB pm_B σ) (eF : (0 ≤ x0 ∧ x0 ≤ 15) ∧ (1 ≤ x1 ∧ x1 ≤ 418) ∧ (0 ≤ x2 ∧ x2 ≤ 399) ∧ ((-2147483648) ≤ x3 ∧ x3 ≤ 2147483647) ∧ (0 ≤ x4 ∧ x4 ≤ 418) ∧ True)
    (l0 : ∀ (τ : pm_S) (y : Nat → Int), an_GB pm_B τ → FQ [] σ τ → ((0 ≤ x0 ∧ x0 ≤ 15) ∧ (1 ≤ x1 ∧ x1 ≤ 418) ∧ (0 ≤ x2 ∧ x2 ≤ 399) ∧ ((-2147483648) ≤ x3 ∧ x3 ≤ 2147483647) ∧ (0 ≤ x4 ∧ x4 ≤ 418) ∧ True) → (True) → (True) → (True) → Ok 198 5 113 [.ref 93, .int (Int32.ofInt 0), .int (Int32.ofInt (x0)), .int (Int32.ofInt (x1)), .int (Int32.ofInt (x2))] [.int (Int32.ofInt (x1)), .ref 123, .int (Int32.ofInt (x3)), .int (Int32.ofInt 7), .ref 93, .int (Int32.ofInt (x4)), .ref 123] τ Q)
    : Ok 198 5 110 [.ref 93, .int (Int32.ofInt 0), .int (Int32.ofInt (x0)), .int (Int32.ofInt (x1)), .int (Int32.ofInt (x2))] [.int (Int32.ofInt (x3)), .int (Int32.ofInt 7), .ref 93, .int (Int32.ofInt (x4)), .ref 123] σ Q := by
  refine an_seg (B := pm_B) (F := []) (T := [117, 118, 119, 120]) (S := []) (fun _ h => absurd h List.not_mem_nil) (k := 198) (d := 4) (cs := [113]) 5 110 5 [(0, 0, 15), (1, 1, 418), (2, 0, 399), (3, (-2147483648), 2147483647), (4, 0, 418)] [] [(2, 93, 0), (1, 0, 0), (0, 0, 0), (0, 1, 0), (0, 2, 0)] [(0, 3, 0), (1, 0, 7), (2, 93, 0), (0, 4, 0), (2, 123, 0)] [(113, [(2, 93, 0), (1, 0, 0), (0, 0, 0), (0, 1, 0), (0, 2, 0)], [(0, 1, 0), (2, 123, 0), (0, 3, 0), (1, 0, 7), (2, 93, 0), (0, 4, 0), (2, 123, 0)], [(0, 0, 15), (1, 1, 418), (2, 0, 399), (3, (-2147483648), 2147483647), (4, 0, 418)], [], [], [])] (by decide +kernel) (ρ0 := (fun s => [x0, x1, x2, x3, x4].getD s 0)) hB eF trivial ⟨rfl, ⟨rfl, ⟨rfl, ⟨rfl, ⟨rfl, trivial⟩⟩⟩⟩⟩ ⟨rfl, ⟨rfl, ⟨rfl, ⟨rfl, ⟨rfl, trivial⟩⟩⟩⟩⟩ ?_
  refine List.forall_mem_cons.mpr ⟨?_, fun _ h => absurd h List.not_mem_nil⟩
  · intro ρ τ Lc stc hx g1 g2 g3 g4 g5 g6 g7 g8
    have e0 : ρ 0 = x0 := hx 0 (by decide)
    have e1 : ρ 1 = x1 := hx 1 (by decide)
    have e2 : ρ 2 = x2 := hx 2 (by decide)
    have e3 : ρ 3 = x3 := hx 3 (by decide)
    have e4 : ρ 4 = x4 := hx 4 (by decide)
    subst e0
    subst e1
    subst e2
    subst e3
    subst e4
    have g7 := g7 (by decide)
    match Lc, stc, g7, g8 with
    | [v0, v1, v2, v3, v4], [w0, w1, w2, w3, w4, w5, w6], ⟨hv0, hv1, hv2, hv3, hv4, _⟩, ⟨hw0, hw1, hw2, hw3, hw4, hw5, hw6, _⟩ =>
      cases hv0
      cases hv1
      cases hv2
      cases hv3
      cases hv4
      cases hw0
      cases hw1
      cases hw2
      cases hw3
      cases hw4
      cases hw5
      cases hw6
      exact l0 τ ρ  g1 g2 g3 g4 g5 g6
set_option maxRecDepth 100000 in
theorem ql_b8 {σ : pm_S} {Q : Option Value → pm_S → Prop} (x0 x1 x2 : Int)  (hB : an_GB pm_B σ) (eF : (0 ≤ x0 ∧ x0 ≤ 15) ∧ (2 ≤ x1 ∧ x1 ≤ 419) ∧ (0 ≤ x2 ∧ x2 ≤ 399) ∧ True) (eC : (σ.1 119 (x2).toNat).toInt = 8 ∧ True)
    (l0 : ∀ (τ : pm_S) (y : Nat → Int), an_GB pm_B τ → FQ [] σ τ → ((0 ≤ x0 ∧ x0 ≤ 15) ∧ (2 ≤ x1 ∧ x1 ≤ 419) ∧ (0 ≤ x2 ∧ x2 ≤ 399) ∧ True) → (True) → (True) → ((τ.1 119 (x2).toNat).toInt = 8 ∧ True) → Ok 198 5 109 [.ref 93, .int (Int32.ofInt 0), .int (Int32.ofInt (x0)), .int (Int32.ofInt (x1 + (-1))), .int (Int32.ofInt (x2))] [.int (Int32.ofInt (x1 + (-2))), .ref 123, .int (Int32.ofInt 8), .ref 93, .int (Int32.ofInt (x1 + (-2))), .ref 123] τ Q)
    : Ok 198 5 32 [.ref 93, .int (Int32.ofInt 0), .int (Int32.ofInt (x0)), .int (Int32.ofInt (x1)), .int (Int32.ofInt (x2))] [] σ Q := by
  refine an_seg (B := pm_B) (F := []) (T := [117, 118, 119, 120]) (S := []) (fun _ h => absurd h List.not_mem_nil) (k := 198) (d := 4) (cs := [109]) 38 32 3 [(0, 0, 15), (1, 2, 419), (2, 0, 399)] [(119, (0, 2, 0), (1, 0, 8))] [(2, 93, 0), (1, 0, 0), (0, 0, 0), (0, 1, 0), (0, 2, 0)] [] [(109, [(2, 93, 0), (1, 0, 0), (0, 0, 0), (0, 1, (-1)), (0, 2, 0)], [(0, 1, (-2)), (2, 123, 0), (1, 0, 8), (2, 93, 0), (0, 1, (-2)), (2, 123, 0)], [(0, 0, 15), (1, 2, 419), (2, 0, 399)], [], [], [(119, (0, 2, 0), (1, 0, 8))])] (by decide +kernel) (ρ0 := (fun s => [x0, x1, x2].getD s 0)) hB eF eC ⟨rfl, ⟨rfl, ⟨rfl, ⟨rfl, ⟨rfl, trivial⟩⟩⟩⟩⟩ trivial ?_
  refine List.forall_mem_cons.mpr ⟨?_, fun _ h => absurd h List.not_mem_nil⟩
  · intro ρ τ Lc stc hx g1 g2 g3 g4 g5 g6 g7 g8
    have e0 : ρ 0 = x0 := hx 0 (by decide)
    have e1 : ρ 1 = x1 := hx 1 (by decide)
    have e2 : ρ 2 = x2 := hx 2 (by decide)
    subst e0
    subst e1
    subst e2
    have g7 := g7 (by decide)
    match Lc, stc, g7, g8 with
    | [v0, v1, v2, v3, v4], [w0, w1, w2, w3, w4, w5], ⟨hv0, hv1, hv2, hv3, hv4, _⟩, ⟨hw0, hw1, hw2, hw3, hw4, hw5, _⟩ =>
      cases hv0
      cases hv1
      cases hv2
      cases hv3
      cases hv4
      cases hw0
      cases hw1
      cases hw2
      cases hw3
      cases hw4
      cases hw5
      exact l0 τ ρ  g1 g2 g3 g4 g5 g6
set_option maxRecDepth 100000 in
theorem ql_c8 {σ : pm_S} {Q : Option Value → pm_S → Prop} (x0 x1 x2 x3 x4 : Int)  (hB : an_GB pm_B σ) (eF : (0 ≤ x0 ∧ x0 ≤ 15) ∧ (1 ≤ x1 ∧ x1 ≤ 418) ∧ (0 ≤ x2 ∧ x2 ≤ 399) ∧ ((-2147483648) ≤ x3 ∧ x3 ≤ 2147483647) ∧ (0 ≤ x4 ∧ x4 ≤ 418) ∧ True)
    (l0 : ∀ (τ : pm_S) (y : Nat → Int), an_GB pm_B τ → FQ [] σ τ → ((0 ≤ x0 ∧ x0 ≤ 15) ∧ (1 ≤ x1 ∧ x1 ≤ 418) ∧ (0 ≤ x2 ∧ x2 ≤ 399) ∧ ((-2147483648) ≤ x3 ∧ x3 ≤ 2147483647) ∧ (0 ≤ x4 ∧ x4 ≤ 418) ∧ True) → (True) → (True) → (True) → Ok 198 5 113 [.ref 93, .int (Int32.ofInt 0), .int (Int32.ofInt (x0)), .int (Int32.ofInt (x1)), .int (Int32.ofInt (x2))] [.int (Int32.ofInt (x1)), .ref 123, .int (Int32.ofInt (x3)), .int (Int32.ofInt 8), .ref 93, .int (Int32.ofInt (x4)), .ref 123] τ Q)
    : Ok 198 5 110 [.ref 93, .int (Int32.ofInt 0), .int (Int32.ofInt (x0)), .int (Int32.ofInt (x1)), .int (Int32.ofInt (x2))] [.int (Int32.ofInt (x3)), .int (Int32.ofInt 8), .ref 93, .int (Int32.ofInt (x4)), .ref 123] σ Q := by
  refine an_seg (B := pm_B) (F := []) (T := [117, 118, 119, 120]) (S := []) (fun _ h => absurd h List.not_mem_nil) (k := 198) (d := 4) (cs := [113]) 5 110 5 [(0, 0, 15), (1, 1, 418), (2, 0, 399), (3, (-2147483648), 2147483647), (4, 0, 418)] [] [(2, 93, 0), (1, 0, 0), (0, 0, 0), (0, 1, 0), (0, 2, 0)] [(0, 3, 0), (1, 0, 8), (2, 93, 0), (0, 4, 0), (2, 123, 0)] [(113, [(2, 93, 0), (1, 0, 0), (0, 0, 0), (0, 1, 0), (0, 2, 0)], [(0, 1, 0), (2, 123, 0), (0, 3, 0), (1, 0, 8), (2, 93, 0), (0, 4, 0), (2, 123, 0)], [(0, 0, 15), (1, 1, 418), (2, 0, 399), (3, (-2147483648), 2147483647), (4, 0, 418)], [], [], [])] (by decide +kernel) (ρ0 := (fun s => [x0, x1, x2, x3, x4].getD s 0)) hB eF trivial ⟨rfl, ⟨rfl, ⟨rfl, ⟨rfl, ⟨rfl, trivial⟩⟩⟩⟩⟩ ⟨rfl, ⟨rfl, ⟨rfl, ⟨rfl, ⟨rfl, trivial⟩⟩⟩⟩⟩ ?_
  refine List.forall_mem_cons.mpr ⟨?_, fun _ h => absurd h List.not_mem_nil⟩
  · intro ρ τ Lc stc hx g1 g2 g3 g4 g5 g6 g7 g8
    have e0 : ρ 0 = x0 := hx 0 (by decide)
    have e1 : ρ 1 = x1 := hx 1 (by decide)
    have e2 : ρ 2 = x2 := hx 2 (by decide)
    have e3 : ρ 3 = x3 := hx 3 (by decide)
    have e4 : ρ 4 = x4 := hx 4 (by decide)
    subst e0
    subst e1
    subst e2
    subst e3
    subst e4
    have g7 := g7 (by decide)
    match Lc, stc, g7, g8 with
    | [v0, v1, v2, v3, v4], [w0, w1, w2, w3, w4, w5, w6], ⟨hv0, hv1, hv2, hv3, hv4, _⟩, ⟨hw0, hw1, hw2, hw3, hw4, hw5, hw6, _⟩ =>
      cases hv0
      cases hv1
      cases hv2
      cases hv3
      cases hv4
      cases hw0
      cases hw1
      cases hw2
      cases hw3
      cases hw4
      cases hw5
      cases hw6
      exact l0 τ ρ  g1 g2 g3 g4 g5 g6
set_option maxRecDepth 100000 in
theorem ql_b10 {σ : pm_S} {Q : Option Value → pm_S → Prop} (x0 x1 x2 : Int)  (hB : an_GB pm_B σ) (eF : (0 ≤ x0 ∧ x0 ≤ 15) ∧ (2 ≤ x1 ∧ x1 ≤ 419) ∧ (0 ≤ x2 ∧ x2 ≤ 399) ∧ True) (eC : (σ.1 119 (x2).toNat).toInt = 10 ∧ True)
    (l0 : ∀ (τ : pm_S) (y : Nat → Int), an_GB pm_B τ → FQ [] σ τ → ((0 ≤ x0 ∧ x0 ≤ 15) ∧ (2 ≤ x1 ∧ x1 ≤ 419) ∧ (0 ≤ x2 ∧ x2 ≤ 399) ∧ True) → (True) → (True) → ((τ.1 119 (x2).toNat).toInt = 10 ∧ True) → Ok 198 5 109 [.ref 93, .int (Int32.ofInt 0), .int (Int32.ofInt (x0)), .int (Int32.ofInt (x1 + (-1))), .int (Int32.ofInt (x2))] [.int (Int32.ofInt (x1 + (-2))), .ref 123, .int (Int32.ofInt 10), .ref 93, .int (Int32.ofInt (x1 + (-2))), .ref 123] τ Q)
    : Ok 198 5 32 [.ref 93, .int (Int32.ofInt 0), .int (Int32.ofInt (x0)), .int (Int32.ofInt (x1)), .int (Int32.ofInt (x2))] [] σ Q := by
  refine an_seg (B := pm_B) (F := []) (T := [117, 118, 119, 120]) (S := []) (fun _ h => absurd h List.not_mem_nil) (k := 198) (d := 4) (cs := [109]) 38 32 3 [(0, 0, 15), (1, 2, 419), (2, 0, 399)] [(119, (0, 2, 0), (1, 0, 10))] [(2, 93, 0), (1, 0, 0), (0, 0, 0), (0, 1, 0), (0, 2, 0)] [] [(109, [(2, 93, 0), (1, 0, 0), (0, 0, 0), (0, 1, (-1)), (0, 2, 0)], [(0, 1, (-2)), (2, 123, 0), (1, 0, 10), (2, 93, 0), (0, 1, (-2)), (2, 123, 0)], [(0, 0, 15), (1, 2, 419), (2, 0, 399)], [], [], [(119, (0, 2, 0), (1, 0, 10))])] (by decide +kernel) (ρ0 := (fun s => [x0, x1, x2].getD s 0)) hB eF eC ⟨rfl, ⟨rfl, ⟨rfl, ⟨rfl, ⟨rfl, trivial⟩⟩⟩⟩⟩ trivial ?_
  refine List.forall_mem_cons.mpr ⟨?_, fun _ h => absurd h List.not_mem_nil⟩
  · intro ρ τ Lc stc hx g1 g2 g3 g4 g5 g6 g7 g8
    have e0 : ρ 0 = x0 := hx 0 (by decide)
    have e1 : ρ 1 = x1 := hx 1 (by decide)
    have e2 : ρ 2 = x2 := hx 2 (by decide)
    subst e0
    subst e1
    subst e2
    have g7 := g7 (by decide)
    match Lc, stc, g7, g8 with
    | [v0, v1, v2, v3, v4], [w0, w1, w2, w3, w4, w5], ⟨hv0, hv1, hv2, hv3, hv4, _⟩, ⟨hw0, hw1, hw2, hw3, hw4, hw5, _⟩ =>
      cases hv0
      cases hv1
      cases hv2
      cases hv3
      cases hv4
      cases hw0
      cases hw1
      cases hw2
      cases hw3
      cases hw4
      cases hw5
      exact l0 τ ρ  g1 g2 g3 g4 g5 g6
set_option maxRecDepth 100000 in
theorem ql_c10 {σ : pm_S} {Q : Option Value → pm_S → Prop} (x0 x1 x2 x3 x4 : Int)  (hB : an_GB pm_B σ) (eF : (0 ≤ x0 ∧ x0 ≤ 15) ∧ (1 ≤ x1 ∧ x1 ≤ 418) ∧ (0 ≤ x2 ∧ x2 ≤ 399) ∧ ((-2147483648) ≤ x3 ∧ x3 ≤ 2147483647) ∧ (0 ≤ x4 ∧ x4 ≤ 418) ∧ True)
    (l0 : ∀ (τ : pm_S) (y : Nat → Int), an_GB pm_B τ → FQ [] σ τ → ((0 ≤ x0 ∧ x0 ≤ 15) ∧ (1 ≤ x1 ∧ x1 ≤ 418) ∧ (0 ≤ x2 ∧ x2 ≤ 399) ∧ ((-2147483648) ≤ x3 ∧ x3 ≤ 2147483647) ∧ (0 ≤ x4 ∧ x4 ≤ 418) ∧ True) → (True) → (True) → (True) → Ok 198 5 113 [.ref 93, .int (Int32.ofInt 0), .int (Int32.ofInt (x0)), .int (Int32.ofInt (x1)), .int (Int32.ofInt (x2))] [.int (Int32.ofInt (x1)), .ref 123, .int (Int32.ofInt (x3)), .int (Int32.ofInt 10), .ref 93, .int (Int32.ofInt (x4)), .ref 123] τ Q)
    : Ok 198 5 110 [.ref 93, .int (Int32.ofInt 0), .int (Int32.ofInt (x0)), .int (Int32.ofInt (x1)), .int (Int32.ofInt (x2))] [.int (Int32.ofInt (x3)), .int (Int32.ofInt 10), .ref 93, .int (Int32.ofInt (x4)), .ref 123] σ Q := by
  refine an_seg (B := pm_B) (F := []) (T := [117, 118, 119, 120]) (S := []) (fun _ h => absurd h List.not_mem_nil) (k := 198) (d := 4) (cs := [113]) 5 110 5 [(0, 0, 15), (1, 1, 418), (2, 0, 399), (3, (-2147483648), 2147483647), (4, 0, 418)] [] [(2, 93, 0), (1, 0, 0), (0, 0, 0), (0, 1, 0), (0, 2, 0)] [(0, 3, 0), (1, 0, 10), (2, 93, 0), (0, 4, 0), (2, 123, 0)] [(113, [(2, 93, 0), (1, 0, 0), (0, 0, 0), (0, 1, 0), (0, 2, 0)], [(0, 1, 0), (2, 123, 0), (0, 3, 0), (1, 0, 10), (2, 93, 0), (0, 4, 0), (2, 123, 0)], [(0, 0, 15), (1, 1, 418), (2, 0, 399), (3, (-2147483648), 2147483647), (4, 0, 418)], [], [], [])] (by decide +kernel) (ρ0 := (fun s => [x0, x1, x2, x3, x4].getD s 0)) hB eF trivial ⟨rfl, ⟨rfl, ⟨rfl, ⟨rfl, ⟨rfl, trivial⟩⟩⟩⟩⟩ ⟨rfl, ⟨rfl, ⟨rfl, ⟨rfl, ⟨rfl, trivial⟩⟩⟩⟩⟩ ?_
  refine List.forall_mem_cons.mpr ⟨?_, fun _ h => absurd h List.not_mem_nil⟩
  · intro ρ τ Lc stc hx g1 g2 g3 g4 g5 g6 g7 g8
    have e0 : ρ 0 = x0 := hx 0 (by decide)
    have e1 : ρ 1 = x1 := hx 1 (by decide)
    have e2 : ρ 2 = x2 := hx 2 (by decide)
    have e3 : ρ 3 = x3 := hx 3 (by decide)
    have e4 : ρ 4 = x4 := hx 4 (by decide)
    subst e0
    subst e1
    subst e2
    subst e3
    subst e4
    have g7 := g7 (by decide)
    match Lc, stc, g7, g8 with
    | [v0, v1, v2, v3, v4], [w0, w1, w2, w3, w4, w5, w6], ⟨hv0, hv1, hv2, hv3, hv4, _⟩, ⟨hw0, hw1, hw2, hw3, hw4, hw5, hw6, _⟩ =>
      cases hv0
      cases hv1
      cases hv2
      cases hv3
      cases hv4
      cases hw0
      cases hw1
      cases hw2
      cases hw3
      cases hw4
      cases hw5
      cases hw6
      exact l0 τ ρ  g1 g2 g3 g4 g5 g6
set_option maxRecDepth 100000 in
theorem ql_b11 {σ : pm_S} {Q : Option Value → pm_S → Prop} (x0 x1 x2 : Int)  (hB : an_GB pm_B σ) (eF : (0 ≤ x0 ∧ x0 ≤ 15) ∧ (2 ≤ x1 ∧ x1 ≤ 419) ∧ (0 ≤ x2 ∧ x2 ≤ 399) ∧ True) (eC : (σ.1 119 (x2).toNat).toInt = 11 ∧ True)
    (l0 : ∀ (τ : pm_S) (y : Nat → Int), an_GB pm_B τ → FQ [] σ τ → ((0 ≤ x0 ∧ x0 ≤ 15) ∧ (2 ≤ x1 ∧ x1 ≤ 419) ∧ (0 ≤ x2 ∧ x2 ≤ 399) ∧ True) → (True) → (True) → ((τ.1 119 (x2).toNat).toInt = 11 ∧ True) → Ok 198 5 109 [.ref 93, .int (Int32.ofInt 0), .int (Int32.ofInt (x0)), .int (Int32.ofInt (x1 + (-1))), .int (Int32.ofInt (x2))] [.int (Int32.ofInt (x1 + (-2))), .ref 123, .int (Int32.ofInt 11), .ref 93, .int (Int32.ofInt (x1 + (-2))), .ref 123] τ Q)
    : Ok 198 5 32 [.ref 93, .int (Int32.ofInt 0), .int (Int32.ofInt (x0)), .int (Int32.ofInt (x1)), .int (Int32.ofInt (x2))] [] σ Q := by
  refine an_seg (B := pm_B) (F := []) (T := [117, 118, 119, 120]) (S := []) (fun _ h => absurd h List.not_mem_nil) (k := 198) (d := 4) (cs := [109]) 38 32 3 [(0, 0, 15), (1, 2, 419), (2, 0, 399)] [(119, (0, 2, 0), (1, 0, 11))] [(2, 93, 0), (1, 0, 0), (0, 0, 0), (0, 1, 0), (0, 2, 0)] [] [(109, [(2, 93, 0), (1, 0, 0), (0, 0, 0), (0, 1, (-1)), (0, 2, 0)], [(0, 1, (-2)), (2, 123, 0), (1, 0, 11), (2, 93, 0), (0, 1, (-2)), (2, 123, 0)], [(0, 0, 15), (1, 2, 419), (2, 0, 399)], [], [], [(119, (0, 2, 0), (1, 0, 11))])] (by decide +kernel) (ρ0 := (fun s => [x0, x1, x2].getD s 0)) hB eF eC ⟨rfl, ⟨rfl, ⟨rfl, ⟨rfl, ⟨rfl, trivial⟩⟩⟩⟩⟩ trivial ?_
  refine List.forall_mem_cons.mpr ⟨?_, fun _ h => absurd h List.not_mem_nil⟩
  · intro ρ τ Lc stc hx g1 g2 g3 g4 g5 g6 g7 g8
    have e0 : ρ 0 = x0 := hx 0 (by decide)
    have e1 : ρ 1 = x1 := hx 1 (by decide)
    have e2 : ρ 2 = x2 := hx 2 (by decide)
    subst e0
    subst e1
    subst e2
    have g7 := g7 (by decide)
    match Lc, stc, g7, g8 with
    | [v0, v1, v2, v3, v4], [w0, w1, w2, w3, w4, w5], ⟨hv0, hv1, hv2, hv3, hv4, _⟩, ⟨hw0, hw1, hw2, hw3, hw4, hw5, _⟩ =>
      cases hv0
      cases hv1
      cases hv2
      cases hv3
      cases hv4
      cases hw0
      cases hw1
      cases hw2
      cases hw3
      cases hw4
      cases hw5
      exact l0 τ ρ  g1 g2 g3 g4 g5 g6
set_option maxRecDepth 100000 in
theorem ql_c11 {σ : pm_S} {Q : Option Value → pm_S → Prop} (x0 x1 x2 x3 x4 : Int)  (hB : an_GB pm_B σ) (eF : (0 ≤ x0 ∧ x0 ≤ 15) ∧ (1 ≤ x1 ∧ x1 ≤ 418) ∧ (0 ≤ x2 ∧ x2 ≤ 399) ∧ ((-2147483648) ≤ x3 ∧ x3 ≤ 2147483647) ∧ (0 ≤ x4 ∧ x4 ≤ 418) ∧ True)
    (l0 : ∀ (τ : pm_S) (y : Nat → Int), an_GB pm_B τ → FQ [] σ τ → ((0 ≤ x0 ∧ x0 ≤ 15) ∧ (1 ≤ x1 ∧ x1 ≤ 418) ∧ (0 ≤ x2 ∧ x2 ≤ 399) ∧ ((-2147483648) ≤ x3 ∧ x3 ≤ 2147483647) ∧ (0 ≤ x4 ∧ x4 ≤ 418) ∧ True) → (True) → (True) → (True) → Ok 198 5 113 [.ref 93, .int (Int32.ofInt 0), .int (Int32.ofInt (x0)), .int (Int32.ofInt (x1)), .int (Int32.ofInt (x2))] [.int (Int32.ofInt (x1)), .ref 123, .int (Int32.ofInt (x3)), .int (Int32.ofInt 11), .ref 93, .int (Int32.ofInt (x4)), .ref 123] τ Q)
    : Ok 198 5 110 [.ref 93, .int (Int32.ofInt 0), .int (Int32.ofInt (x0)), .int (Int32.ofInt (x1)), .int (Int32.ofInt (x2))] [.int (Int32.ofInt (x3)), .int (Int32.ofInt 11), .ref 93, .int (Int32.ofInt (x4)), .ref 123] σ Q := by
  refine an_seg (B := pm_B) (F := []) (T := [117, 118, 119, 120]) (S := []) (fun _ h => absurd h List.not_mem_nil) (k := 198) (d := 4) (cs := [113]) 5 110 5 [(0, 0, 15), (1, 1, 418), (2, 0, 399), (3, (-2147483648), 2147483647), (4, 0, 418)] [] [(2, 93, 0), (1, 0, 0), (0, 0, 0), (0, 1, 0), (0, 2, 0)] [(0, 3, 0), (1, 0, 11), (2, 93, 0), (0, 4, 0), (2, 123, 0)] [(113, [(2, 93, 0), (1, 0, 0), (0, 0, 0), (0, 1, 0), (0, 2, 0)], [(0, 1, 0), (2, 123, 0), (0, 3, 0), (1, 0, 11), (2, 93, 0), (0, 4, 0), (2, 123, 0)], [(0, 0, 15), (1, 1, 418), (2, 0, 399), (3, (-2147483648), 2147483647), (4, 0, 418)], [], [], [])] (by decide +kernel) (ρ0 := (fun s => [x0, x1, x2, x3, x4].getD s 0)) hB eF trivial ⟨rfl, ⟨rfl, ⟨rfl, ⟨rfl, ⟨rfl, trivial⟩⟩⟩⟩⟩ ⟨rfl, ⟨rfl, ⟨rfl, ⟨rfl, ⟨rfl, trivial⟩⟩⟩⟩⟩ ?_
  refine List.forall_mem_cons.mpr ⟨?_, fun _ h => absurd h List.not_mem_nil⟩
  · intro ρ τ Lc stc hx g1 g2 g3 g4 g5 g6 g7 g8
    have e0 : ρ 0 = x0 := hx 0 (by decide)
    have e1 : ρ 1 = x1 := hx 1 (by decide)
    have e2 : ρ 2 = x2 := hx 2 (by decide)
    have e3 : ρ 3 = x3 := hx 3 (by decide)
    have e4 : ρ 4 = x4 := hx 4 (by decide)
    subst e0
    subst e1
    subst e2
    subst e3
    subst e4
    have g7 := g7 (by decide)
    match Lc, stc, g7, g8 with
    | [v0, v1, v2, v3, v4], [w0, w1, w2, w3, w4, w5, w6], ⟨hv0, hv1, hv2, hv3, hv4, _⟩, ⟨hw0, hw1, hw2, hw3, hw4, hw5, hw6, _⟩ =>
      cases hv0
      cases hv1
      cases hv2
      cases hv3
      cases hv4
      cases hw0
      cases hw1
      cases hw2
      cases hw3
      cases hw4
      cases hw5
      cases hw6
      exact l0 τ ρ  g1 g2 g3 g4 g5 g6
set_option maxRecDepth 100000 in
theorem ql_116 {σ : pm_S} {Q : Option Value → pm_S → Prop} (x0 x1 x2 : Int)  (hB : an_GB pm_B σ) (eF : (0 ≤ x0 ∧ x0 ≤ 15) ∧ (0 ≤ x1 ∧ x1 ≤ 419) ∧ (0 ≤ x2 ∧ x2 ≤ 399) ∧ True)
    (l0 : ∀ (τ : pm_S) (y : Nat → Int), an_GB pm_B τ → FQ [] σ τ → ((0 ≤ x0 ∧ x0 ≤ 15) ∧ (0 ≤ x1 ∧ x1 ≤ 419) ∧ (0 ≤ x2 ∧ x2 ≤ 399) ∧ True) → (True) → (True) → (True) → Ok 198 5 22 [.ref 93, .int (Int32.ofInt 0), .int (Int32.ofInt (x0)), .int (Int32.ofInt (x1)), .int (Int32.ofInt (x2 + 1))] [] τ Q)
    : Ok 198 5 116 [.ref 93, .int (Int32.ofInt 0), .int (Int32.ofInt (x0)), .int (Int32.ofInt (x1)), .int (Int32.ofInt (x2))] [] σ Q := by
  refine an_seg (B := pm_B) (F := []) (T := [117, 118, 119, 120]) (S := []) (fun _ h => absurd h List.not_mem_nil) (k := 198) (d := 4) (cs := [22]) 4 116 3 [(0, 0, 15), (1, 0, 419), (2, 0, 399)] [] [(2, 93, 0), (1, 0, 0), (0, 0, 0), (0, 1, 0), (0, 2, 0)] [] [(22, [(2, 93, 0), (1, 0, 0), (0, 0, 0), (0, 1, 0), (0, 2, 1)], [], [(0, 0, 15), (1, 0, 419), (2, 0, 399)], [], [], [])] (by decide +kernel) (ρ0 := (fun s => [x0, x1, x2].getD s 0)) hB eF trivial ⟨rfl, ⟨rfl, ⟨rfl, ⟨rfl, ⟨rfl, trivial⟩⟩⟩⟩⟩ trivial ?_
  refine List.forall_mem_cons.mpr ⟨?_, fun _ h => absurd h List.not_mem_nil⟩
  · intro ρ τ Lc stc hx g1 g2 g3 g4 g5 g6 g7 g8
    have e0 : ρ 0 = x0 := hx 0 (by decide)
    have e1 : ρ 1 = x1 := hx 1 (by decide)
    have e2 : ρ 2 = x2 := hx 2 (by decide)
    subst e0
    subst e1
    subst e2
    have g7 := g7 (by decide)
    match Lc, stc, g7, g8 with
    | [v0, v1, v2, v3, v4], [], ⟨hv0, hv1, hv2, hv3, hv4, _⟩, _ =>
      cases hv0
      cases hv1
      cases hv2
      cases hv3
      cases hv4
      exact l0 τ ρ  g1 g2 g3 g4 g5 g6
set_option maxRecDepth 100000 in
theorem ql_118 {σ : pm_S} {Q : Option Value → pm_S → Prop} (x0 x1 x2 : Int)  (hB : an_GB pm_B σ) (eF : (0 ≤ x0 ∧ x0 ≤ 15) ∧ (0 ≤ x1 ∧ x1 ≤ 419) ∧ (0 ≤ x2 ∧ x2 ≤ 400) ∧ True)
    (l0 : ∀ (τ : pm_S) (y : Nat → Int), an_GB pm_B τ → FQ [] σ τ → ((0 ≤ x0 ∧ x0 ≤ 15) ∧ (0 ≤ x1 ∧ x1 ≤ 419) ∧ (0 ≤ x2 ∧ x2 ≤ 400) ∧ True) → (True) → (True) → (True) → Ok 198 5 121 [.ref 93, .int (Int32.ofInt 0), .int (Int32.ofInt (x0)), .int (Int32.ofInt (x1)), .int (Int32.ofInt (x2))] [.int (Int32.ofInt 0), .ref 123] τ Q)
    : Ok 198 5 118 [.ref 93, .int (Int32.ofInt 0), .int (Int32.ofInt (x0)), .int (Int32.ofInt (x1)), .int (Int32.ofInt (x2))] [] σ Q := by
  refine an_seg (B := pm_B) (F := []) (T := [117, 118, 119, 120]) (S := []) (fun _ h => absurd h List.not_mem_nil) (k := 198) (d := 4) (cs := [121]) 5 118 3 [(0, 0, 15), (1, 0, 419), (2, 0, 400)] [] [(2, 93, 0), (1, 0, 0), (0, 0, 0), (0, 1, 0), (0, 2, 0)] [] [(121, [(2, 93, 0), (1, 0, 0), (0, 0, 0), (0, 1, 0), (0, 2, 0)], [(1, 0, 0), (2, 123, 0)], [(0, 0, 15), (1, 0, 419), (2, 0, 400)], [], [], [])] (by decide +kernel) (ρ0 := (fun s => [x0, x1, x2].getD s 0)) hB eF trivial ⟨rfl, ⟨rfl, ⟨rfl, ⟨rfl, ⟨rfl, trivial⟩⟩⟩⟩⟩ trivial ?_
  refine List.forall_mem_cons.mpr ⟨?_, fun _ h => absurd h List.not_mem_nil⟩
  · intro ρ τ Lc stc hx g1 g2 g3 g4 g5 g6 g7 g8
    have e0 : ρ 0 = x0 := hx 0 (by decide)
    have e1 : ρ 1 = x1 := hx 1 (by decide)
    have e2 : ρ 2 = x2 := hx 2 (by decide)
    subst e0
    subst e1
    subst e2
    have g7 := g7 (by decide)
    match Lc, stc, g7, g8 with
    | [v0, v1, v2, v3, v4], [w0, w1], ⟨hv0, hv1, hv2, hv3, hv4, _⟩, ⟨hw0, hw1, _⟩ =>
      cases hv0
      cases hv1
      cases hv2
      cases hv3
      cases hv4
      cases hw0
      cases hw1
      exact l0 τ ρ  g1 g2 g3 g4 g5 g6
set_option maxRecDepth 100000 in
theorem ql_122 {σ : pm_S} {Q : Option Value → pm_S → Prop} (x0 x1 : Int) (v3 : Value) (v4 : Value) (hv3 : v3.category = 1) (hv4 : v4.category = 1) (hB : an_GB pm_B σ) (eF : (0 ≤ x0 ∧ x0 ≤ 15) ∧ ((-2147483648) ≤ x1 ∧ x1 ≤ 2147483647) ∧ True)
    (l0 : ∀ (τ : pm_S) (y : Nat → Int), an_GB pm_B τ → FQ [] σ τ → ((0 ≤ x0 ∧ x0 ≤ 15) ∧ (0 ≤ x1 ∧ x1 ≤ 0) ∧ True) → (True) → (True) → (True) → Q (some (.int (Int32.ofInt 0))) τ)
    (l1 : ∀ (τ : pm_S) (y : Nat → Int), an_GB pm_B τ → FQ [] σ τ → ((0 ≤ x0 ∧ x0 ≤ 15) ∧ ((-2147483648) ≤ x1 ∧ x1 ≤ 2147483647) ∧ True) → (x1 ≠ 0 ∧ True) → (True) → (True) → Q (some (.int (Int32.ofInt 1))) τ)
    : Ok 198 5 122 [.ref 93, .int (Int32.ofInt 0), .int (Int32.ofInt (x0)), v3, v4] [.int (Int32.ofInt (x1))] σ Q := by
  refine an_seg (B := pm_B) (F := []) (T := [117, 118, 119, 120]) (S := []) (fun _ h => absurd h List.not_mem_nil) (k := 198) (d := 4) (cs := []) 6 122 2 [(0, 0, 15), (1, (-2147483648), 2147483647)] [] [(2, 93, 0), (1, 0, 0), (0, 0, 0), (5, 0, 0), (5, 0, 0)] [(0, 1, 0)] [(9999, [], [(1, 0, 0)], [(0, 0, 15), (1, 0, 0)], [], [], []),
    (9999, [], [(1, 0, 1)], [(0, 0, 15), (1, (-2147483648), 2147483647)], [(3, 1, 1, 0)], [], [])] (by decide +kernel) (ρ0 := (fun s => [x0, x1].getD s 0)) hB eF trivial ⟨rfl, ⟨rfl, ⟨rfl, ⟨hv3, ⟨hv4, trivial⟩⟩⟩⟩⟩ ⟨rfl, trivial⟩ ?_
  refine List.forall_mem_cons.mpr ⟨?_, List.forall_mem_cons.mpr ⟨?_, fun _ h => absurd h List.not_mem_nil⟩⟩
  · intro ρ τ Lc stc hx g1 g2 g3 g4 g5 g6 g7 g8
    have e0 : ρ 0 = x0 := hx 0 (by decide)
    have e1 : ρ 1 = x1 := hx 1 (by decide)
    subst e0
    subst e1
    match stc, g8 with
    | [_], ⟨h, _⟩ => cases h; exact l0 τ ρ g1 g2 g3 g4 g5 g6
  · intro ρ τ Lc stc hx g1 g2 g3 g4 g5 g6 g7 g8
    have e0 : ρ 0 = x0 := hx 0 (by decide)
    have e1 : ρ 1 = x1 := hx 1 (by decide)
    subst e0
    subst e1
    match stc, g8 with
    | [_], ⟨h, _⟩ => cases h; exact l1 τ ρ g1 g2 g3 g4 g5 g6
set_option maxRecDepth 100000 in
theorem ql_h0 {σ : pm_S} {Q : Option Value → pm_S → Prop} (x0 : Int) (v2 : Value) (v3 : Value) (hv2 : v2.category = 1) (hv3 : v3.category = 1) (hB : an_GB pm_B σ) (eF : (0 ≤ x0 ∧ x0 ≤ 9) ∧ True)
    (l0 : ∀ (τ : pm_S) (y : Nat → Int), an_GB pm_B τ → FQ [] σ τ → ((0 ≤ x0 ∧ x0 ≤ 9) ∧ True) → (True) → (True) → (True) → Ok 200 3 4 [.ref 93, .int (Int32.ofInt (x0)), .int (Int32.ofInt 0), .int (Int32.ofInt 0)] [] τ Q)
    : Ok 200 3 0 [.ref 93, .int (Int32.ofInt (x0)), v2, v3] [] σ Q := by
  refine an_seg (B := pm_B) (F := []) (T := [100]) (S := []) (fun _ h => absurd h List.not_mem_nil) (k := 200) (d := 2) (cs := [4]) 6 0 1 [(0, 0, 9)] [] [(2, 93, 0), (0, 0, 0), (5, 0, 0), (5, 0, 0)] [] [(4, [(2, 93, 0), (0, 0, 0), (1, 0, 0), (1, 0, 0)], [], [(0, 0, 9)], [], [], [])] (by decide +kernel) (ρ0 := (fun s => [x0].getD s 0)) hB eF trivial ⟨rfl, ⟨rfl, ⟨hv2, ⟨hv3, trivial⟩⟩⟩⟩ trivial ?_
  refine List.forall_mem_cons.mpr ⟨?_, fun _ h => absurd h List.not_mem_nil⟩
  · intro ρ τ Lc stc hx g1 g2 g3 g4 g5 g6 g7 g8
    have e0 : ρ 0 = x0 := hx 0 (by decide)
    subst e0
    have g7 := g7 (by decide)
    match Lc, stc, g7, g8 with
    | [v0, v1, v2, v3], [], ⟨hv0, hv1, hv2, hv3, _⟩, _ =>
      cases hv0
      cases hv1
      cases hv2
      cases hv3
      exact l0 τ ρ  g1 g2 g3 g4 g5 g6
set_option maxRecDepth 100000 in
theorem ql_h4 {σ : pm_S} {Q : Option Value → pm_S → Prop} (x0 x1 x2 x3 : Int)  (hB : an_GB pm_B σ) (eF : (0 ≤ x0 ∧ x0 ≤ 9) ∧ (0 ≤ x1 ∧ x1 ≤ 10) ∧ (0 ≤ x2 ∧ x2 ≤ 10) ∧ (0 ≤ x3 ∧ x3 ≤ 10) ∧ True) (eC : (σ.1 93 5).toInt = x3 ∧ True)
    (l0 : ∀ (τ : pm_S) (y : Nat → Int), an_GB pm_B τ → FQ [] σ τ → ((0 ≤ x0 ∧ x0 ≤ 9) ∧ (0 ≤ x1 ∧ x1 ≤ 10) ∧ (0 ≤ x2 ∧ x2 ≤ 10) ∧ (0 ≤ x3 ∧ x3 ≤ 10) ∧ True) → (True) → (True) → ((τ.1 93 5).toInt = x3 ∧ True) → Ok 200 3 7 [.ref 93, .int (Int32.ofInt (x0)), .int (Int32.ofInt (x1)), .int (Int32.ofInt (x2))] [.int (Int32.ofInt (x3)), .int (Int32.ofInt (x2))] τ Q)
    : Ok 200 3 4 [.ref 93, .int (Int32.ofInt (x0)), .int (Int32.ofInt (x1)), .int (Int32.ofInt (x2))] [] σ Q := by
  refine an_seg (B := pm_B) (F := []) (T := [100]) (S := []) (fun _ h => absurd h List.not_mem_nil) (k := 200) (d := 2) (cs := [7]) 5 4 4 [(0, 0, 9), (1, 0, 10), (2, 0, 10), (3, 0, 10)] [(93, (1, 0, 5), (0, 3, 0))] [(2, 93, 0), (0, 0, 0), (0, 1, 0), (0, 2, 0)] [] [(7, [(2, 93, 0), (0, 0, 0), (0, 1, 0), (0, 2, 0)], [(0, 3, 0), (0, 2, 0)], [(0, 0, 9), (1, 0, 10), (2, 0, 10), (3, 0, 10)], [], [], [(93, (1, 0, 5), (0, 3, 0))])] (by decide +kernel) (ρ0 := (fun s => [x0, x1, x2, x3].getD s 0)) hB eF eC ⟨rfl, ⟨rfl, ⟨rfl, ⟨rfl, trivial⟩⟩⟩⟩ trivial ?_
  refine List.forall_mem_cons.mpr ⟨?_, fun _ h => absurd h List.not_mem_nil⟩
  · intro ρ τ Lc stc hx g1 g2 g3 g4 g5 g6 g7 g8
    have e0 : ρ 0 = x0 := hx 0 (by decide)
    have e1 : ρ 1 = x1 := hx 1 (by decide)
    have e2 : ρ 2 = x2 := hx 2 (by decide)
    have e3 : ρ 3 = x3 := hx 3 (by decide)
    subst e0
    subst e1
    subst e2
    subst e3
    have g7 := g7 (by decide)
    match Lc, stc, g7, g8 with
    | [v0, v1, v2, v3], [w0, w1], ⟨hv0, hv1, hv2, hv3, _⟩, ⟨hw0, hw1, _⟩ =>
      cases hv0
      cases hv1
      cases hv2
      cases hv3
      cases hw0
      cases hw1
      exact l0 τ ρ  g1 g2 g3 g4 g5 g6
set_option maxRecDepth 100000 in
theorem ql_h8 {σ : pm_S} {Q : Option Value → pm_S → Prop} (x0 x1 x2 x3 : Int)  (hB : an_GB pm_B σ) (eF : (0 ≤ x0 ∧ x0 ≤ 9) ∧ (0 ≤ x1 ∧ x1 ≤ 9) ∧ (0 ≤ x2 ∧ x2 ≤ 9) ∧ (0 ≤ x3 ∧ x3 ≤ 10) ∧ True) (eC : (σ.1 100 (x2).toNat).toInt = x3 ∧ True)
    (l0 : ∀ (τ : pm_S) (y : Nat → Int), an_GB pm_B τ → FQ [] σ τ → ((0 ≤ x0 ∧ x0 ≤ 9) ∧ (0 ≤ x1 ∧ x1 ≤ 9) ∧ (0 ≤ x2 ∧ x2 ≤ 9) ∧ (0 ≤ x3 ∧ x3 ≤ 10) ∧ True) → (True) → (True) → ((τ.1 100 (x2).toNat).toInt = x3 ∧ True) → Ok 200 3 15 [.ref 93, .int (Int32.ofInt (x0)), .int (Int32.ofInt (x1)), .int (Int32.ofInt (x2))] [.int (Int32.ofInt (x0 + 1)), .int (Int32.ofInt (x3))] τ Q)
    : Ok 200 3 8 [.ref 93, .int (Int32.ofInt (x0)), .int (Int32.ofInt (x1)), .int (Int32.ofInt (x2))] [] σ Q := by
  refine an_seg (B := pm_B) (F := []) (T := [100]) (S := []) (fun _ h => absurd h List.not_mem_nil) (k := 200) (d := 2) (cs := [15]) 9 8 4 [(0, 0, 9), (1, 0, 9), (2, 0, 9), (3, 0, 10)] [(100, (0, 2, 0), (0, 3, 0))] [(2, 93, 0), (0, 0, 0), (0, 1, 0), (0, 2, 0)] [] [(15, [(2, 93, 0), (0, 0, 0), (0, 1, 0), (0, 2, 0)], [(0, 0, 1), (0, 3, 0)], [(0, 0, 9), (1, 0, 9), (2, 0, 9), (3, 0, 10)], [], [], [(100, (0, 2, 0), (0, 3, 0))])] (by decide +kernel) (ρ0 := (fun s => [x0, x1, x2, x3].getD s 0)) hB eF eC ⟨rfl, ⟨rfl, ⟨rfl, ⟨rfl, trivial⟩⟩⟩⟩ trivial ?_
  refine List.forall_mem_cons.mpr ⟨?_, fun _ h => absurd h List.not_mem_nil⟩
  · intro ρ τ Lc stc hx g1 g2 g3 g4 g5 g6 g7 g8
    have e0 : ρ 0 = x0 := hx 0 (by decide)
    have e1 : ρ 1 = x1 := hx 1 (by decide)
    have e2 : ρ 2 = x2 := hx 2 (by decide)
    have e3 : ρ 3 = x3 := hx 3 (by decide)
    subst e0
    subst e1
    subst e2
    subst e3
    have g7 := g7 (by decide)
    match Lc, stc, g7, g8 with
    | [v0, v1, v2, v3], [w0, w1], ⟨hv0, hv1, hv2, hv3, _⟩, ⟨hw0, hw1, _⟩ =>
      cases hv0
      cases hv1
      cases hv2
      cases hv3
      cases hw0
      cases hw1
      exact l0 τ ρ  g1 g2 g3 g4 g5 g6
set_option maxRecDepth 100000 in
theorem ql_h16 {σ : pm_S} {Q : Option Value → pm_S → Prop} (x0 x1 x2 : Int)  (hB : an_GB pm_B σ) (eF : (0 ≤ x0 ∧ x0 ≤ 9) ∧ (0 ≤ x1 ∧ x1 ≤ 9) ∧ (0 ≤ x2 ∧ x2 ≤ 9) ∧ True)
    (l0 : ∀ (τ : pm_S) (y : Nat → Int), an_GB pm_B τ → FQ [] σ τ → ((0 ≤ x0 ∧ x0 ≤ 9) ∧ (0 ≤ x1 ∧ x1 ≤ 9) ∧ (0 ≤ x2 ∧ x2 ≤ 9) ∧ True) → (True) → (True) → (True) → Ok 200 3 4 [.ref 93, .int (Int32.ofInt (x0)), .int (Int32.ofInt (x1 + 1)), .int (Int32.ofInt (x2 + 1))] [] τ Q)
    : Ok 200 3 16 [.ref 93, .int (Int32.ofInt (x0)), .int (Int32.ofInt (x1)), .int (Int32.ofInt (x2))] [] σ Q := by
  refine an_seg (B := pm_B) (F := []) (T := [100]) (S := []) (fun _ h => absurd h List.not_mem_nil) (k := 200) (d := 2) (cs := [4]) 8 16 3 [(0, 0, 9), (1, 0, 9), (2, 0, 9)] [] [(2, 93, 0), (0, 0, 0), (0, 1, 0), (0, 2, 0)] [] [(4, [(2, 93, 0), (0, 0, 0), (0, 1, 1), (0, 2, 1)], [], [(0, 0, 9), (1, 0, 9), (2, 0, 9)], [], [], [])] (by decide +kernel) (ρ0 := (fun s => [x0, x1, x2].getD s 0)) hB eF trivial ⟨rfl, ⟨rfl, ⟨rfl, ⟨rfl, trivial⟩⟩⟩⟩ trivial ?_
  refine List.forall_mem_cons.mpr ⟨?_, fun _ h => absurd h List.not_mem_nil⟩
  · intro ρ τ Lc stc hx g1 g2 g3 g4 g5 g6 g7 g8
    have e0 : ρ 0 = x0 := hx 0 (by decide)
    have e1 : ρ 1 = x1 := hx 1 (by decide)
    have e2 : ρ 2 = x2 := hx 2 (by decide)
    subst e0
    subst e1
    subst e2
    have g7 := g7 (by decide)
    match Lc, stc, g7, g8 with
    | [v0, v1, v2, v3], [], ⟨hv0, hv1, hv2, hv3, _⟩, _ =>
      cases hv0
      cases hv1
      cases hv2
      cases hv3
      exact l0 τ ρ  g1 g2 g3 g4 g5 g6
set_option maxRecDepth 100000 in
theorem ql_h20 {σ : pm_S} {Q : Option Value → pm_S → Prop} (x0 x1 x2 : Int)  (hB : an_GB pm_B σ) (eF : (0 ≤ x0 ∧ x0 ≤ 9) ∧ (0 ≤ x1 ∧ x1 ≤ 9) ∧ (0 ≤ x2 ∧ x2 ≤ 9) ∧ True)
    (l0 : ∀ (τ : pm_S) (y : Nat → Int), an_GB pm_B τ → FQ [] σ τ → ((0 ≤ x0 ∧ x0 ≤ 9) ∧ (0 ≤ x1 ∧ x1 ≤ 9) ∧ (0 ≤ x2 ∧ x2 ≤ 9) ∧ True) → (True) → (True) → (True) → Ok 200 3 4 [.ref 93, .int (Int32.ofInt (x0)), .int (Int32.ofInt (x1)), .int (Int32.ofInt (x2 + 1))] [] τ Q)
    : Ok 200 3 20 [.ref 93, .int (Int32.ofInt (x0)), .int (Int32.ofInt (x1)), .int (Int32.ofInt (x2))] [] σ Q := by
  refine an_seg (B := pm_B) (F := []) (T := [100]) (S := []) (fun _ h => absurd h List.not_mem_nil) (k := 200) (d := 2) (cs := [4]) 4 20 3 [(0, 0, 9), (1, 0, 9), (2, 0, 9)] [] [(2, 93, 0), (0, 0, 0), (0, 1, 0), (0, 2, 0)] [] [(4, [(2, 93, 0), (0, 0, 0), (0, 1, 0), (0, 2, 1)], [], [(0, 0, 9), (1, 0, 9), (2, 0, 9)], [], [], [])] (by decide +kernel) (ρ0 := (fun s => [x0, x1, x2].getD s 0)) hB eF trivial ⟨rfl, ⟨rfl, ⟨rfl, ⟨rfl, trivial⟩⟩⟩⟩ trivial ?_
  refine List.forall_mem_cons.mpr ⟨?_, fun _ h => absurd h List.not_mem_nil⟩
  · intro ρ τ Lc stc hx g1 g2 g3 g4 g5 g6 g7 g8
    have e0 : ρ 0 = x0 := hx 0 (by decide)
    have e1 : ρ 1 = x1 := hx 1 (by decide)
    have e2 : ρ 2 = x2 := hx 2 (by decide)
    subst e0
    subst e1
    subst e2
    have g7 := g7 (by decide)
    match Lc, stc, g7, g8 with
    | [v0, v1, v2, v3], [], ⟨hv0, hv1, hv2, hv3, _⟩, _ =>
      cases hv0
      cases hv1
      cases hv2
      cases hv3
      exact l0 τ ρ  g1 g2 g3 g4 g5 g6
set_option maxRecDepth 100000 in
theorem ql_h22 {σ : pm_S} {Q : Option Value → pm_S → Prop} (x0 x1 : Int) (v3 : Value) (hv3 : v3.category = 1) (hB : an_GB pm_B σ) (eF : (0 ≤ x0 ∧ x0 ≤ 9) ∧ (0 ≤ x1 ∧ x1 ≤ 10) ∧ True)
    (l0 : ∀ (τ : pm_S) (y : Nat → Int), an_GB pm_B τ → FQ [] σ τ → ((0 ≤ x0 ∧ x0 ≤ 9) ∧ (0 ≤ x1 ∧ x1 ≤ 10) ∧ True) → (True) → (True) → (True) → Q (some (.int (Int32.ofInt (x1)))) τ)
    : Ok 200 3 22 [.ref 93, .int (Int32.ofInt (x0)), .int (Int32.ofInt (x1)), v3] [] σ Q := by
  refine an_seg (B := pm_B) (F := []) (T := [100]) (S := []) (fun _ h => absurd h List.not_mem_nil) (k := 200) (d := 2) (cs := []) 4 22 2 [(0, 0, 9), (1, 0, 10)] [] [(2, 93, 0), (0, 0, 0), (0, 1, 0), (5, 0, 0)] [] [(9999, [], [(0, 1, 0)], [(0, 0, 9), (1, 0, 10)], [], [], [])] (by decide +kernel) (ρ0 := (fun s => [x0, x1].getD s 0)) hB eF trivial ⟨rfl, ⟨rfl, ⟨rfl, ⟨hv3, trivial⟩⟩⟩⟩ trivial ?_
  refine List.forall_mem_cons.mpr ⟨?_, fun _ h => absurd h List.not_mem_nil⟩
  · intro ρ τ Lc stc hx g1 g2 g3 g4 g5 g6 g7 g8
    have e0 : ρ 0 = x0 := hx 0 (by decide)
    have e1 : ρ 1 = x1 := hx 1 (by decide)
    subst e0
    subst e1
    match stc, g8 with
    | [_], ⟨h, _⟩ => cases h; exact l0 τ ρ g1 g2 g3 g4 g5 g6
set_option maxRecDepth 100000 in
theorem pl_h0 {σ : pm_S} {Q : Option Value → pm_S → Prop} (x0 : Int) (v2 : Value) (v3 : Value) (hv2 : v2.category = 1) (hv3 : v3.category = 1) (hB : an_GB pm_B σ) (eF : (0 ≤ x0 ∧ x0 ≤ 9) ∧ True)
    (l0 : ∀ (τ : pm_S) (y : Nat → Int), an_GB pm_B τ → FQ [] σ τ → ((0 ≤ x0 ∧ x0 ≤ 9) ∧ True) → (True) → (True) → (True) → Ok 64 3 4 [.ref 7, .int (Int32.ofInt (x0)), .int (Int32.ofInt 0), .int (Int32.ofInt 0)] [] τ Q)
    : Ok 64 3 0 [.ref 7, .int (Int32.ofInt (x0)), v2, v3] [] σ Q := by
  refine an_seg (B := pm_B) (F := []) (T := [12]) (S := []) (fun _ h => absurd h List.not_mem_nil) (k := 64) (d := 2) (cs := [4]) 6 0 1 [(0, 0, 9)] [] [(2, 7, 0), (0, 0, 0), (5, 0, 0), (5, 0, 0)] [] [(4, [(2, 7, 0), (0, 0, 0), (1, 0, 0), (1, 0, 0)], [], [(0, 0, 9)], [], [], [])] (by decide +kernel) (ρ0 := (fun s => [x0].getD s 0)) hB eF trivial ⟨rfl, ⟨rfl, ⟨hv2, ⟨hv3, trivial⟩⟩⟩⟩ trivial ?_
  refine List.forall_mem_cons.mpr ⟨?_, fun _ h => absurd h List.not_mem_nil⟩
  · intro ρ τ Lc stc hx g1 g2 g3 g4 g5 g6 g7 g8
    have e0 : ρ 0 = x0 := hx 0 (by decide)
    subst e0
    have g7 := g7 (by decide)
    match Lc, stc, g7, g8 with
    | [v0, v1, v2, v3], [], ⟨hv0, hv1, hv2, hv3, _⟩, _ =>
      cases hv0
      cases hv1
      cases hv2
      cases hv3
      exact l0 τ ρ  g1 g2 g3 g4 g5 g6
set_option maxRecDepth 100000 in
theorem pl_h4 {σ : pm_S} {Q : Option Value → pm_S → Prop} (x0 x1 x2 x3 : Int)  (hB : an_GB pm_B σ) (eF : (0 ≤ x0 ∧ x0 ≤ 9) ∧ (0 ≤ x1 ∧ x1 ≤ 10) ∧ (0 ≤ x2 ∧ x2 ≤ 10) ∧ (0 ≤ x3 ∧ x3 ≤ 10) ∧ True) (eC : (σ.1 7 0).toInt = x3 ∧ True)
    (l0 : ∀ (τ : pm_S) (y : Nat → Int), an_GB pm_B τ → FQ [] σ τ → ((0 ≤ x0 ∧ x0 ≤ 9) ∧ (0 ≤ x1 ∧ x1 ≤ 10) ∧ (0 ≤ x2 ∧ x2 ≤ 10) ∧ (0 ≤ x3 ∧ x3 ≤ 10) ∧ True) → (True) → (True) → ((τ.1 7 0).toInt = x3 ∧ True) → Ok 64 3 7 [.ref 7, .int (Int32.ofInt (x0)), .int (Int32.ofInt (x1)), .int (Int32.ofInt (x2))] [.int (Int32.ofInt (x3)), .int (Int32.ofInt (x2))] τ Q)
    : Ok 64 3 4 [.ref 7, .int (Int32.ofInt (x0)), .int (Int32.ofInt (x1)), .int (Int32.ofInt (x2))] [] σ Q := by
  refine an_seg (B := pm_B) (F := []) (T := [12]) (S := []) (fun _ h => absurd h List.not_mem_nil) (k := 64) (d := 2) (cs := [7]) 5 4 4 [(0, 0, 9), (1, 0, 10), (2, 0, 10), (3, 0, 10)] [(7, (1, 0, 0), (0, 3, 0))] [(2, 7, 0), (0, 0, 0), (0, 1, 0), (0, 2, 0)] [] [(7, [(2, 7, 0), (0, 0, 0), (0, 1, 0), (0, 2, 0)], [(0, 3, 0), (0, 2, 0)], [(0, 0, 9), (1, 0, 10), (2, 0, 10), (3, 0, 10)], [], [], [(7, (1, 0, 0), (0, 3, 0))])] (by decide +kernel) (ρ0 := (fun s => [x0, x1, x2, x3].getD s 0)) hB eF eC ⟨rfl, ⟨rfl, ⟨rfl, ⟨rfl, trivial⟩⟩⟩⟩ trivial ?_
  refine List.forall_mem_cons.mpr ⟨?_, fun _ h => absurd h List.not_mem_nil⟩
  · intro ρ τ Lc stc hx g1 g2 g3 g4 g5 g6 g7 g8
    have e0 : ρ 0 = x0 := hx 0 (by decide)
    have e1 : ρ 1 = x1 := hx 1 (by decide)
    have e2 : ρ 2 = x2 := hx 2 (by decide)
    have e3 : ρ 3 = x3 := hx 3 (by decide)
    subst e0
    subst e1
    subst e2
    subst e3
    have g7 := g7 (by decide)
    match Lc, stc, g7, g8 with
    | [v0, v1, v2, v3], [w0, w1], ⟨hv0, hv1, hv2, hv3, _⟩, ⟨hw0, hw1, _⟩ =>
      cases hv0
      cases hv1
      cases hv2
      cases hv3
      cases hw0
      cases hw1
      exact l0 τ ρ  g1 g2 g3 g4 g5 g6
set_option maxRecDepth 100000 in
theorem pl_h8 {σ : pm_S} {Q : Option Value → pm_S → Prop} (x0 x1 x2 x3 : Int)  (hB : an_GB pm_B σ) (eF : (0 ≤ x0 ∧ x0 ≤ 9) ∧ (0 ≤ x1 ∧ x1 ≤ 9) ∧ (0 ≤ x2 ∧ x2 ≤ 9) ∧ ((-1) ≤ x3 ∧ x3 ≤ 9) ∧ True) (eC : (σ.1 12 (x2).toNat).toInt = x3 ∧ True)
    (l0 : ∀ (τ : pm_S) (y : Nat → Int), an_GB pm_B τ → FQ [] σ τ → ((0 ≤ x0 ∧ x0 ≤ 9) ∧ (0 ≤ x1 ∧ x1 ≤ 9) ∧ (0 ≤ x2 ∧ x2 ≤ 9) ∧ ((-1) ≤ x3 ∧ x3 ≤ 9) ∧ True) → (True) → (True) → ((τ.1 12 (x2).toNat).toInt = x3 ∧ True) → Ok 64 3 14 [.ref 7, .int (Int32.ofInt (x0)), .int (Int32.ofInt (x1)), .int (Int32.ofInt (x2))] [.int (Int32.ofInt (x0)), .int (Int32.ofInt (x3)), .int (Int32.ofInt (x1))] τ Q)
    : Ok 64 3 8 [.ref 7, .int (Int32.ofInt (x0)), .int (Int32.ofInt (x1)), .int (Int32.ofInt (x2))] [] σ Q := by
  refine an_seg (B := pm_B) (F := []) (T := [12]) (S := []) (fun _ h => absurd h List.not_mem_nil) (k := 64) (d := 2) (cs := [14]) 8 8 4 [(0, 0, 9), (1, 0, 9), (2, 0, 9), (3, (-1), 9)] [(12, (0, 2, 0), (0, 3, 0))] [(2, 7, 0), (0, 0, 0), (0, 1, 0), (0, 2, 0)] [] [(14, [(2, 7, 0), (0, 0, 0), (0, 1, 0), (0, 2, 0)], [(0, 0, 0), (0, 3, 0), (0, 1, 0)], [(0, 0, 9), (1, 0, 9), (2, 0, 9), (3, (-1), 9)], [], [], [(12, (0, 2, 0), (0, 3, 0))])] (by decide +kernel) (ρ0 := (fun s => [x0, x1, x2, x3].getD s 0)) hB eF eC ⟨rfl, ⟨rfl, ⟨rfl, ⟨rfl, trivial⟩⟩⟩⟩ trivial ?_
  refine List.forall_mem_cons.mpr ⟨?_, fun _ h => absurd h List.not_mem_nil⟩
  · intro ρ τ Lc stc hx g1 g2 g3 g4 g5 g6 g7 g8
    have e0 : ρ 0 = x0 := hx 0 (by decide)
    have e1 : ρ 1 = x1 := hx 1 (by decide)
    have e2 : ρ 2 = x2 := hx 2 (by decide)
    have e3 : ρ 3 = x3 := hx 3 (by decide)
    subst e0
    subst e1
    subst e2
    subst e3
    have g7 := g7 (by decide)
    match Lc, stc, g7, g8 with
    | [v0, v1, v2, v3], [w0, w1, w2], ⟨hv0, hv1, hv2, hv3, _⟩, ⟨hw0, hw1, hw2, _⟩ =>
      cases hv0
      cases hv1
      cases hv2
      cases hv3
      cases hw0
      cases hw1
      cases hw2
      exact l0 τ ρ  g1 g2 g3 g4 g5 g6
set_option maxRecDepth 100000 in
theorem pl_h15 {σ : pm_S} {Q : Option Value → pm_S → Prop} (x0 x1 x2 : Int)  (hB : an_GB pm_B σ) (eF : (0 ≤ x0 ∧ x0 ≤ 9) ∧ (0 ≤ x1 ∧ x1 ≤ 9) ∧ (0 ≤ x2 ∧ x2 ≤ 9) ∧ True)
    (l0 : ∀ (τ : pm_S) (y : Nat → Int), an_GB pm_B τ → FQ [] σ τ → ((0 ≤ x0 ∧ x0 ≤ 9) ∧ (0 ≤ x1 ∧ x1 ≤ 9) ∧ (0 ≤ x2 ∧ x2 ≤ 9) ∧ True) → (True) → (True) → (True) → Ok 64 3 4 [.ref 7, .int (Int32.ofInt (x0)), .int (Int32.ofInt (x1 + 1)), .int (Int32.ofInt (x2 + 1))] [] τ Q)
    : Ok 64 3 15 [.ref 7, .int (Int32.ofInt (x0)), .int (Int32.ofInt (x1)), .int (Int32.ofInt (x2))] [.int (Int32.ofInt (x1))] σ Q := by
  refine an_seg (B := pm_B) (F := []) (T := [12]) (S := []) (fun _ h => absurd h List.not_mem_nil) (k := 64) (d := 2) (cs := [4]) 8 15 3 [(0, 0, 9), (1, 0, 9), (2, 0, 9)] [] [(2, 7, 0), (0, 0, 0), (0, 1, 0), (0, 2, 0)] [(0, 1, 0)] [(4, [(2, 7, 0), (0, 0, 0), (0, 1, 1), (0, 2, 1)], [], [(0, 0, 9), (1, 0, 9), (2, 0, 9)], [], [], [])] (by decide +kernel) (ρ0 := (fun s => [x0, x1, x2].getD s 0)) hB eF trivial ⟨rfl, ⟨rfl, ⟨rfl, ⟨rfl, trivial⟩⟩⟩⟩ ⟨rfl, trivial⟩ ?_
  refine List.forall_mem_cons.mpr ⟨?_, fun _ h => absurd h List.not_mem_nil⟩
  · intro ρ τ Lc stc hx g1 g2 g3 g4 g5 g6 g7 g8
    have e0 : ρ 0 = x0 := hx 0 (by decide)
    have e1 : ρ 1 = x1 := hx 1 (by decide)
    have e2 : ρ 2 = x2 := hx 2 (by decide)
    subst e0
    subst e1
    subst e2
    have g7 := g7 (by decide)
    match Lc, stc, g7, g8 with
    | [v0, v1, v2, v3], [], ⟨hv0, hv1, hv2, hv3, _⟩, _ =>
      cases hv0
      cases hv1
      cases hv2
      cases hv3
      exact l0 τ ρ  g1 g2 g3 g4 g5 g6
set_option maxRecDepth 100000 in
theorem pl_h17 {σ : pm_S} {Q : Option Value → pm_S → Prop} (x0 x1 x2 : Int)  (hB : an_GB pm_B σ) (eF : (0 ≤ x0 ∧ x0 ≤ 9) ∧ (0 ≤ x1 ∧ x1 ≤ 9) ∧ (0 ≤ x2 ∧ x2 ≤ 9) ∧ True)
    (l0 : ∀ (τ : pm_S) (y : Nat → Int), an_GB pm_B τ → FQ [] σ τ → ((0 ≤ x0 ∧ x0 ≤ 9) ∧ (0 ≤ x1 ∧ x1 ≤ 9) ∧ (0 ≤ x2 ∧ x2 ≤ 9) ∧ True) → (True) → (True) → (True) → Ok 64 3 4 [.ref 7, .int (Int32.ofInt (x0)), .int (Int32.ofInt (x1)), .int (Int32.ofInt (x2 + 1))] [] τ Q)
    : Ok 64 3 17 [.ref 7, .int (Int32.ofInt (x0)), .int (Int32.ofInt (x1)), .int (Int32.ofInt (x2))] [.int (Int32.ofInt (x1))] σ Q := by
  refine an_seg (B := pm_B) (F := []) (T := [12]) (S := []) (fun _ h => absurd h List.not_mem_nil) (k := 64) (d := 2) (cs := [4]) 7 17 3 [(0, 0, 9), (1, 0, 9), (2, 0, 9)] [] [(2, 7, 0), (0, 0, 0), (0, 1, 0), (0, 2, 0)] [(0, 1, 0)] [(4, [(2, 7, 0), (0, 0, 0), (0, 1, 0), (0, 2, 1)], [], [(0, 0, 9), (1, 0, 9), (2, 0, 9)], [], [], [])] (by decide +kernel) (ρ0 := (fun s => [x0, x1, x2].getD s 0)) hB eF trivial ⟨rfl, ⟨rfl, ⟨rfl, ⟨rfl, trivial⟩⟩⟩⟩ ⟨rfl, trivial⟩ ?_
  refine List.forall_mem_cons.mpr ⟨?_, fun _ h => absurd h List.not_mem_nil⟩
  · intro ρ τ Lc stc hx g1 g2 g3 g4 g5 g6 g7 g8
    have e0 : ρ 0 = x0 := hx 0 (by decide)
    have e1 : ρ 1 = x1 := hx 1 (by decide)
    have e2 : ρ 2 = x2 := hx 2 (by decide)
    subst e0
    subst e1
    subst e2
    have g7 := g7 (by decide)
    match Lc, stc, g7, g8 with
    | [v0, v1, v2, v3], [], ⟨hv0, hv1, hv2, hv3, _⟩, _ =>
      cases hv0
      cases hv1
      cases hv2
      cases hv3
      exact l0 τ ρ  g1 g2 g3 g4 g5 g6
set_option maxRecDepth 100000 in
theorem pl_h22 {σ : pm_S} {Q : Option Value → pm_S → Prop} (x0 x1 : Int) (v3 : Value) (hv3 : v3.category = 1) (hB : an_GB pm_B σ) (eF : (0 ≤ x0 ∧ x0 ≤ 9) ∧ (0 ≤ x1 ∧ x1 ≤ 10) ∧ True)
    (l0 : ∀ (τ : pm_S) (y : Nat → Int), an_GB pm_B τ → FQ [] σ τ → ((0 ≤ x0 ∧ x0 ≤ 9) ∧ (0 ≤ x1 ∧ x1 ≤ 10) ∧ True) → (True) → (True) → (True) → Q (some (.int (Int32.ofInt (x1)))) τ)
    : Ok 64 3 22 [.ref 7, .int (Int32.ofInt (x0)), .int (Int32.ofInt (x1)), v3] [] σ Q := by
  refine an_seg (B := pm_B) (F := []) (T := [12]) (S := []) (fun _ h => absurd h List.not_mem_nil) (k := 64) (d := 2) (cs := []) 4 22 2 [(0, 0, 9), (1, 0, 10)] [] [(2, 7, 0), (0, 0, 0), (0, 1, 0), (5, 0, 0)] [] [(9999, [], [(0, 1, 0)], [(0, 0, 9), (1, 0, 10)], [], [], [])] (by decide +kernel) (ρ0 := (fun s => [x0, x1].getD s 0)) hB eF trivial ⟨rfl, ⟨rfl, ⟨rfl, ⟨hv3, trivial⟩⟩⟩⟩ trivial ?_
  refine List.forall_mem_cons.mpr ⟨?_, fun _ h => absurd h List.not_mem_nil⟩
  · intro ρ τ Lc stc hx g1 g2 g3 g4 g5 g6 g7 g8
    have e0 : ρ 0 = x0 := hx 0 (by decide)
    have e1 : ρ 1 = x1 := hx 1 (by decide)
    subst e0
    subst e1
    match stc, g8 with
    | [_], ⟨h, _⟩ => cases h; exact l0 τ ρ g1 g2 g3 g4 g5 g6
set_option maxRecDepth 100000 in
theorem ql_l0 {σ : pm_S} {Q : Option Value → pm_S → Prop} (x0 x1 x2 x3 x4 x5 x6 x7 x8 : Int) (v2 : Value) (hv2 : v2.category = 1) (hB : an_GB pm_B σ) (eF : (0 ≤ x0 ∧ x0 ≤ 29) ∧ ((-2147483648) ≤ x1 ∧ x1 ≤ 2147483647) ∧ ((-2147483648) ≤ x2 ∧ x2 ≤ 2147483647) ∧ (0 ≤ x3 ∧ x3 ≤ 9) ∧ (0 ≤ x4 ∧ x4 ≤ 9) ∧ (0 ≤ x5 ∧ x5 ≤ 9) ∧ ((-2147483648) ≤ x6 ∧ x6 ≤ 2147483647) ∧ ((-2147483648) ≤ x7 ∧ x7 ≤ 2147483647) ∧ ((-2147483648) ≤ x8 ∧ x8 ≤ 2147483647) ∧ True) (eC : (σ.1 103 (x0).toNat).toInt = x1 ∧ (σ.1 105 (x0).toNat).toInt = x2 ∧ (σ.1 101 (x0).toNat).toInt = x3 ∧ (σ.1 104 (x0).toNat).toInt = x4 ∧ (σ.1 102 (x0).toNat).toInt = x5 ∧ (σ.1 97 (x3).toNat).toInt = x6 ∧ (σ.1 98 (x3).toNat).toInt = x7 ∧ (σ.1 93 19).toInt = x8 ∧ True)
    (l0 : ∀ (τ : pm_S) (y : Nat → Int) (v2 : Value), v2.category = 1 → an_GB pm_B τ → FQ [(122, 9999)] σ τ → ((0 ≤ x0 ∧ x0 ≤ 29) ∧ ((-2147483648) ≤ x1 ∧ x1 ≤ 2147483647) ∧ ((-2147483648) ≤ x2 ∧ x2 ≤ 2147483647) ∧ (0 ≤ x3 ∧ x3 ≤ 9) ∧ (0 ≤ x4 ∧ x4 ≤ 9) ∧ (0 ≤ x5 ∧ x5 ≤ 9) ∧ ((-2147483648) ≤ x6 ∧ x6 ≤ 2147483647) ∧ ((-2147483648) ≤ x7 ∧ x7 ≤ 2147483647) ∧ ((-2147483648) ≤ x8 ∧ x8 ≤ 2147483647) ∧ ((-2147483648) ≤ y 9 ∧ y 9 ≤ 2147483647) ∧ True) → (True) → ((an_f 1 (Int32.ofInt (x8)) (Int32.ofInt (x2))).toInt = y 9 ∧ True) → ((τ.1 93 19).toInt = x8 ∧ (τ.1 97 (x3).toNat).toInt = x6 ∧ (τ.1 98 (x3).toNat).toInt = x7 ∧ (τ.1 101 (x0).toNat).toInt = x3 ∧ (τ.1 102 (x0).toNat).toInt = x5 ∧ (τ.1 103 (x0).toNat).toInt = x1 ∧ (τ.1 104 (x0).toNat).toInt = x4 ∧ (τ.1 105 (x0).toNat).toInt = x2 ∧ (τ.1 122 0).toInt = x1 ∧ (τ.1 122 1).toInt = y 9 ∧ (τ.1 122 2).toInt = x6 ∧ (τ.1 122 3).toInt = x4 ∧ (τ.1 122 4).toInt = x7 ∧ True) → Ok 201 9 57 [.ref 93, .int (Int32.ofInt (x0)), v2] [.int (Int32.ofInt (x4)), .ref 93, .int (Int32.ofInt 5), .ref 122] τ Q)
    : Ok 201 9 0 [.ref 93, .int (Int32.ofInt (x0)), v2] [] σ Q := by
  refine an_seg (B := pm_B) (F := [(122, 9999)]) (T := [97, 98, 101, 102, 103, 104, 105, 122]) (S := []) (fun _ h => absurd h List.not_mem_nil) (k := 201) (d := 8) (cs := [57]) 59 0 9 [(0, 0, 29), (1, (-2147483648), 2147483647), (2, (-2147483648), 2147483647), (3, 0, 9), (4, 0, 9), (5, 0, 9), (6, (-2147483648), 2147483647), (7, (-2147483648), 2147483647), (8, (-2147483648), 2147483647)] [(103, (0, 0, 0), (0, 1, 0)), (105, (0, 0, 0), (0, 2, 0)), (101, (0, 0, 0), (0, 3, 0)), (104, (0, 0, 0), (0, 4, 0)), (102, (0, 0, 0), (0, 5, 0)), (97, (0, 3, 0), (0, 6, 0)), (98, (0, 3, 0), (0, 7, 0)), (93, (1, 0, 19), (0, 8, 0))] [(2, 93, 0), (0, 0, 0), (5, 0, 0)] [] [(57, [(2, 93, 0), (0, 0, 0), (5, 0, 0)], [(0, 4, 0), (2, 93, 0), (1, 0, 5), (2, 122, 0)], [(0, 0, 29), (1, (-2147483648), 2147483647), (2, (-2147483648), 2147483647), (3, 0, 9), (4, 0, 9), (5, 0, 9), (6, (-2147483648), 2147483647), (7, (-2147483648), 2147483647), (8, (-2147483648), 2147483647), (9, (-2147483648), 2147483647)], [], [(1, (0, 8, 0), (0, 2, 0), 9)], [(93, (1, 0, 19), (0, 8, 0)), (97, (0, 3, 0), (0, 6, 0)), (98, (0, 3, 0), (0, 7, 0)), (101, (0, 0, 0), (0, 3, 0)), (102, (0, 0, 0), (0, 5, 0)), (103, (0, 0, 0), (0, 1, 0)), (104, (0, 0, 0), (0, 4, 0)), (105, (0, 0, 0), (0, 2, 0)), (122, (1, 0, 0), (0, 1, 0)), (122, (1, 0, 1), (0, 9, 0)), (122, (1, 0, 2), (0, 6, 0)), (122, (1, 0, 3), (0, 4, 0)), (122, (1, 0, 4), (0, 7, 0))])] (by decide +kernel) (ρ0 := (fun s => [x0, x1, x2, x3, x4, x5, x6, x7, x8].getD s 0)) hB eF eC ⟨rfl, ⟨rfl, ⟨hv2, trivial⟩⟩⟩ trivial ?_
  refine List.forall_mem_cons.mpr ⟨?_, fun _ h => absurd h List.not_mem_nil⟩
  · intro ρ τ Lc stc hx g1 g2 g3 g4 g5 g6 g7 g8
    have e0 : ρ 0 = x0 := hx 0 (by decide)
    have e1 : ρ 1 = x1 := hx 1 (by decide)
    have e2 : ρ 2 = x2 := hx 2 (by decide)
    have e3 : ρ 3 = x3 := hx 3 (by decide)
    have e4 : ρ 4 = x4 := hx 4 (by decide)
    have e5 : ρ 5 = x5 := hx 5 (by decide)
    have e6 : ρ 6 = x6 := hx 6 (by decide)
    have e7 : ρ 7 = x7 := hx 7 (by decide)
    have e8 : ρ 8 = x8 := hx 8 (by decide)
    subst e0
    subst e1
    subst e2
    subst e3
    subst e4
    subst e5
    subst e6
    subst e7
    subst e8
    have g7 := g7 (by decide)
    match Lc, stc, g7, g8 with
    | [v0, v1, v2], [w0, w1, w2, w3], ⟨hv0, hv1, hv2, _⟩, ⟨hw0, hw1, hw2, hw3, _⟩ =>
      cases hv0
      cases hv1
      cases hw0
      cases hw1
      cases hw2
      cases hw3
      exact l0 τ ρ v2 hv2 g1 g2 g3 g4 g5 g6
set_option maxRecDepth 100000 in
theorem ql_l58 {σ : pm_S} {Q : Option Value → pm_S → Prop} (x0 x1 x2 x3 x4 x5 x6 x7 x8 x9 x10 x11 x12 x13 x14 : Int) (v2 : Value) (hv2 : v2.category = 1) (hB : an_GB pm_B σ) (eF : (0 ≤ x0 ∧ x0 ≤ 29) ∧ ((-2147483648) ≤ x1 ∧ x1 ≤ 2147483647) ∧ ((-2147483648) ≤ x2 ∧ x2 ≤ 2147483647) ∧ (0 ≤ x3 ∧ x3 ≤ 9) ∧ (0 ≤ x4 ∧ x4 ≤ 9) ∧ (0 ≤ x5 ∧ x5 ≤ 9) ∧ ((-2147483648) ≤ x6 ∧ x6 ≤ 2147483647) ∧ ((-2147483648) ≤ x7 ∧ x7 ≤ 2147483647) ∧ ((-2147483648) ≤ x8 ∧ x8 ≤ 2147483647) ∧ (0 ≤ x9 ∧ x9 ≤ 10) ∧ ((-2147483648) ≤ x10 ∧ x10 ≤ 2147483647) ∧ ((-2147483648) ≤ x11 ∧ x11 ≤ 2147483647) ∧ ((-2147483648) ≤ x12 ∧ x12 ≤ 2147483647) ∧ ((-2147483648) ≤ x13 ∧ x13 ≤ 2147483647) ∧ ((-2147483648) ≤ x14 ∧ x14 ≤ 2147483647) ∧ True) (eC : (σ.1 103 (x0).toNat).toInt = x1 ∧ (σ.1 105 (x0).toNat).toInt = x2 ∧ (σ.1 101 (x0).toNat).toInt = x3 ∧ (σ.1 104 (x0).toNat).toInt = x4 ∧ (σ.1 102 (x0).toNat).toInt = x5 ∧ (σ.1 97 (x3).toNat).toInt = x6 ∧ (σ.1 98 (x3).toNat).toInt = x7 ∧ (σ.1 93 19).toInt = x8 ∧ (σ.1 122 0).toInt = x10 ∧ (σ.1 122 1).toInt = x11 ∧ (σ.1 122 2).toInt = x12 ∧ (σ.1 122 3).toInt = x13 ∧ (σ.1 122 4).toInt = x14 ∧ True)
    (l0 : ∀ (τ : pm_S) (y : Nat → Int), an_GB pm_B τ → FQ [(122, 9999)] σ τ → ((0 ≤ x0 ∧ x0 ≤ 29) ∧ ((-2147483648) ≤ x1 ∧ x1 ≤ 2147483647) ∧ ((-2147483648) ≤ x2 ∧ x2 ≤ 2147483647) ∧ (0 ≤ x3 ∧ x3 ≤ 9) ∧ (0 ≤ x4 ∧ x4 ≤ 9) ∧ (0 ≤ x5 ∧ x5 ≤ 9) ∧ ((-2147483648) ≤ x6 ∧ x6 ≤ 2147483647) ∧ ((-2147483648) ≤ x7 ∧ x7 ≤ 2147483647) ∧ ((-2147483648) ≤ x8 ∧ x8 ≤ 2147483647) ∧ (0 ≤ x9 ∧ x9 ≤ 10) ∧ ((-2147483648) ≤ x10 ∧ x10 ≤ 2147483647) ∧ ((-2147483648) ≤ x11 ∧ x11 ≤ 2147483647) ∧ ((-2147483648) ≤ x12 ∧ x12 ≤ 2147483647) ∧ ((-2147483648) ≤ x13 ∧ x13 ≤ 2147483647) ∧ ((-2147483648) ≤ x14 ∧ x14 ≤ 2147483647) ∧ True) → (True) → (True) → ((τ.1 93 19).toInt = x8 ∧ (τ.1 97 (x3).toNat).toInt = x6 ∧ (τ.1 98 (x3).toNat).toInt = x7 ∧ (τ.1 101 (x0).toNat).toInt = x3 ∧ (τ.1 102 (x0).toNat).toInt = x5 ∧ (τ.1 103 (x0).toNat).toInt = x1 ∧ (τ.1 104 (x0).toNat).toInt = x4 ∧ (τ.1 105 (x0).toNat).toInt = x2 ∧ (τ.1 122 0).toInt = x10 ∧ (τ.1 122 1).toInt = x11 ∧ (τ.1 122 2).toInt = x12 ∧ (τ.1 122 3).toInt = x13 ∧ (τ.1 122 4).toInt = x14 ∧ (τ.1 122 5).toInt = x9 ∧ (τ.1 122 6).toInt = x3 ∧ (τ.1 122 7).toInt = x5 ∧ (τ.1 122 8).toInt = x8 ∧ True) → Ok 201 9 83 [.ref 93, .int (Int32.ofInt (x0)), .int (Int32.ofInt 0)] [] τ Q)
    : Ok 201 9 58 [.ref 93, .int (Int32.ofInt (x0)), v2] [.int (Int32.ofInt (x9)), .int (Int32.ofInt 5), .ref 122] σ Q := by
  refine an_seg (B := pm_B) (F := [(122, 9999)]) (T := [97, 98, 101, 102, 103, 104, 105, 122]) (S := []) (fun _ h => absurd h List.not_mem_nil) (k := 201) (d := 8) (cs := [83]) 27 58 15 [(0, 0, 29), (1, (-2147483648), 2147483647), (2, (-2147483648), 2147483647), (3, 0, 9), (4, 0, 9), (5, 0, 9), (6, (-2147483648), 2147483647), (7, (-2147483648), 2147483647), (8, (-2147483648), 2147483647), (9, 0, 10), (10, (-2147483648), 2147483647), (11, (-2147483648), 2147483647), (12, (-2147483648), 2147483647), (13, (-2147483648), 2147483647), (14, (-2147483648), 2147483647)] [(103, (0, 0, 0), (0, 1, 0)), (105, (0, 0, 0), (0, 2, 0)), (101, (0, 0, 0), (0, 3, 0)), (104, (0, 0, 0), (0, 4, 0)), (102, (0, 0, 0), (0, 5, 0)), (97, (0, 3, 0), (0, 6, 0)), (98, (0, 3, 0), (0, 7, 0)), (93, (1, 0, 19), (0, 8, 0)), (122, (1, 0, 0), (0, 10, 0)), (122, (1, 0, 1), (0, 11, 0)), (122, (1, 0, 2), (0, 12, 0)), (122, (1, 0, 3), (0, 13, 0)), (122, (1, 0, 4), (0, 14, 0))] [(2, 93, 0), (0, 0, 0), (5, 0, 0)] [(0, 9, 0), (1, 0, 5), (2, 122, 0)] [(83, [(2, 93, 0), (0, 0, 0), (1, 0, 0)], [], [(0, 0, 29), (1, (-2147483648), 2147483647), (2, (-2147483648), 2147483647), (3, 0, 9), (4, 0, 9), (5, 0, 9), (6, (-2147483648), 2147483647), (7, (-2147483648), 2147483647), (8, (-2147483648), 2147483647), (9, 0, 10), (10, (-2147483648), 2147483647), (11, (-2147483648), 2147483647), (12, (-2147483648), 2147483647), (13, (-2147483648), 2147483647), (14, (-2147483648), 2147483647)], [], [], [(93, (1, 0, 19), (0, 8, 0)), (97, (0, 3, 0), (0, 6, 0)), (98, (0, 3, 0), (0, 7, 0)), (101, (0, 0, 0), (0, 3, 0)), (102, (0, 0, 0), (0, 5, 0)), (103, (0, 0, 0), (0, 1, 0)), (104, (0, 0, 0), (0, 4, 0)), (105, (0, 0, 0), (0, 2, 0)), (122, (1, 0, 0), (0, 10, 0)), (122, (1, 0, 1), (0, 11, 0)), (122, (1, 0, 2), (0, 12, 0)), (122, (1, 0, 3), (0, 13, 0)), (122, (1, 0, 4), (0, 14, 0)), (122, (1, 0, 5), (0, 9, 0)), (122, (1, 0, 6), (0, 3, 0)), (122, (1, 0, 7), (0, 5, 0)), (122, (1, 0, 8), (0, 8, 0))])] (by decide +kernel) (ρ0 := (fun s => [x0, x1, x2, x3, x4, x5, x6, x7, x8, x9, x10, x11, x12, x13, x14].getD s 0)) hB eF eC ⟨rfl, ⟨rfl, ⟨hv2, trivial⟩⟩⟩ ⟨rfl, ⟨rfl, ⟨rfl, trivial⟩⟩⟩ ?_
  refine List.forall_mem_cons.mpr ⟨?_, fun _ h => absurd h List.not_mem_nil⟩
  · intro ρ τ Lc stc hx g1 g2 g3 g4 g5 g6 g7 g8
    have e0 : ρ 0 = x0 := hx 0 (by decide)
    have e1 : ρ 1 = x1 := hx 1 (by decide)
    have e2 : ρ 2 = x2 := hx 2 (by decide)
    have e3 : ρ 3 = x3 := hx 3 (by decide)
    have e4 : ρ 4 = x4 := hx 4 (by decide)
    have e5 : ρ 5 = x5 := hx 5 (by decide)
    have e6 : ρ 6 = x6 := hx 6 (by decide)
    have e7 : ρ 7 = x7 := hx 7 (by decide)
    have e8 : ρ 8 = x8 := hx 8 (by decide)
    have e9 : ρ 9 = x9 := hx 9 (by decide)
    have e10 : ρ 10 = x10 := hx 10 (by decide)
    have e11 : ρ 11 = x11 := hx 11 (by decide)
    have e12 : ρ 12 = x12 := hx 12 (by decide)
    have e13 : ρ 13 = x13 := hx 13 (by decide)
    have e14 : ρ 14 = x14 := hx 14 (by decide)
    subst e0
    subst e1
    subst e2
    subst e3
    subst e4
    subst e5
    subst e6
    subst e7
    subst e8
    subst e9
    subst e10
    subst e11
    subst e12
    subst e13
    subst e14
    have g7 := g7 (by decide)
    match Lc, stc, g7, g8 with
    | [v0, v1, v2], [], ⟨hv0, hv1, hv2, _⟩, _ =>
      cases hv0
      cases hv1
      cases hv2
      exact l0 τ ρ  g1 g2 g3 g4 g5 g6
set_option maxRecDepth 100000 in
theorem ql_l83 {σ : pm_S} {Q : Option Value → pm_S → Prop} (x0 x1 x2 : Int)  (hB : an_GB pm_B σ) (eF : (0 ≤ x0 ∧ x0 ≤ 29) ∧ (0 ≤ x1 ∧ x1 ≤ 16) ∧ (0 ≤ x2 ∧ x2 ≤ 16) ∧ True) (eC : (σ.1 93 36).toInt = x2 ∧ True)
    (l0 : ∀ (τ : pm_S) (y : Nat → Int), an_GB pm_B τ → FQ [] σ τ → ((0 ≤ x0 ∧ x0 ≤ 29) ∧ (0 ≤ x1 ∧ x1 ≤ 16) ∧ (0 ≤ x2 ∧ x2 ≤ 16) ∧ True) → (True) → (True) → ((τ.1 93 36).toInt = x2 ∧ True) → Ok 201 9 86 [.ref 93, .int (Int32.ofInt (x0)), .int (Int32.ofInt (x1))] [.int (Int32.ofInt (x2)), .int (Int32.ofInt (x1))] τ Q)
    : Ok 201 9 83 [.ref 93, .int (Int32.ofInt (x0)), .int (Int32.ofInt (x1))] [] σ Q := by
  refine an_seg (B := pm_B) (F := []) (T := []) (S := []) (fun _ h => absurd h List.not_mem_nil) (k := 201) (d := 8) (cs := [86]) 5 83 3 [(0, 0, 29), (1, 0, 16), (2, 0, 16)] [(93, (1, 0, 36), (0, 2, 0))] [(2, 93, 0), (0, 0, 0), (0, 1, 0)] [] [(86, [(2, 93, 0), (0, 0, 0), (0, 1, 0)], [(0, 2, 0), (0, 1, 0)], [(0, 0, 29), (1, 0, 16), (2, 0, 16)], [], [], [(93, (1, 0, 36), (0, 2, 0))])] (by decide +kernel) (ρ0 := (fun s => [x0, x1, x2].getD s 0)) hB eF eC ⟨rfl, ⟨rfl, ⟨rfl, trivial⟩⟩⟩ trivial ?_
  refine List.forall_mem_cons.mpr ⟨?_, fun _ h => absurd h List.not_mem_nil⟩
  · intro ρ τ Lc stc hx g1 g2 g3 g4 g5 g6 g7 g8
    have e0 : ρ 0 = x0 := hx 0 (by decide)
    have e1 : ρ 1 = x1 := hx 1 (by decide)
    have e2 : ρ 2 = x2 := hx 2 (by decide)
    subst e0
    subst e1
    subst e2
    have g7 := g7 (by decide)
    match Lc, stc, g7, g8 with
    | [v0, v1, v2], [w0, w1], ⟨hv0, hv1, hv2, _⟩, ⟨hw0, hw1, _⟩ =>
      cases hv0
      cases hv1
      cases hv2
      cases hw0
      cases hw1
      exact l0 τ ρ  g1 g2 g3 g4 g5 g6
set_option maxRecDepth 100000 in
theorem ql_l87 {σ : pm_S} {Q : Option Value → pm_S → Prop} (x0 x1 : Int)  (hB : an_GB pm_B σ) (eF : (0 ≤ x0 ∧ x0 ≤ 29) ∧ (0 ≤ x1 ∧ x1 ≤ 15) ∧ True)
    (l0 : ∀ (τ : pm_S) (y : Nat → Int), an_GB pm_B τ → FQ [] σ τ → ((0 ≤ x0 ∧ x0 ≤ 29) ∧ (0 ≤ x1 ∧ x1 ≤ 15) ∧ True) → (True) → (True) → (True) → Ok 201 9 90 [.ref 93, .int (Int32.ofInt (x0)), .int (Int32.ofInt (x1))] [.int (Int32.ofInt (x1)), .int (Int32.ofInt 0), .ref 93] τ Q)
    : Ok 201 9 87 [.ref 93, .int (Int32.ofInt (x0)), .int (Int32.ofInt (x1))] [] σ Q := by
  refine an_seg (B := pm_B) (F := []) (T := []) (S := []) (fun _ h => absurd h List.not_mem_nil) (k := 201) (d := 8) (cs := [90]) 5 87 2 [(0, 0, 29), (1, 0, 15)] [] [(2, 93, 0), (0, 0, 0), (0, 1, 0)] [] [(90, [(2, 93, 0), (0, 0, 0), (0, 1, 0)], [(0, 1, 0), (1, 0, 0), (2, 93, 0)], [(0, 0, 29), (1, 0, 15)], [], [], [])] (by decide +kernel) (ρ0 := (fun s => [x0, x1].getD s 0)) hB eF trivial ⟨rfl, ⟨rfl, ⟨rfl, trivial⟩⟩⟩ trivial ?_
  refine List.forall_mem_cons.mpr ⟨?_, fun _ h => absurd h List.not_mem_nil⟩
  · intro ρ τ Lc stc hx g1 g2 g3 g4 g5 g6 g7 g8
    have e0 : ρ 0 = x0 := hx 0 (by decide)
    have e1 : ρ 1 = x1 := hx 1 (by decide)
    subst e0
    subst e1
    have g7 := g7 (by decide)
    match Lc, stc, g7, g8 with
    | [v0, v1, v2], [w0, w1, w2], ⟨hv0, hv1, hv2, _⟩, ⟨hw0, hw1, hw2, _⟩ =>
      cases hv0
      cases hv1
      cases hv2
      cases hw0
      cases hw1
      cases hw2
      exact l0 τ ρ  g1 g2 g3 g4 g5 g6
set_option maxRecDepth 100000 in
theorem ql_l91 {σ : pm_S} {Q : Option Value → pm_S → Prop} (x0 x1 x2 x3 : Int)  (hB : an_GB pm_B σ) (eF : (0 ≤ x0 ∧ x0 ≤ 29) ∧ (0 ≤ x1 ∧ x1 ≤ 15) ∧ (0 ≤ x2 ∧ x2 ≤ 1) ∧ ((-2147483648) ≤ x3 ∧ x3 ≤ 2147483647) ∧ True) (eC : (σ.1 116 (x1).toNat).toInt = x3 ∧ True)
    (l0 : ∀ (τ : pm_S) (y : Nat → Int), an_GB pm_B τ → FQ [] σ τ → ((0 ≤ x0 ∧ x0 ≤ 29) ∧ (0 ≤ x1 ∧ x1 ≤ 15) ∧ (0 ≤ x2 ∧ x2 ≤ 0) ∧ ((-2147483648) ≤ x3 ∧ x3 ≤ 2147483647) ∧ True) → (True) → (True) → ((τ.1 116 (x1).toNat).toInt = x3 ∧ True) → Ok 201 9 83 [.ref 93, .int (Int32.ofInt (x0)), .int (Int32.ofInt (x1 + 1))] [] τ Q)
    (l1 : ∀ (τ : pm_S) (y : Nat → Int), an_GB pm_B τ → FQ [] σ τ → ((0 ≤ x0 ∧ x0 ≤ 29) ∧ (0 ≤ x1 ∧ x1 ≤ 15) ∧ (1 ≤ x2 ∧ x2 ≤ 1) ∧ ((-2147483648) ≤ x3 ∧ x3 ≤ 2147483647) ∧ True) → (x3 ≠ 0 ∧ True) → (True) → ((τ.1 116 (x1).toNat).toInt = x3 ∧ True) → Q (some (.int (Int32.ofInt 0))) τ)
    (l2 : ∀ (τ : pm_S) (y : Nat → Int), an_GB pm_B τ → FQ [] σ τ → ((0 ≤ x0 ∧ x0 ≤ 29) ∧ (0 ≤ x1 ∧ x1 ≤ 15) ∧ (1 ≤ x2 ∧ x2 ≤ 1) ∧ (0 ≤ x3 ∧ x3 ≤ 0) ∧ True) → (True) → (True) → ((τ.1 116 (x1).toNat).toInt = x3 ∧ True) → Q (some (.int (Int32.ofInt 1))) τ)
    : Ok 201 9 91 [.ref 93, .int (Int32.ofInt (x0)), .int (Int32.ofInt (x1))] [.int (Int32.ofInt (x2))] σ Q := by
  refine an_seg (B := pm_B) (F := []) (T := [116]) (S := []) (fun _ h => absurd h List.not_mem_nil) (k := 201) (d := 8) (cs := [83]) 11 91 4 [(0, 0, 29), (1, 0, 15), (2, 0, 1), (3, (-2147483648), 2147483647)] [(116, (0, 1, 0), (0, 3, 0))] [(2, 93, 0), (0, 0, 0), (0, 1, 0)] [(0, 2, 0)] [(83, [(2, 93, 0), (0, 0, 0), (0, 1, 1)], [], [(0, 0, 29), (1, 0, 15), (2, 0, 0), (3, (-2147483648), 2147483647)], [], [], [(116, (0, 1, 0), (0, 3, 0))]),
    (9999, [], [(1, 0, 0)], [(0, 0, 29), (1, 0, 15), (2, 1, 1), (3, (-2147483648), 2147483647)], [(3, 3, 3, 0)], [], [(116, (0, 1, 0), (0, 3, 0))]),
    (9999, [], [(1, 0, 1)], [(0, 0, 29), (1, 0, 15), (2, 1, 1), (3, 0, 0)], [], [], [(116, (0, 1, 0), (0, 3, 0))])] (by decide +kernel) (ρ0 := (fun s => [x0, x1, x2, x3].getD s 0)) hB eF eC ⟨rfl, ⟨rfl, ⟨rfl, trivial⟩⟩⟩ ⟨rfl, trivial⟩ ?_
  refine List.forall_mem_cons.mpr ⟨?_, List.forall_mem_cons.mpr ⟨?_, List.forall_mem_cons.mpr ⟨?_, fun _ h => absurd h List.not_mem_nil⟩⟩⟩
  · intro ρ τ Lc stc hx g1 g2 g3 g4 g5 g6 g7 g8
    have e0 : ρ 0 = x0 := hx 0 (by decide)
    have e1 : ρ 1 = x1 := hx 1 (by decide)
    have e2 : ρ 2 = x2 := hx 2 (by decide)
    have e3 : ρ 3 = x3 := hx 3 (by decide)
    subst e0
    subst e1
    subst e2
    subst e3
    have g7 := g7 (by decide)
    match Lc, stc, g7, g8 with
    | [v0, v1, v2], [], ⟨hv0, hv1, hv2, _⟩, _ =>
      cases hv0
      cases hv1
      cases hv2
      exact l0 τ ρ  g1 g2 g3 g4 g5 g6
  · intro ρ τ Lc stc hx g1 g2 g3 g4 g5 g6 g7 g8
    have e0 : ρ 0 = x0 := hx 0 (by decide)
    have e1 : ρ 1 = x1 := hx 1 (by decide)
    have e2 : ρ 2 = x2 := hx 2 (by decide)
    have e3 : ρ 3 = x3 := hx 3 (by decide)
    subst e0
    subst e1
    subst e2
    subst e3
    match stc, g8 with
    | [_], ⟨h, _⟩ => cases h; exact l1 τ ρ g1 g2 g3 g4 g5 g6
  · intro ρ τ Lc stc hx g1 g2 g3 g4 g5 g6 g7 g8
    have e0 : ρ 0 = x0 := hx 0 (by decide)
    have e1 : ρ 1 = x1 := hx 1 (by decide)
    have e2 : ρ 2 = x2 := hx 2 (by decide)
    have e3 : ρ 3 = x3 := hx 3 (by decide)
    subst e0
    subst e1
    subst e2
    subst e3
    match stc, g8 with
    | [_], ⟨h, _⟩ => cases h; exact l2 τ ρ g1 g2 g3 g4 g5 g6
set_option maxRecDepth 100000 in
theorem ql_l103 {σ : pm_S} {Q : Option Value → pm_S → Prop} (x0 : Int) (v2 : Value) (hv2 : v2.category = 1) (hB : an_GB pm_B σ) (eF : (0 ≤ x0 ∧ x0 ≤ 29) ∧ True)
    (l0 : ∀ (τ : pm_S) (y : Nat → Int), an_GB pm_B τ → FQ [] σ τ → ((0 ≤ x0 ∧ x0 ≤ 29) ∧ True) → (True) → (True) → (True) → Q (some (.int (Int32.ofInt 1))) τ)
    : Ok 201 9 103 [.ref 93, .int (Int32.ofInt (x0)), v2] [] σ Q := by
  refine an_seg (B := pm_B) (F := []) (T := []) (S := []) (fun _ h => absurd h List.not_mem_nil) (k := 201) (d := 8) (cs := []) 4 103 1 [(0, 0, 29)] [] [(2, 93, 0), (0, 0, 0), (5, 0, 0)] [] [(9999, [], [(1, 0, 1)], [(0, 0, 29)], [], [], [])] (by decide +kernel) (ρ0 := (fun s => [x0].getD s 0)) hB eF trivial ⟨rfl, ⟨rfl, ⟨hv2, trivial⟩⟩⟩ trivial ?_
  refine List.forall_mem_cons.mpr ⟨?_, fun _ h => absurd h List.not_mem_nil⟩
  · intro ρ τ Lc stc hx g1 g2 g3 g4 g5 g6 g7 g8
    have e0 : ρ 0 = x0 := hx 0 (by decide)
    subst e0
    match stc, g8 with
    | [_], ⟨h, _⟩ => cases h; exact l0 τ ρ g1 g2 g3 g4 g5 g6
set_option maxRecDepth 100000 in
theorem pl_w0 {σ : pm_S} {Q : Option Value → pm_S → Prop} (x0 x1 x2 x3 x4 x5 x6 x7 x8 : Int) (v2 : Value) (hv2 : v2.category = 1) (hB : an_GB pm_B σ) (eF : (0 ≤ x0 ∧ x0 ≤ 29) ∧ ((-2147483648) ≤ x1 ∧ x1 ≤ 2147483647) ∧ ((-2147483648) ≤ x2 ∧ x2 ≤ 2147483647) ∧ (0 ≤ x3 ∧ x3 ≤ 9) ∧ (0 ≤ x4 ∧ x4 ≤ 9) ∧ (0 ≤ x5 ∧ x5 ≤ 9) ∧ ((-2147483648) ≤ x6 ∧ x6 ≤ 2147483647) ∧ ((-2147483648) ≤ x7 ∧ x7 ≤ 2147483647) ∧ ((-2147483648) ≤ x8 ∧ x8 ≤ 2147483647) ∧ True) (eC : (σ.1 16 (x0).toNat).toInt = x1 ∧ (σ.1 18 (x0).toNat).toInt = x2 ∧ (σ.1 14 (x0).toNat).toInt = x3 ∧ (σ.1 17 (x0).toNat).toInt = x4 ∧ (σ.1 15 (x0).toNat).toInt = x5 ∧ (σ.1 9 (x3).toNat).toInt = x6 ∧ (σ.1 10 (x3).toNat).toInt = x7 ∧ (σ.1 1 1).toInt = x8 ∧ True)
    (l0 : ∀ (τ : pm_S) (y : Nat → Int), an_GB pm_B τ → FQ [(75, 9999)] σ τ → ((0 ≤ x0 ∧ x0 ≤ 29) ∧ ((-2147483648) ≤ x1 ∧ x1 ≤ 2147483647) ∧ ((-2147483648) ≤ x2 ∧ x2 ≤ 2147483647) ∧ (0 ≤ x3 ∧ x3 ≤ 9) ∧ (0 ≤ x4 ∧ x4 ≤ 9) ∧ (0 ≤ x5 ∧ x5 ≤ 9) ∧ ((-2147483648) ≤ x6 ∧ x6 ≤ 2147483647) ∧ ((-2147483648) ≤ x7 ∧ x7 ≤ 2147483647) ∧ ((-2147483648) ≤ x8 ∧ x8 ≤ 2147483647) ∧ ((-2147483648) ≤ y 9 ∧ y 9 ≤ 2147483647) ∧ True) → (True) → ((an_f 1 (Int32.ofInt (x8)) (Int32.ofInt (x2))).toInt = y 9 ∧ True) → ((τ.1 1 1).toInt = x8 ∧ (τ.1 9 (x3).toNat).toInt = x6 ∧ (τ.1 10 (x3).toNat).toInt = x7 ∧ (τ.1 14 (x0).toNat).toInt = x3 ∧ (τ.1 15 (x0).toNat).toInt = x5 ∧ (τ.1 16 (x0).toNat).toInt = x1 ∧ (τ.1 17 (x0).toNat).toInt = x4 ∧ (τ.1 18 (x0).toNat).toInt = x2 ∧ (τ.1 75 0).toInt = x1 ∧ (τ.1 75 1).toInt = y 9 ∧ (τ.1 75 2).toInt = x6 ∧ (τ.1 75 3).toInt = x4 ∧ (τ.1 75 4).toInt = x7 ∧ True) → Ok 95 11 73 [.ref 74, .int (Int32.ofInt (x0)), .int (Int32.ofInt (x3))] [.int (Int32.ofInt (x4)), .ref 7, .int (Int32.ofInt 5), .ref 75] τ Q)
    : Ok 95 11 0 [.ref 74, .int (Int32.ofInt (x0)), v2] [] σ Q := by
  refine an_seg (B := pm_B) (F := [(75, 9999)]) (T := [9, 10, 14, 15, 16, 17, 18, 75]) (S := []) (fun _ h => absurd h List.not_mem_nil) (k := 95) (d := 10) (cs := [73]) 75 0 9 [(0, 0, 29), (1, (-2147483648), 2147483647), (2, (-2147483648), 2147483647), (3, 0, 9), (4, 0, 9), (5, 0, 9), (6, (-2147483648), 2147483647), (7, (-2147483648), 2147483647), (8, (-2147483648), 2147483647)] [(16, (0, 0, 0), (0, 1, 0)), (18, (0, 0, 0), (0, 2, 0)), (14, (0, 0, 0), (0, 3, 0)), (17, (0, 0, 0), (0, 4, 0)), (15, (0, 0, 0), (0, 5, 0)), (9, (0, 3, 0), (0, 6, 0)), (10, (0, 3, 0), (0, 7, 0)), (1, (1, 0, 1), (0, 8, 0))] [(2, 74, 0), (0, 0, 0), (5, 0, 0)] [] [(73, [(2, 74, 0), (0, 0, 0), (0, 3, 0)], [(0, 4, 0), (2, 7, 0), (1, 0, 5), (2, 75, 0)], [(0, 0, 29), (1, (-2147483648), 2147483647), (2, (-2147483648), 2147483647), (3, 0, 9), (4, 0, 9), (5, 0, 9), (6, (-2147483648), 2147483647), (7, (-2147483648), 2147483647), (8, (-2147483648), 2147483647), (9, (-2147483648), 2147483647)], [], [(1, (0, 8, 0), (0, 2, 0), 9)], [(1, (1, 0, 1), (0, 8, 0)), (9, (0, 3, 0), (0, 6, 0)), (10, (0, 3, 0), (0, 7, 0)), (14, (0, 0, 0), (0, 3, 0)), (15, (0, 0, 0), (0, 5, 0)), (16, (0, 0, 0), (0, 1, 0)), (17, (0, 0, 0), (0, 4, 0)), (18, (0, 0, 0), (0, 2, 0)), (75, (1, 0, 0), (0, 1, 0)), (75, (1, 0, 1), (0, 9, 0)), (75, (1, 0, 2), (0, 6, 0)), (75, (1, 0, 3), (0, 4, 0)), (75, (1, 0, 4), (0, 7, 0))])] (by decide +kernel) (ρ0 := (fun s => [x0, x1, x2, x3, x4, x5, x6, x7, x8].getD s 0)) hB eF eC ⟨rfl, ⟨rfl, ⟨hv2, trivial⟩⟩⟩ trivial ?_
  refine List.forall_mem_cons.mpr ⟨?_, fun _ h => absurd h List.not_mem_nil⟩
  · intro ρ τ Lc stc hx g1 g2 g3 g4 g5 g6 g7 g8
    have e0 : ρ 0 = x0 := hx 0 (by decide)
    have e1 : ρ 1 = x1 := hx 1 (by decide)
    have e2 : ρ 2 = x2 := hx 2 (by decide)
    have e3 : ρ 3 = x3 := hx 3 (by decide)
    have e4 : ρ 4 = x4 := hx 4 (by decide)
    have e5 : ρ 5 = x5 := hx 5 (by decide)
    have e6 : ρ 6 = x6 := hx 6 (by decide)
    have e7 : ρ 7 = x7 := hx 7 (by decide)
    have e8 : ρ 8 = x8 := hx 8 (by decide)
    subst e0
    subst e1
    subst e2
    subst e3
    subst e4
    subst e5
    subst e6
    subst e7
    subst e8
    have g7 := g7 (by decide)
    match Lc, stc, g7, g8 with
    | [v0, v1, v2], [w0, w1, w2, w3], ⟨hv0, hv1, hv2, _⟩, ⟨hw0, hw1, hw2, hw3, _⟩ =>
      cases hv0
      cases hv1
      cases hv2
      cases hw0
      cases hw1
      cases hw2
      cases hw3
      exact l0 τ ρ  g1 g2 g3 g4 g5 g6
set_option maxRecDepth 100000 in
theorem pl_w74 {σ : pm_S} {Q : Option Value → pm_S → Prop} (x0 x1 x2 x3 x4 x5 x6 x7 x8 x9 x10 x11 x12 x13 x14 : Int)  (hB : an_GB pm_B σ) (eF : (0 ≤ x0 ∧ x0 ≤ 29) ∧ ((-2147483648) ≤ x1 ∧ x1 ≤ 2147483647) ∧ ((-2147483648) ≤ x2 ∧ x2 ≤ 2147483647) ∧ (0 ≤ x3 ∧ x3 ≤ 9) ∧ (0 ≤ x4 ∧ x4 ≤ 9) ∧ (0 ≤ x5 ∧ x5 ≤ 9) ∧ ((-2147483648) ≤ x6 ∧ x6 ≤ 2147483647) ∧ ((-2147483648) ≤ x7 ∧ x7 ≤ 2147483647) ∧ ((-2147483648) ≤ x8 ∧ x8 ≤ 2147483647) ∧ (0 ≤ x9 ∧ x9 ≤ 10) ∧ ((-2147483648) ≤ x10 ∧ x10 ≤ 2147483647) ∧ ((-2147483648) ≤ x11 ∧ x11 ≤ 2147483647) ∧ ((-2147483648) ≤ x12 ∧ x12 ≤ 2147483647) ∧ ((-2147483648) ≤ x13 ∧ x13 ≤ 2147483647) ∧ ((-2147483648) ≤ x14 ∧ x14 ≤ 2147483647) ∧ True) (eC : (σ.1 16 (x0).toNat).toInt = x1 ∧ (σ.1 18 (x0).toNat).toInt = x2 ∧ (σ.1 14 (x0).toNat).toInt = x3 ∧ (σ.1 17 (x0).toNat).toInt = x4 ∧ (σ.1 15 (x0).toNat).toInt = x5 ∧ (σ.1 9 (x3).toNat).toInt = x6 ∧ (σ.1 10 (x3).toNat).toInt = x7 ∧ (σ.1 1 1).toInt = x8 ∧ (σ.1 75 0).toInt = x10 ∧ (σ.1 75 1).toInt = x11 ∧ (σ.1 75 2).toInt = x12 ∧ (σ.1 75 3).toInt = x13 ∧ (σ.1 75 4).toInt = x14 ∧ True)
    (l0 : ∀ (τ : pm_S) (y : Nat → Int), an_GB pm_B τ → FQ [(75, 9999)] σ τ → ((0 ≤ x0 ∧ x0 ≤ 29) ∧ ((-2147483648) ≤ x1 ∧ x1 ≤ 2147483647) ∧ ((-2147483648) ≤ x2 ∧ x2 ≤ 2147483647) ∧ (0 ≤ x3 ∧ x3 ≤ 9) ∧ (0 ≤ x4 ∧ x4 ≤ 9) ∧ (0 ≤ x5 ∧ x5 ≤ 9) ∧ ((-2147483648) ≤ x6 ∧ x6 ≤ 2147483647) ∧ ((-2147483648) ≤ x7 ∧ x7 ≤ 2147483647) ∧ ((-2147483648) ≤ x8 ∧ x8 ≤ 2147483647) ∧ (0 ≤ x9 ∧ x9 ≤ 10) ∧ ((-2147483648) ≤ x10 ∧ x10 ≤ 2147483647) ∧ ((-2147483648) ≤ x11 ∧ x11 ≤ 2147483647) ∧ ((-2147483648) ≤ x12 ∧ x12 ≤ 2147483647) ∧ ((-2147483648) ≤ x13 ∧ x13 ≤ 2147483647) ∧ ((-2147483648) ≤ x14 ∧ x14 ≤ 2147483647) ∧ True) → (True) → (True) → ((τ.1 1 1).toInt = x8 ∧ (τ.1 9 (x3).toNat).toInt = x6 ∧ (τ.1 10 (x3).toNat).toInt = x7 ∧ (τ.1 14 (x0).toNat).toInt = x3 ∧ (τ.1 15 (x0).toNat).toInt = x5 ∧ (τ.1 16 (x0).toNat).toInt = x1 ∧ (τ.1 17 (x0).toNat).toInt = x4 ∧ (τ.1 18 (x0).toNat).toInt = x2 ∧ (τ.1 75 0).toInt = x10 ∧ (τ.1 75 1).toInt = x11 ∧ (τ.1 75 2).toInt = x12 ∧ (τ.1 75 3).toInt = x13 ∧ (τ.1 75 4).toInt = x14 ∧ (τ.1 75 5).toInt = x9 ∧ (τ.1 75 6).toInt = x3 ∧ (τ.1 75 7).toInt = x5 ∧ (τ.1 75 8).toInt = x8 ∧ True) → Ok 95 11 102 [.ref 74, .int (Int32.ofInt (x0)), .int (Int32.ofInt (x3))] [.ref 75, .ref 31] τ Q)
    : Ok 95 11 74 [.ref 74, .int (Int32.ofInt (x0)), .int (Int32.ofInt (x3))] [.int (Int32.ofInt (x9)), .int (Int32.ofInt 5), .ref 75] σ Q := by
  refine an_seg (B := pm_B) (F := [(75, 9999)]) (T := [9, 10, 14, 15, 16, 17, 18, 75]) (S := []) (fun _ h => absurd h List.not_mem_nil) (k := 95) (d := 10) (cs := [102]) 30 74 15 [(0, 0, 29), (1, (-2147483648), 2147483647), (2, (-2147483648), 2147483647), (3, 0, 9), (4, 0, 9), (5, 0, 9), (6, (-2147483648), 2147483647), (7, (-2147483648), 2147483647), (8, (-2147483648), 2147483647), (9, 0, 10), (10, (-2147483648), 2147483647), (11, (-2147483648), 2147483647), (12, (-2147483648), 2147483647), (13, (-2147483648), 2147483647), (14, (-2147483648), 2147483647)] [(16, (0, 0, 0), (0, 1, 0)), (18, (0, 0, 0), (0, 2, 0)), (14, (0, 0, 0), (0, 3, 0)), (17, (0, 0, 0), (0, 4, 0)), (15, (0, 0, 0), (0, 5, 0)), (9, (0, 3, 0), (0, 6, 0)), (10, (0, 3, 0), (0, 7, 0)), (1, (1, 0, 1), (0, 8, 0)), (75, (1, 0, 0), (0, 10, 0)), (75, (1, 0, 1), (0, 11, 0)), (75, (1, 0, 2), (0, 12, 0)), (75, (1, 0, 3), (0, 13, 0)), (75, (1, 0, 4), (0, 14, 0))] [(2, 74, 0), (0, 0, 0), (0, 3, 0)] [(0, 9, 0), (1, 0, 5), (2, 75, 0)] [(102, [(2, 74, 0), (0, 0, 0), (0, 3, 0)], [(2, 75, 0), (2, 31, 0)], [(0, 0, 29), (1, (-2147483648), 2147483647), (2, (-2147483648), 2147483647), (3, 0, 9), (4, 0, 9), (5, 0, 9), (6, (-2147483648), 2147483647), (7, (-2147483648), 2147483647), (8, (-2147483648), 2147483647), (9, 0, 10), (10, (-2147483648), 2147483647), (11, (-2147483648), 2147483647), (12, (-2147483648), 2147483647), (13, (-2147483648), 2147483647), (14, (-2147483648), 2147483647)], [], [], [(1, (1, 0, 1), (0, 8, 0)), (9, (0, 3, 0), (0, 6, 0)), (10, (0, 3, 0), (0, 7, 0)), (14, (0, 0, 0), (0, 3, 0)), (15, (0, 0, 0), (0, 5, 0)), (16, (0, 0, 0), (0, 1, 0)), (17, (0, 0, 0), (0, 4, 0)), (18, (0, 0, 0), (0, 2, 0)), (75, (1, 0, 0), (0, 10, 0)), (75, (1, 0, 1), (0, 11, 0)), (75, (1, 0, 2), (0, 12, 0)), (75, (1, 0, 3), (0, 13, 0)), (75, (1, 0, 4), (0, 14, 0)), (75, (1, 0, 5), (0, 9, 0)), (75, (1, 0, 6), (0, 3, 0)), (75, (1, 0, 7), (0, 5, 0)), (75, (1, 0, 8), (0, 8, 0))])] (by decide +kernel) (ρ0 := (fun s => [x0, x1, x2, x3, x4, x5, x6, x7, x8, x9, x10, x11, x12, x13, x14].getD s 0)) hB eF eC ⟨rfl, ⟨rfl, ⟨rfl, trivial⟩⟩⟩ ⟨rfl, ⟨rfl, ⟨rfl, trivial⟩⟩⟩ ?_
  refine List.forall_mem_cons.mpr ⟨?_, fun _ h => absurd h List.not_mem_nil⟩
  · intro ρ τ Lc stc hx g1 g2 g3 g4 g5 g6 g7 g8
    have e0 : ρ 0 = x0 := hx 0 (by decide)
    have e1 : ρ 1 = x1 := hx 1 (by decide)
    have e2 : ρ 2 = x2 := hx 2 (by decide)
    have e3 : ρ 3 = x3 := hx 3 (by decide)
    have e4 : ρ 4 = x4 := hx 4 (by decide)
    have e5 : ρ 5 = x5 := hx 5 (by decide)
    have e6 : ρ 6 = x6 := hx 6 (by decide)
    have e7 : ρ 7 = x7 := hx 7 (by decide)
    have e8 : ρ 8 = x8 := hx 8 (by decide)
    have e9 : ρ 9 = x9 := hx 9 (by decide)
    have e10 : ρ 10 = x10 := hx 10 (by decide)
    have e11 : ρ 11 = x11 := hx 11 (by decide)
    have e12 : ρ 12 = x12 := hx 12 (by decide)
    have e13 : ρ 13 = x13 := hx 13 (by decide)
    have e14 : ρ 14 = x14 := hx 14 (by decide)
    subst e0
    subst e1
    subst e2
    subst e3
    subst e4
    subst e5
    subst e6
    subst e7
    subst e8
    subst e9
    subst e10
    subst e11
    subst e12
    subst e13
    subst e14
    have g7 := g7 (by decide)
    match Lc, stc, g7, g8 with
    | [v0, v1, v2], [w0, w1], ⟨hv0, hv1, hv2, _⟩, ⟨hw0, hw1, _⟩ =>
      cases hv0
      cases hv1
      cases hv2
      cases hw0
      cases hw1
      exact l0 τ ρ  g1 g2 g3 g4 g5 g6
set_option maxRecDepth 100000 in
theorem pl_w103 {σ : pm_S} {Q : Option Value → pm_S → Prop} (x0 x1 : Int) (v2 : Value) (hv2 : v2.category = 1) (hB : an_GB pm_B σ) (eF : (0 ≤ x0 ∧ x0 ≤ 29) ∧ (0 ≤ x1 ∧ x1 ≤ 1) ∧ True)
    (l0 : ∀ (τ : pm_S) (y : Nat → Int), an_GB pm_B τ → FQ [] σ τ → ((0 ≤ x0 ∧ x0 ≤ 29) ∧ (0 ≤ x1 ∧ x1 ≤ 1) ∧ True) → (True) → (True) → (True) → Q (some (.int (Int32.ofInt (x1)))) τ)
    : Ok 95 11 103 [.ref 74, .int (Int32.ofInt (x0)), v2] [.int (Int32.ofInt (x1))] σ Q := by
  refine an_seg (B := pm_B) (F := []) (T := []) (S := []) (fun _ h => absurd h List.not_mem_nil) (k := 95) (d := 10) (cs := []) 3 103 2 [(0, 0, 29), (1, 0, 1)] [] [(2, 74, 0), (0, 0, 0), (5, 0, 0)] [(0, 1, 0)] [(9999, [], [(0, 1, 0)], [(0, 0, 29), (1, 0, 1)], [], [], [])] (by decide +kernel) (ρ0 := (fun s => [x0, x1].getD s 0)) hB eF trivial ⟨rfl, ⟨rfl, ⟨hv2, trivial⟩⟩⟩ ⟨rfl, trivial⟩ ?_
  refine List.forall_mem_cons.mpr ⟨?_, fun _ h => absurd h List.not_mem_nil⟩
  · intro ρ τ Lc stc hx g1 g2 g3 g4 g5 g6 g7 g8
    have e0 : ρ 0 = x0 := hx 0 (by decide)
    have e1 : ρ 1 = x1 := hx 1 (by decide)
    subst e0
    subst e1
    match stc, g8 with
    | [_], ⟨h, _⟩ => cases h; exact l0 τ ρ g1 g2 g3 g4 g5 g6
