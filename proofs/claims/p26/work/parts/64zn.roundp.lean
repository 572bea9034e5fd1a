/-! rounds, the class: pieces -/
set_option maxRecDepth 100000 in
theorem rf_f0 {σ : pm_S} {Q : Option Value → pm_S → Prop} (v2 : Value) (v3 : Value) (hv2 : v2.category = 1) (hv3 : v3.category = 1) (hB : an_GB pm_B σ)
    (l0 : ∀ (τ : pm_S) (y : Nat → Int), an_GB pm_B τ → FQ [] σ τ → (True) → (True) → (True) → (True) → Ok 247 2 5 [.ref 77, .int (Int32.ofInt 0), .int (Int32.ofInt 0), .int (Int32.ofInt 10)] [] τ Q)
    : Ok 247 2 0 [.ref 77, .int (Int32.ofInt 0), v2, v3] [] σ Q := by
  refine an_seg (B := pm_B) (F := []) (T := []) (S := []) (fun _ h => absurd h List.not_mem_nil) (k := 247) (d := 1) (cs := [5]) 7 0 0 [] [] [(2, 77, 0), (1, 0, 0), (5, 0, 0), (5, 0, 0)] [] [(5, [(2, 77, 0), (1, 0, 0), (1, 0, 0), (1, 0, 10)], [], [], [], [], [])] (by decide +kernel) (ρ0 := (fun s => [].getD s 0)) hB trivial trivial ⟨rfl, ⟨rfl, ⟨hv2, ⟨hv3, trivial⟩⟩⟩⟩ trivial ?_
  refine List.forall_mem_cons.mpr ⟨?_, fun _ h => absurd h List.not_mem_nil⟩
  · intro ρ τ Lc stc hx g1 g2 g3 g4 g5 g6 g7 g8
    have g7 := g7 (by decide)
    match Lc, stc, g7, g8 with
    | [v0, v1, v2, v3], [], ⟨hv0, hv1, hv2, hv3, _⟩, _ =>
      cases hv0
      cases hv1
      cases hv2
      cases hv3
      exact l0 τ ρ  g1 g2 g3 g4 g5 g6
set_option maxRecDepth 100000 in
theorem rf_f5 {σ : pm_S} {Q : Option Value → pm_S → Prop} (x0 : Int)  (hB : an_GB pm_B σ) (eF : (0 ≤ x0 ∧ x0 ≤ 10) ∧ True)
    (l0 : ∀ (τ : pm_S) (y : Nat → Int), an_GB pm_B τ → FQ [] σ τ → ((0 ≤ x0 ∧ x0 ≤ 9) ∧ True) → (True) → (True) → (True) → Ok 247 2 8 [.ref 77, .int (Int32.ofInt 0), .int (Int32.ofInt (x0)), .int (Int32.ofInt 10)] [] τ Q)
    (l1 : ∀ (τ : pm_S) (y : Nat → Int), an_GB pm_B τ → FQ [] σ τ → ((10 ≤ x0 ∧ x0 ≤ 10) ∧ True) → (True) → (True) → (True) → Q none τ)
    : Ok 247 2 5 [.ref 77, .int (Int32.ofInt 0), .int (Int32.ofInt (x0)), .int (Int32.ofInt 10)] [] σ Q := by
  refine an_seg (B := pm_B) (F := []) (T := []) (S := []) (fun _ h => absurd h List.not_mem_nil) (k := 247) (d := 1) (cs := [8]) 6 5 1 [(0, 0, 10)] [] [(2, 77, 0), (1, 0, 0), (0, 0, 0), (1, 0, 10)] [] [(8, [(2, 77, 0), (1, 0, 0), (0, 0, 0), (1, 0, 10)], [], [(0, 0, 9)], [], [], []),
    (9999, [], [], [(0, 10, 10)], [], [], [])] (by decide +kernel) (ρ0 := (fun s => [x0].getD s 0)) hB eF trivial ⟨rfl, ⟨rfl, ⟨rfl, ⟨rfl, trivial⟩⟩⟩⟩ trivial ?_
  refine List.forall_mem_cons.mpr ⟨?_, List.forall_mem_cons.mpr ⟨?_, fun _ h => absurd h List.not_mem_nil⟩⟩
  · intro ρ τ Lc stc hx g1 g2 g3 g4 g5 g6 g7 g8
    have e0 : ρ 0 = x0 := hx 0 (by decide)
    subst e0
    have g7 := g7 (by decide)
    match Lc, stc, g7, g8 with
    | [v0, v1, v2, v3], [], ⟨hv0, hv1, hv2, hv3, _⟩, _ =>
      cases hv0
      cases hv1
      cases hv2
      cases hv3
      exact l0 τ ρ  g1 g2 g3 g4 g5 g6
  · intro ρ τ Lc stc hx g1 g2 g3 g4 g5 g6 g7 g8
    have e0 : ρ 0 = x0 := hx 0 (by decide)
    subst e0
    match stc, g8 with
    | [], _ => exact l1 τ ρ g1 g2 g3 g4 g5 g6
set_option maxRecDepth 100000 in
theorem rf_f8 {σ : pm_S} {Q : Option Value → pm_S → Prop} (x0 : Int)  (hB : an_GB pm_B σ) (eF : (0 ≤ x0 ∧ x0 ≤ 9) ∧ True)
    (l0 : ∀ (τ : pm_S) (y : Nat → Int), an_GB pm_B τ → FQ [] σ τ → ((0 ≤ x0 ∧ x0 ≤ 9) ∧ True) → (True) → (True) → (True) → Ok 247 2 11 [.ref 77, .int (Int32.ofInt 0), .int (Int32.ofInt (x0)), .int (Int32.ofInt 10)] [.int (Int32.ofInt 0), .int (Int32.ofInt (x0)), .ref 77] τ Q)
    : Ok 247 2 8 [.ref 77, .int (Int32.ofInt 0), .int (Int32.ofInt (x0)), .int (Int32.ofInt 10)] [] σ Q := by
  refine an_seg (B := pm_B) (F := []) (T := []) (S := []) (fun _ h => absurd h List.not_mem_nil) (k := 247) (d := 1) (cs := [11]) 5 8 1 [(0, 0, 9)] [] [(2, 77, 0), (1, 0, 0), (0, 0, 0), (1, 0, 10)] [] [(11, [(2, 77, 0), (1, 0, 0), (0, 0, 0), (1, 0, 10)], [(1, 0, 0), (0, 0, 0), (2, 77, 0)], [(0, 0, 9)], [], [], [])] (by decide +kernel) (ρ0 := (fun s => [x0].getD s 0)) hB eF trivial ⟨rfl, ⟨rfl, ⟨rfl, ⟨rfl, trivial⟩⟩⟩⟩ trivial ?_
  refine List.forall_mem_cons.mpr ⟨?_, fun _ h => absurd h List.not_mem_nil⟩
  · intro ρ τ Lc stc hx g1 g2 g3 g4 g5 g6 g7 g8
    have e0 : ρ 0 = x0 := hx 0 (by decide)
    subst e0
    have g7 := g7 (by decide)
    match Lc, stc, g7, g8 with
    | [v0, v1, v2, v3], [w0, w1, w2], ⟨hv0, hv1, hv2, hv3, _⟩, ⟨hw0, hw1, hw2, _⟩ =>
      cases hv0
      cases hv1
      cases hv2
      cases hv3
      cases hw0
      cases hw1
      cases hw2
      exact l0 τ ρ  g1 g2 g3 g4 g5 g6
set_option maxRecDepth 100000 in
theorem rf_f12 {σ : pm_S} {Q : Option Value → pm_S → Prop} (x0 : Int)  (hB : an_GB pm_B σ) (eF : (0 ≤ x0 ∧ x0 ≤ 9) ∧ True)
    (l0 : ∀ (τ : pm_S) (y : Nat → Int), an_GB pm_B τ → FQ [] σ τ → ((0 ≤ x0 ∧ x0 ≤ 9) ∧ True) → (True) → (True) → (True) → Ok 247 2 5 [.ref 77, .int (Int32.ofInt 0), .int (Int32.ofInt (x0 + 1)), .int (Int32.ofInt 10)] [] τ Q)
    : Ok 247 2 12 [.ref 77, .int (Int32.ofInt 0), .int (Int32.ofInt (x0)), .int (Int32.ofInt 10)] [] σ Q := by
  refine an_seg (B := pm_B) (F := []) (T := []) (S := []) (fun _ h => absurd h List.not_mem_nil) (k := 247) (d := 1) (cs := [5]) 4 12 1 [(0, 0, 9)] [] [(2, 77, 0), (1, 0, 0), (0, 0, 0), (1, 0, 10)] [] [(5, [(2, 77, 0), (1, 0, 0), (0, 0, 1), (1, 0, 10)], [], [(0, 0, 9)], [], [], [])] (by decide +kernel) (ρ0 := (fun s => [x0].getD s 0)) hB eF trivial ⟨rfl, ⟨rfl, ⟨rfl, ⟨rfl, trivial⟩⟩⟩⟩ trivial ?_
  refine List.forall_mem_cons.mpr ⟨?_, fun _ h => absurd h List.not_mem_nil⟩
  · intro ρ τ Lc stc hx g1 g2 g3 g4 g5 g6 g7 g8
    have e0 : ρ 0 = x0 := hx 0 (by decide)
    subst e0
    have g7 := g7 (by decide)
    match Lc, stc, g7, g8 with
    | [v0, v1, v2, v3], [], ⟨hv0, hv1, hv2, hv3, _⟩, _ =>
      cases hv0
      cases hv1
      cases hv2
      cases hv3
      exact l0 τ ρ  g1 g2 g3 g4 g5 g6
set_option maxRecDepth 100000 in
theorem rf_n0 {σ : pm_S} {Q : Option Value → pm_S → Prop} (x0 : Int) (v2 : Value) (hv2 : v2.category = 1) (hB : an_GB pm_B σ) (eF : (0 ≤ x0 ∧ x0 ≤ 9) ∧ True)
    (l0 : ∀ (τ : pm_S) (y : Nat → Int) (v2 : Value), v2.category = 1 → an_GB pm_B τ → FQ [] σ τ → ((0 ≤ x0 ∧ x0 ≤ 9) ∧ True) → (True) → (True) → (True) → Ok 99 7 3 [.ref 74, .int (Int32.ofInt (x0)), v2] [.int (Int32.ofInt 0), .ref 77] τ Q)
    : Ok 99 7 0 [.ref 74, .int (Int32.ofInt (x0)), v2] [] σ Q := by
  refine an_seg (B := pm_B) (F := []) (T := []) (S := []) (fun _ h => absurd h List.not_mem_nil) (k := 99) (d := 6) (cs := [3]) 5 0 1 [(0, 0, 9)] [] [(2, 74, 0), (0, 0, 0), (5, 0, 0)] [] [(3, [(2, 74, 0), (0, 0, 0), (5, 0, 0)], [(1, 0, 0), (2, 77, 0)], [(0, 0, 9)], [], [], [])] (by decide +kernel) (ρ0 := (fun s => [x0].getD s 0)) hB eF trivial ⟨rfl, ⟨rfl, ⟨hv2, trivial⟩⟩⟩ trivial ?_
  refine List.forall_mem_cons.mpr ⟨?_, fun _ h => absurd h List.not_mem_nil⟩
  · intro ρ τ Lc stc hx g1 g2 g3 g4 g5 g6 g7 g8
    have e0 : ρ 0 = x0 := hx 0 (by decide)
    subst e0
    have g7 := g7 (by decide)
    match Lc, stc, g7, g8 with
    | [v0, v1, v2], [w0, w1], ⟨hv0, hv1, hv2, _⟩, ⟨hw0, hw1, _⟩ =>
      cases hv0
      cases hv1
      cases hw0
      cases hw1
      exact l0 τ ρ v2 hv2 g1 g2 g3 g4 g5 g6
set_option maxRecDepth 100000 in
theorem rf_n4 {σ : pm_S} {Q : Option Value → pm_S → Prop} (x0 : Int) (v2 : Value) (hv2 : v2.category = 1) (hB : an_GB pm_B σ) (eF : (0 ≤ x0 ∧ x0 ≤ 9) ∧ True)
    (l0 : ∀ (τ : pm_S) (y : Nat → Int), an_GB pm_B τ → FQ [] σ τ → ((0 ≤ x0 ∧ x0 ≤ 9) ∧ True) → (True) → (True) → (True) → Ok 99 7 6 [.ref 74, .int (Int32.ofInt (x0)), .int (Int32.ofInt 0)] [] τ Q)
    : Ok 99 7 4 [.ref 74, .int (Int32.ofInt (x0)), v2] [] σ Q := by
  refine an_seg (B := pm_B) (F := []) (T := []) (S := []) (fun _ h => absurd h List.not_mem_nil) (k := 99) (d := 6) (cs := [6]) 4 4 1 [(0, 0, 9)] [] [(2, 74, 0), (0, 0, 0), (5, 0, 0)] [] [(6, [(2, 74, 0), (0, 0, 0), (1, 0, 0)], [], [(0, 0, 9)], [], [], [])] (by decide +kernel) (ρ0 := (fun s => [x0].getD s 0)) hB eF trivial ⟨rfl, ⟨rfl, ⟨hv2, trivial⟩⟩⟩ trivial ?_
  refine List.forall_mem_cons.mpr ⟨?_, fun _ h => absurd h List.not_mem_nil⟩
  · intro ρ τ Lc stc hx g1 g2 g3 g4 g5 g6 g7 g8
    have e0 : ρ 0 = x0 := hx 0 (by decide)
    subst e0
    have g7 := g7 (by decide)
    match Lc, stc, g7, g8 with
    | [v0, v1, v2], [], ⟨hv0, hv1, hv2, _⟩, _ =>
      cases hv0
      cases hv1
      cases hv2
      exact l0 τ ρ  g1 g2 g3 g4 g5 g6
set_option maxRecDepth 100000 in
theorem rf_n6 {σ : pm_S} {Q : Option Value → pm_S → Prop} (x0 x1 x2 : Int)  (hB : an_GB pm_B σ) (eF : (0 ≤ x0 ∧ x0 ≤ 9) ∧ (0 ≤ x1 ∧ x1 ≤ 30) ∧ (0 ≤ x2 ∧ x2 ≤ 30) ∧ True) (eC : (σ.1 13 0).toInt = x2 ∧ True)
    (l0 : ∀ (τ : pm_S) (y : Nat → Int), an_GB pm_B τ → FQ [] σ τ → ((0 ≤ x0 ∧ x0 ≤ 9) ∧ (0 ≤ x1 ∧ x1 ≤ 30) ∧ (0 ≤ x2 ∧ x2 ≤ 30) ∧ True) → (True) → (True) → ((τ.1 13 0).toInt = x2 ∧ True) → Ok 99 7 11 [.ref 74, .int (Int32.ofInt (x0)), .int (Int32.ofInt (x1))] [.int (Int32.ofInt (x2)), .int (Int32.ofInt (x1))] τ Q)
    : Ok 99 7 6 [.ref 74, .int (Int32.ofInt (x0)), .int (Int32.ofInt (x1))] [] σ Q := by
  refine an_seg (B := pm_B) (F := []) (T := []) (S := []) (fun _ h => absurd h List.not_mem_nil) (k := 99) (d := 6) (cs := [11]) 7 6 3 [(0, 0, 9), (1, 0, 30), (2, 0, 30)] [(13, (1, 0, 0), (0, 2, 0))] [(2, 74, 0), (0, 0, 0), (0, 1, 0)] [] [(11, [(2, 74, 0), (0, 0, 0), (0, 1, 0)], [(0, 2, 0), (0, 1, 0)], [(0, 0, 9), (1, 0, 30), (2, 0, 30)], [], [], [(13, (1, 0, 0), (0, 2, 0))])] (by decide +kernel) (ρ0 := (fun s => [x0, x1, x2].getD s 0)) hB eF eC ⟨rfl, ⟨rfl, ⟨rfl, trivial⟩⟩⟩ trivial ?_
  refine List.forall_mem_cons.mpr ⟨?_, fun _ h => absurd h List.not_mem_nil⟩
  · intro ρ τ Lc stc hx g1 g2 g3 g4 g5 g6 g7 g8
    have e0 : ρ 0 = x0 := hx 0 (by decide)
    have e1 : ρ 1 = x1 := hx 1 (by decide)
    have e2 : ρ 2 = x2 := hx 2 (by decide)
    subst e0
    subst e1
    subst e2
    have g7 := g7 (by decide)
    match Lc, stc, g7, g8 with
    | [v0, v1, v2], [w0, w1], ⟨hv0, hv1, hv2, _⟩, ⟨hw0, hw1, _⟩ =>
      cases hv0
      cases hv1
      cases hv2
      cases hw0
      cases hw1
      exact l0 τ ρ  g1 g2 g3 g4 g5 g6
set_option maxRecDepth 100000 in
theorem rf_n12 {σ : pm_S} {Q : Option Value → pm_S → Prop} (x0 x1 x2 : Int)  (hB : an_GB pm_B σ) (eF : (0 ≤ x0 ∧ x0 ≤ 9) ∧ (0 ≤ x1 ∧ x1 ≤ 29) ∧ (0 ≤ x2 ∧ x2 ≤ 9) ∧ True) (eC : (σ.1 17 (x1).toNat).toInt = x2 ∧ True)
    (l0 : ∀ (τ : pm_S) (y : Nat → Int), an_GB pm_B τ → FQ [] σ τ → ((0 ≤ x0 ∧ x0 ≤ 9) ∧ (0 ≤ x1 ∧ x1 ≤ 29) ∧ (0 ≤ x2 ∧ x2 ≤ 9) ∧ True) → (True) → (True) → ((τ.1 17 (x1).toNat).toInt = x2 ∧ True) → Ok 99 7 22 [.ref 74, .int (Int32.ofInt (x0)), .int (Int32.ofInt (x1))] [.int (Int32.ofInt (x0)), .int (Int32.ofInt (x2)), .int (Int32.ofInt (x1)), .ref 76] τ Q)
    : Ok 99 7 12 [.ref 74, .int (Int32.ofInt (x0)), .int (Int32.ofInt (x1))] [] σ Q := by
  refine an_seg (B := pm_B) (F := []) (T := [17]) (S := []) (fun _ h => absurd h List.not_mem_nil) (k := 99) (d := 6) (cs := [22]) 12 12 3 [(0, 0, 9), (1, 0, 29), (2, 0, 9)] [(17, (0, 1, 0), (0, 2, 0))] [(2, 74, 0), (0, 0, 0), (0, 1, 0)] [] [(22, [(2, 74, 0), (0, 0, 0), (0, 1, 0)], [(0, 0, 0), (0, 2, 0), (0, 1, 0), (2, 76, 0)], [(0, 0, 9), (1, 0, 29), (2, 0, 9)], [], [], [(17, (0, 1, 0), (0, 2, 0))])] (by decide +kernel) (ρ0 := (fun s => [x0, x1, x2].getD s 0)) hB eF eC ⟨rfl, ⟨rfl, ⟨rfl, trivial⟩⟩⟩ trivial ?_
  refine List.forall_mem_cons.mpr ⟨?_, fun _ h => absurd h List.not_mem_nil⟩
  · intro ρ τ Lc stc hx g1 g2 g3 g4 g5 g6 g7 g8
    have e0 : ρ 0 = x0 := hx 0 (by decide)
    have e1 : ρ 1 = x1 := hx 1 (by decide)
    have e2 : ρ 2 = x2 := hx 2 (by decide)
    subst e0
    subst e1
    subst e2
    have g7 := g7 (by decide)
    match Lc, stc, g7, g8 with
    | [v0, v1, v2], [w0, w1, w2, w3], ⟨hv0, hv1, hv2, _⟩, ⟨hw0, hw1, hw2, hw3, _⟩ =>
      cases hv0
      cases hv1
      cases hv2
      cases hw0
      cases hw1
      cases hw2
      cases hw3
      exact l0 τ ρ  g1 g2 g3 g4 g5 g6
set_option maxRecDepth 100000 in
theorem rf_n23 {σ : pm_S} {Q : Option Value → pm_S → Prop} (x0 x1 : Int)  (hB : an_GB pm_B σ) (eF : (0 ≤ x0 ∧ x0 ≤ 9) ∧ (0 ≤ x1 ∧ x1 ≤ 29) ∧ True)
    (l0 : ∀ (τ : pm_S) (y : Nat → Int), an_GB pm_B τ → FQ [] σ τ → ((0 ≤ x0 ∧ x0 ≤ 9) ∧ (0 ≤ x1 ∧ x1 ≤ 29) ∧ True) → (True) → (True) → (True) → Ok 99 7 25 [.ref 74, .int (Int32.ofInt (x0)), .int (Int32.ofInt (x1))] [.int (Int32.ofInt (x1)), .ref 74, .int (Int32.ofInt (x1)), .ref 76] τ Q)
    : Ok 99 7 23 [.ref 74, .int (Int32.ofInt (x0)), .int (Int32.ofInt (x1))] [.int (Int32.ofInt (x1)), .ref 76] σ Q := by
  refine an_seg (B := pm_B) (F := []) (T := []) (S := []) (fun _ h => absurd h List.not_mem_nil) (k := 99) (d := 6) (cs := [25]) 4 23 2 [(0, 0, 9), (1, 0, 29)] [] [(2, 74, 0), (0, 0, 0), (0, 1, 0)] [(0, 1, 0), (2, 76, 0)] [(25, [(2, 74, 0), (0, 0, 0), (0, 1, 0)], [(0, 1, 0), (2, 74, 0), (0, 1, 0), (2, 76, 0)], [(0, 0, 9), (1, 0, 29)], [], [], [])] (by decide +kernel) (ρ0 := (fun s => [x0, x1].getD s 0)) hB eF trivial ⟨rfl, ⟨rfl, ⟨rfl, trivial⟩⟩⟩ ⟨rfl, ⟨rfl, trivial⟩⟩ ?_
  refine List.forall_mem_cons.mpr ⟨?_, fun _ h => absurd h List.not_mem_nil⟩
  · intro ρ τ Lc stc hx g1 g2 g3 g4 g5 g6 g7 g8
    have e0 : ρ 0 = x0 := hx 0 (by decide)
    have e1 : ρ 1 = x1 := hx 1 (by decide)
    subst e0
    subst e1
    have g7 := g7 (by decide)
    match Lc, stc, g7, g8 with
    | [v0, v1, v2], [w0, w1, w2, w3], ⟨hv0, hv1, hv2, _⟩, ⟨hw0, hw1, hw2, hw3, _⟩ =>
      cases hv0
      cases hv1
      cases hv2
      cases hw0
      cases hw1
      cases hw2
      cases hw3
      exact l0 τ ρ  g1 g2 g3 g4 g5 g6
set_option maxRecDepth 100000 in
theorem rf_n26 {σ : pm_S} {Q : Option Value → pm_S → Prop} (x0 x1 x2 : Int)  (hB : an_GB pm_B σ) (eF : (0 ≤ x0 ∧ x0 ≤ 9) ∧ (0 ≤ x1 ∧ x1 ≤ 29) ∧ (0 ≤ x2 ∧ x2 ≤ 1) ∧ True)
    (l0 : ∀ (τ : pm_S) (y : Nat → Int), an_GB pm_B τ → FQ [] σ τ → ((0 ≤ x0 ∧ x0 ≤ 9) ∧ (0 ≤ x1 ∧ x1 ≤ 29) ∧ (0 ≤ x2 ∧ x2 ≤ 0) ∧ True) → (True) → (True) → (True) → Ok 99 7 30 [.ref 74, .int (Int32.ofInt (x0)), .int (Int32.ofInt (x1))] [.int (Int32.ofInt 0), .int (Int32.ofInt (x1)), .ref 76] τ Q)
    (l1 : ∀ (τ : pm_S) (y : Nat → Int), an_GB pm_B τ → FQ [] σ τ → ((0 ≤ x0 ∧ x0 ≤ 9) ∧ (0 ≤ x1 ∧ x1 ≤ 29) ∧ (1 ≤ x2 ∧ x2 ≤ 1) ∧ True) → (True) → (True) → (True) → Ok 99 7 30 [.ref 74, .int (Int32.ofInt (x0)), .int (Int32.ofInt (x1))] [.int (Int32.ofInt 1), .int (Int32.ofInt (x1)), .ref 76] τ Q)
    : Ok 99 7 26 [.ref 74, .int (Int32.ofInt (x0)), .int (Int32.ofInt (x1))] [.int (Int32.ofInt (x2)), .int (Int32.ofInt (x1)), .ref 76] σ Q := by
  refine an_seg (B := pm_B) (F := []) (T := []) (S := []) (fun _ h => absurd h List.not_mem_nil) (k := 99) (d := 6) (cs := [30]) 5 26 3 [(0, 0, 9), (1, 0, 29), (2, 0, 1)] [] [(2, 74, 0), (0, 0, 0), (0, 1, 0)] [(0, 2, 0), (0, 1, 0), (2, 76, 0)] [(30, [(2, 74, 0), (0, 0, 0), (0, 1, 0)], [(1, 0, 0), (0, 1, 0), (2, 76, 0)], [(0, 0, 9), (1, 0, 29), (2, 0, 0)], [], [], []),
    (30, [(2, 74, 0), (0, 0, 0), (0, 1, 0)], [(1, 0, 1), (0, 1, 0), (2, 76, 0)], [(0, 0, 9), (1, 0, 29), (2, 1, 1)], [], [], [])] (by decide +kernel) (ρ0 := (fun s => [x0, x1, x2].getD s 0)) hB eF trivial ⟨rfl, ⟨rfl, ⟨rfl, trivial⟩⟩⟩ ⟨rfl, ⟨rfl, ⟨rfl, trivial⟩⟩⟩ ?_
  refine List.forall_mem_cons.mpr ⟨?_, List.forall_mem_cons.mpr ⟨?_, fun _ h => absurd h List.not_mem_nil⟩⟩
  · intro ρ τ Lc stc hx g1 g2 g3 g4 g5 g6 g7 g8
    have e0 : ρ 0 = x0 := hx 0 (by decide)
    have e1 : ρ 1 = x1 := hx 1 (by decide)
    have e2 : ρ 2 = x2 := hx 2 (by decide)
    subst e0
    subst e1
    subst e2
    have g7 := g7 (by decide)
    match Lc, stc, g7, g8 with
    | [v0, v1, v2], [w0, w1, w2], ⟨hv0, hv1, hv2, _⟩, ⟨hw0, hw1, hw2, _⟩ =>
      cases hv0
      cases hv1
      cases hv2
      cases hw0
      cases hw1
      cases hw2
      exact l0 τ ρ  g1 g2 g3 g4 g5 g6
  · intro ρ τ Lc stc hx g1 g2 g3 g4 g5 g6 g7 g8
    have e0 : ρ 0 = x0 := hx 0 (by decide)
    have e1 : ρ 1 = x1 := hx 1 (by decide)
    have e2 : ρ 2 = x2 := hx 2 (by decide)
    subst e0
    subst e1
    subst e2
    have g7 := g7 (by decide)
    match Lc, stc, g7, g8 with
    | [v0, v1, v2], [w0, w1, w2], ⟨hv0, hv1, hv2, _⟩, ⟨hw0, hw1, hw2, _⟩ =>
      cases hv0
      cases hv1
      cases hv2
      cases hw0
      cases hw1
      cases hw2
      exact l1 τ ρ  g1 g2 g3 g4 g5 g6
set_option maxRecDepth 100000 in
theorem rf_n29 {σ : pm_S} {Q : Option Value → pm_S → Prop} (x0 x1 : Int)  (hB : an_GB pm_B σ) (eF : (0 ≤ x0 ∧ x0 ≤ 9) ∧ (0 ≤ x1 ∧ x1 ≤ 29) ∧ True)
    (l0 : ∀ (τ : pm_S) (y : Nat → Int), an_GB pm_B τ → FQ [] σ τ → ((0 ≤ x0 ∧ x0 ≤ 9) ∧ (0 ≤ x1 ∧ x1 ≤ 29) ∧ True) → (True) → (True) → (True) → Ok 99 7 30 [.ref 74, .int (Int32.ofInt (x0)), .int (Int32.ofInt (x1))] [.int (Int32.ofInt 0), .int (Int32.ofInt (x1)), .ref 76] τ Q)
    : Ok 99 7 29 [.ref 74, .int (Int32.ofInt (x0)), .int (Int32.ofInt (x1))] [.int (Int32.ofInt (x1)), .ref 76] σ Q := by
  refine an_seg (B := pm_B) (F := []) (T := []) (S := []) (fun _ h => absurd h List.not_mem_nil) (k := 99) (d := 6) (cs := [30]) 3 29 2 [(0, 0, 9), (1, 0, 29)] [] [(2, 74, 0), (0, 0, 0), (0, 1, 0)] [(0, 1, 0), (2, 76, 0)] [(30, [(2, 74, 0), (0, 0, 0), (0, 1, 0)], [(1, 0, 0), (0, 1, 0), (2, 76, 0)], [(0, 0, 9), (1, 0, 29)], [], [], [])] (by decide +kernel) (ρ0 := (fun s => [x0, x1].getD s 0)) hB eF trivial ⟨rfl, ⟨rfl, ⟨rfl, trivial⟩⟩⟩ ⟨rfl, ⟨rfl, trivial⟩⟩ ?_
  refine List.forall_mem_cons.mpr ⟨?_, fun _ h => absurd h List.not_mem_nil⟩
  · intro ρ τ Lc stc hx g1 g2 g3 g4 g5 g6 g7 g8
    have e0 : ρ 0 = x0 := hx 0 (by decide)
    have e1 : ρ 1 = x1 := hx 1 (by decide)
    subst e0
    subst e1
    have g7 := g7 (by decide)
    match Lc, stc, g7, g8 with
    | [v0, v1, v2], [w0, w1, w2], ⟨hv0, hv1, hv2, _⟩, ⟨hw0, hw1, hw2, _⟩ =>
      cases hv0
      cases hv1
      cases hv2
      cases hw0
      cases hw1
      cases hw2
      exact l0 τ ρ  g1 g2 g3 g4 g5 g6
set_option maxRecDepth 100000 in
theorem rf_n31f {σ : pm_S} {Q : Option Value → pm_S → Prop} (x0 x1 : Int)  (hB : an_GB pm_B σ) (eF : (0 ≤ x0 ∧ x0 ≤ 9) ∧ (0 ≤ x1 ∧ x1 ≤ 29) ∧ True) (eC : (σ.1 76 (x1).toNat).toInt = 0 ∧ True)
    (l0 : ∀ (τ : pm_S) (y : Nat → Int), an_GB pm_B τ → FQ [] σ τ → ((0 ≤ x0 ∧ x0 ≤ 9) ∧ (0 ≤ x1 ∧ x1 ≤ 29) ∧ True) → (True) → (True) → ((τ.1 76 (x1).toNat).toInt = 0 ∧ True) → Ok 99 7 6 [.ref 74, .int (Int32.ofInt (x0)), .int (Int32.ofInt (x1 + 1))] [] τ Q)
    : Ok 99 7 31 [.ref 74, .int (Int32.ofInt (x0)), .int (Int32.ofInt (x1))] [] σ Q := by
  refine an_seg (B := pm_B) (F := []) (T := [76]) (S := []) (fun _ h => absurd h List.not_mem_nil) (k := 99) (d := 6) (cs := [6]) 9 31 2 [(0, 0, 9), (1, 0, 29)] [(76, (0, 1, 0), (1, 0, 0))] [(2, 74, 0), (0, 0, 0), (0, 1, 0)] [] [(6, [(2, 74, 0), (0, 0, 0), (0, 1, 1)], [], [(0, 0, 9), (1, 0, 29)], [], [], [(76, (0, 1, 0), (1, 0, 0))])] (by decide +kernel) (ρ0 := (fun s => [x0, x1].getD s 0)) hB eF eC ⟨rfl, ⟨rfl, ⟨rfl, trivial⟩⟩⟩ trivial ?_
  refine List.forall_mem_cons.mpr ⟨?_, fun _ h => absurd h List.not_mem_nil⟩
  · intro ρ τ Lc stc hx g1 g2 g3 g4 g5 g6 g7 g8
    have e0 : ρ 0 = x0 := hx 0 (by decide)
    have e1 : ρ 1 = x1 := hx 1 (by decide)
    subst e0
    subst e1
    have g7 := g7 (by decide)
    match Lc, stc, g7, g8 with
    | [v0, v1, v2], [], ⟨hv0, hv1, hv2, _⟩, _ =>
      cases hv0
      cases hv1
      cases hv2
      exact l0 τ ρ  g1 g2 g3 g4 g5 g6
set_option maxRecDepth 100000 in
theorem rf_n31 {σ : pm_S} {Q : Option Value → pm_S → Prop} (x0 x1 x2 x3 x4 : Int)  (hB : an_GB pm_B σ) (eF : (0 ≤ x0 ∧ x0 ≤ 9) ∧ (0 ≤ x1 ∧ x1 ≤ 29) ∧ (0 ≤ x2 ∧ x2 ≤ 9) ∧ (0 ≤ x3 ∧ x3 ≤ 9) ∧ (0 ≤ x4 ∧ x4 ≤ 1023) ∧ True) (eC : (σ.1 76 (x1).toNat).toInt = 1 ∧ (σ.1 14 (x1).toNat).toInt = x2 ∧ (σ.1 15 (x1).toNat).toInt = x3 ∧ (σ.1 77 (x2).toNat).toInt = x4 ∧ True)
    (l0 : ∀ (τ : pm_S) (y : Nat → Int), an_GB pm_B τ → FQ [] σ τ → ((0 ≤ x0 ∧ x0 ≤ 9) ∧ (0 ≤ x1 ∧ x1 ≤ 29) ∧ (0 ≤ x2 ∧ x2 ≤ 9) ∧ (0 ≤ x3 ∧ x3 ≤ 9) ∧ (0 ≤ x4 ∧ x4 ≤ 1023) ∧ (1 ≤ y 5 ∧ y 5 ≤ 512) ∧ (0 ≤ y 6 ∧ y 6 ≤ 1023) ∧ True) → (True) → ((an_f 6 (Int32.ofInt (1)) (Int32.ofInt (x3))).toInt = y 5 ∧ (an_f 4 (Int32.ofInt (x4)) (Int32.ofInt (y 5))).toInt = y 6 ∧ True) → ((τ.1 14 (x1).toNat).toInt = x2 ∧ (τ.1 15 (x1).toNat).toInt = x3 ∧ (τ.1 76 (x1).toNat).toInt = 1 ∧ (τ.1 77 (x2).toNat).toInt = x4 ∧ True) → Ok 99 7 55 [.ref 74, .int (Int32.ofInt (x0)), .int (Int32.ofInt (x1))] [.int (Int32.ofInt (y 6)), .int (Int32.ofInt (x2)), .ref 77] τ Q)
    : Ok 99 7 31 [.ref 74, .int (Int32.ofInt (x0)), .int (Int32.ofInt (x1))] [] σ Q := by
  refine an_seg (B := pm_B) (F := []) (T := [76, 14, 15, 77]) (S := []) (fun _ h => absurd h List.not_mem_nil) (k := 99) (d := 6) (cs := [55]) 26 31 5 [(0, 0, 9), (1, 0, 29), (2, 0, 9), (3, 0, 9), (4, 0, 1023)] [(76, (0, 1, 0), (1, 0, 1)), (14, (0, 1, 0), (0, 2, 0)), (15, (0, 1, 0), (0, 3, 0)), (77, (0, 2, 0), (0, 4, 0))] [(2, 74, 0), (0, 0, 0), (0, 1, 0)] [] [(55, [(2, 74, 0), (0, 0, 0), (0, 1, 0)], [(0, 6, 0), (0, 2, 0), (2, 77, 0)], [(0, 0, 9), (1, 0, 29), (2, 0, 9), (3, 0, 9), (4, 0, 1023), (5, 1, 512), (6, 0, 1023)], [], [(6, (1, 0, 1), (0, 3, 0), 5), (4, (0, 4, 0), (0, 5, 0), 6)], [(14, (0, 1, 0), (0, 2, 0)), (15, (0, 1, 0), (0, 3, 0)), (76, (0, 1, 0), (1, 0, 1)), (77, (0, 2, 0), (0, 4, 0))])] (by decide +kernel) (ρ0 := (fun s => [x0, x1, x2, x3, x4].getD s 0)) hB eF eC ⟨rfl, ⟨rfl, ⟨rfl, trivial⟩⟩⟩ trivial ?_
  refine List.forall_mem_cons.mpr ⟨?_, fun _ h => absurd h List.not_mem_nil⟩
  · intro ρ τ Lc stc hx g1 g2 g3 g4 g5 g6 g7 g8
    have e0 : ρ 0 = x0 := hx 0 (by decide)
    have e1 : ρ 1 = x1 := hx 1 (by decide)
    have e2 : ρ 2 = x2 := hx 2 (by decide)
    have e3 : ρ 3 = x3 := hx 3 (by decide)
    have e4 : ρ 4 = x4 := hx 4 (by decide)
    subst e0
    subst e1
    subst e2
    subst e3
    subst e4
    have g7 := g7 (by decide)
    match Lc, stc, g7, g8 with
    | [v0, v1, v2], [w0, w1, w2], ⟨hv0, hv1, hv2, _⟩, ⟨hw0, hw1, hw2, _⟩ =>
      cases hv0
      cases hv1
      cases hv2
      cases hw0
      cases hw1
      cases hw2
      exact l0 τ ρ  g1 g2 g3 g4 g5 g6
set_option maxRecDepth 100000 in
theorem rf_n56 {σ : pm_S} {Q : Option Value → pm_S → Prop} (x0 x1 : Int)  (hB : an_GB pm_B σ) (eF : (0 ≤ x0 ∧ x0 ≤ 9) ∧ (0 ≤ x1 ∧ x1 ≤ 29) ∧ True)
    (l0 : ∀ (τ : pm_S) (y : Nat → Int), an_GB pm_B τ → FQ [] σ τ → ((0 ≤ x0 ∧ x0 ≤ 9) ∧ (0 ≤ x1 ∧ x1 ≤ 29) ∧ True) → (True) → (True) → (True) → Ok 99 7 6 [.ref 74, .int (Int32.ofInt (x0)), .int (Int32.ofInt (x1 + 1))] [] τ Q)
    : Ok 99 7 56 [.ref 74, .int (Int32.ofInt (x0)), .int (Int32.ofInt (x1))] [] σ Q := by
  refine an_seg (B := pm_B) (F := []) (T := []) (S := []) (fun _ h => absurd h List.not_mem_nil) (k := 99) (d := 6) (cs := [6]) 4 56 2 [(0, 0, 9), (1, 0, 29)] [] [(2, 74, 0), (0, 0, 0), (0, 1, 0)] [] [(6, [(2, 74, 0), (0, 0, 0), (0, 1, 1)], [], [(0, 0, 9), (1, 0, 29)], [], [], [])] (by decide +kernel) (ρ0 := (fun s => [x0, x1].getD s 0)) hB eF trivial ⟨rfl, ⟨rfl, ⟨rfl, trivial⟩⟩⟩ trivial ?_
  refine List.forall_mem_cons.mpr ⟨?_, fun _ h => absurd h List.not_mem_nil⟩
  · intro ρ τ Lc stc hx g1 g2 g3 g4 g5 g6 g7 g8
    have e0 : ρ 0 = x0 := hx 0 (by decide)
    have e1 : ρ 1 = x1 := hx 1 (by decide)
    subst e0
    subst e1
    have g7 := g7 (by decide)
    match Lc, stc, g7, g8 with
    | [v0, v1, v2], [], ⟨hv0, hv1, hv2, _⟩, _ =>
      cases hv0
      cases hv1
      cases hv2
      exact l0 τ ρ  g1 g2 g3 g4 g5 g6
set_option maxRecDepth 100000 in
theorem rf_n58 {σ : pm_S} {Q : Option Value → pm_S → Prop} (x0 : Int) (v2 : Value) (hv2 : v2.category = 1) (hB : an_GB pm_B σ) (eF : (0 ≤ x0 ∧ x0 ≤ 9) ∧ True)
    (l0 : ∀ (τ : pm_S) (y : Nat → Int), an_GB pm_B τ → FQ [] σ τ → ((0 ≤ x0 ∧ x0 ≤ 9) ∧ True) → (True) → (True) → (True) → Q none τ)
    : Ok 99 7 58 [.ref 74, .int (Int32.ofInt (x0)), v2] [] σ Q := by
  refine an_seg (B := pm_B) (F := []) (T := []) (S := []) (fun _ h => absurd h List.not_mem_nil) (k := 99) (d := 6) (cs := []) 3 58 1 [(0, 0, 9)] [] [(2, 74, 0), (0, 0, 0), (5, 0, 0)] [] [(9999, [], [], [(0, 0, 9)], [], [], [])] (by decide +kernel) (ρ0 := (fun s => [x0].getD s 0)) hB eF trivial ⟨rfl, ⟨rfl, ⟨hv2, trivial⟩⟩⟩ trivial ?_
  refine List.forall_mem_cons.mpr ⟨?_, fun _ h => absurd h List.not_mem_nil⟩
  · intro ρ τ Lc stc hx g1 g2 g3 g4 g5 g6 g7 g8
    have e0 : ρ 0 = x0 := hx 0 (by decide)
    subst e0
    match stc, g8 with
    | [], _ => exact l0 τ ρ g1 g2 g3 g4 g5 g6
set_option maxRecDepth 100000 in
theorem rf_s0 {σ : pm_S} {Q : Option Value → pm_S → Prop} (x0 x1 : Int) (v3 : Value) (v4 : Value) (v5 : Value) (v6 : Value) (hv3 : v3.category = 1) (hv4 : v4.category = 1) (hv5 : v5.category = 1) (hv6 : v6.category = 1) (hB : an_GB pm_B σ) (eF : (0 ≤ x0 ∧ x0 ≤ 9) ∧ (0 ≤ x1 ∧ x1 ≤ 9) ∧ True)
    (l0 : ∀ (τ : pm_S) (y : Nat → Int) (v5 : Value) (v6 : Value), v5.category = 1 → v6.category = 1 → an_GB pm_B τ → FQ [] σ τ → ((0 ≤ x0 ∧ x0 ≤ 9) ∧ (0 ≤ x1 ∧ x1 ≤ 9) ∧ (1 ≤ y 2 ∧ y 2 ≤ 512) ∧ True) → (True) → ((an_f 6 (Int32.ofInt (1)) (Int32.ofInt (x0))).toInt = y 2 ∧ True) → (True) → Ok 100 4 6 [.ref 74, .int (Int32.ofInt (x0)), .int (Int32.ofInt (x1)), .int (Int32.ofInt (y 2)), .int (Int32.ofInt 0), v5, v6] [] τ Q)
    : Ok 100 4 0 [.ref 74, .int (Int32.ofInt (x0)), .int (Int32.ofInt (x1)), v3, v4, v5, v6] [] σ Q := by
  refine an_seg (B := pm_B) (F := []) (T := []) (S := []) (fun _ h => absurd h List.not_mem_nil) (k := 100) (d := 3) (cs := [6]) 8 0 2 [(0, 0, 9), (1, 0, 9)] [] [(2, 74, 0), (0, 0, 0), (0, 1, 0), (5, 0, 0), (5, 0, 0), (5, 0, 0), (5, 0, 0)] [] [(6, [(2, 74, 0), (0, 0, 0), (0, 1, 0), (0, 2, 0), (1, 0, 0), (5, 0, 0), (5, 0, 0)], [], [(0, 0, 9), (1, 0, 9), (2, 1, 512)], [], [(6, (1, 0, 1), (0, 0, 0), 2)], [])] (by decide +kernel) (ρ0 := (fun s => [x0, x1].getD s 0)) hB eF trivial ⟨rfl, ⟨rfl, ⟨rfl, ⟨hv3, ⟨hv4, ⟨hv5, ⟨hv6, trivial⟩⟩⟩⟩⟩⟩⟩ trivial ?_
  refine List.forall_mem_cons.mpr ⟨?_, fun _ h => absurd h List.not_mem_nil⟩
  · intro ρ τ Lc stc hx g1 g2 g3 g4 g5 g6 g7 g8
    have e0 : ρ 0 = x0 := hx 0 (by decide)
    have e1 : ρ 1 = x1 := hx 1 (by decide)
    subst e0
    subst e1
    have g7 := g7 (by decide)
    match Lc, stc, g7, g8 with
    | [v0, v1, v2, v3, v4, v5, v6], [], ⟨hv0, hv1, hv2, hv3, hv4, hv5, hv6, _⟩, _ =>
      cases hv0
      cases hv1
      cases hv2
      cases hv3
      cases hv4
      exact l0 τ ρ v5 v6 hv5 hv6 g1 g2 g3 g4 g5 g6
set_option maxRecDepth 100000 in
theorem rf_s6 {σ : pm_S} {Q : Option Value → pm_S → Prop} (x0 x1 x2 x3 : Int) (v5 : Value) (v6 : Value) (hv5 : v5.category = 1) (hv6 : v6.category = 1) (hB : an_GB pm_B σ) (eF : (0 ≤ x0 ∧ x0 ≤ 9) ∧ (0 ≤ x1 ∧ x1 ≤ 9) ∧ (0 ≤ x2 ∧ x2 ≤ 1023) ∧ (0 ≤ x3 ∧ x3 ≤ 10) ∧ True)
    (l0 : ∀ (τ : pm_S) (y : Nat → Int), an_GB pm_B τ → FQ [] σ τ → ((0 ≤ x0 ∧ x0 ≤ 9) ∧ (0 ≤ x1 ∧ x1 ≤ 9) ∧ (0 ≤ x2 ∧ x2 ≤ 1023) ∧ (10 ≤ x3 ∧ x3 ≤ 10) ∧ True) → (True) → (True) → (True) → Q (some (.int (Int32.ofInt 99))) τ)
    (l1 : ∀ (τ : pm_S) (y : Nat → Int), an_GB pm_B τ → FQ [] σ τ → ((0 ≤ x0 ∧ x0 ≤ 9) ∧ (0 ≤ x1 ∧ x1 ≤ 9) ∧ (0 ≤ x2 ∧ x2 ≤ 1023) ∧ (0 ≤ x3 ∧ x3 ≤ 9) ∧ (0 ≤ y 4 ∧ y 4 ≤ 1023) ∧ (0 ≤ y 5 ∧ y 5 ≤ 0) ∧ True) → (y 5 ≤ y 4 + 0 ∧ True) → ((an_f 7 (Int32.ofInt (x2)) (Int32.ofInt (x1))).toInt = y 4 ∧ (an_f 3 (Int32.ofInt (y 4)) (Int32.ofInt (1))).toInt = y 5 ∧ True) → (True) → Ok 100 4 19 [.ref 74, .int (Int32.ofInt (x0)), .int (Int32.ofInt (x1)), .int (Int32.ofInt (x2)), .int (Int32.ofInt (x3)), .int (Int32.ofInt (x2)), .int (Int32.ofInt 0)] [] τ Q)
    (l2 : ∀ (τ : pm_S) (y : Nat → Int), an_GB pm_B τ → FQ [] σ τ → ((0 ≤ x0 ∧ x0 ≤ 9) ∧ (0 ≤ x1 ∧ x1 ≤ 9) ∧ (0 ≤ x2 ∧ x2 ≤ 1023) ∧ (0 ≤ x3 ∧ x3 ≤ 9) ∧ (0 ≤ y 4 ∧ y 4 ≤ 1023) ∧ (1 ≤ y 5 ∧ y 5 ≤ 1) ∧ True) → (y 5 ≤ y 4 + 0 ∧ True) → ((an_f 7 (Int32.ofInt (x2)) (Int32.ofInt (x1))).toInt = y 4 ∧ (an_f 3 (Int32.ofInt (y 4)) (Int32.ofInt (1))).toInt = y 5 ∧ True) → (True) → Q (some (.int (Int32.ofInt (x3)))) τ)
    : Ok 100 4 6 [.ref 74, .int (Int32.ofInt (x0)), .int (Int32.ofInt (x1)), .int (Int32.ofInt (x2)), .int (Int32.ofInt (x3)), v5, v6] [] σ Q := by
  refine an_seg (B := pm_B) (F := []) (T := []) (S := []) (fun _ h => absurd h List.not_mem_nil) (k := 100) (d := 3) (cs := [19]) 22 6 4 [(0, 0, 9), (1, 0, 9), (2, 0, 1023), (3, 0, 10)] [] [(2, 74, 0), (0, 0, 0), (0, 1, 0), (0, 2, 0), (0, 3, 0), (5, 0, 0), (5, 0, 0)] [] [(9999, [], [(1, 0, 99)], [(0, 0, 9), (1, 0, 9), (2, 0, 1023), (3, 10, 10)], [], [], []),
    (19, [(2, 74, 0), (0, 0, 0), (0, 1, 0), (0, 2, 0), (0, 3, 0), (0, 2, 0), (1, 0, 0)], [], [(0, 0, 9), (1, 0, 9), (2, 0, 1023), (3, 0, 9), (4, 0, 1023), (5, 0, 0)], [(1, 5, 4, 0)], [(7, (0, 2, 0), (0, 1, 0), 4), (3, (0, 4, 0), (1, 0, 1), 5)], []),
    (9999, [], [(0, 3, 0)], [(0, 0, 9), (1, 0, 9), (2, 0, 1023), (3, 0, 9), (4, 0, 1023), (5, 1, 1)], [(1, 5, 4, 0)], [(7, (0, 2, 0), (0, 1, 0), 4), (3, (0, 4, 0), (1, 0, 1), 5)], [])] (by decide +kernel) (ρ0 := (fun s => [x0, x1, x2, x3].getD s 0)) hB eF trivial ⟨rfl, ⟨rfl, ⟨rfl, ⟨rfl, ⟨rfl, ⟨hv5, ⟨hv6, trivial⟩⟩⟩⟩⟩⟩⟩ trivial ?_
  refine List.forall_mem_cons.mpr ⟨?_, List.forall_mem_cons.mpr ⟨?_, List.forall_mem_cons.mpr ⟨?_, fun _ h => absurd h List.not_mem_nil⟩⟩⟩
  · intro ρ τ Lc stc hx g1 g2 g3 g4 g5 g6 g7 g8
    have e0 : ρ 0 = x0 := hx 0 (by decide)
    have e1 : ρ 1 = x1 := hx 1 (by decide)
    have e2 : ρ 2 = x2 := hx 2 (by decide)
    have e3 : ρ 3 = x3 := hx 3 (by decide)
    subst e0
    subst e1
    subst e2
    subst e3
    match stc, g8 with
    | [_], ⟨h, _⟩ => cases h; exact l0 τ ρ g1 g2 g3 g4 g5 g6
  · intro ρ τ Lc stc hx g1 g2 g3 g4 g5 g6 g7 g8
    have e0 : ρ 0 = x0 := hx 0 (by decide)
    have e1 : ρ 1 = x1 := hx 1 (by decide)
    have e2 : ρ 2 = x2 := hx 2 (by decide)
    have e3 : ρ 3 = x3 := hx 3 (by decide)
    subst e0
    subst e1
    subst e2
    subst e3
    have g7 := g7 (by decide)
    match Lc, stc, g7, g8 with
    | [v0, v1, v2, v3, v4, v5, v6], [], ⟨hv0, hv1, hv2, hv3, hv4, hv5, hv6, _⟩, _ =>
      cases hv0
      cases hv1
      cases hv2
      cases hv3
      cases hv4
      cases hv5
      cases hv6
      exact l1 τ ρ  g1 g2 g3 g4 g5 g6
  · intro ρ τ Lc stc hx g1 g2 g3 g4 g5 g6 g7 g8
    have e0 : ρ 0 = x0 := hx 0 (by decide)
    have e1 : ρ 1 = x1 := hx 1 (by decide)
    have e2 : ρ 2 = x2 := hx 2 (by decide)
    have e3 : ρ 3 = x3 := hx 3 (by decide)
    subst e0
    subst e1
    subst e2
    subst e3
    match stc, g8 with
    | [_], ⟨h, _⟩ => cases h; exact l2 τ ρ g1 g2 g3 g4 g5 g6
set_option maxRecDepth 100000 in
theorem rf_s19 {σ : pm_S} {Q : Option Value → pm_S → Prop} (x0 x1 x2 x3 x4 x5 x6 : Int)  (hB : an_GB pm_B σ) (eF : (0 ≤ x0 ∧ x0 ≤ 9) ∧ (0 ≤ x1 ∧ x1 ≤ 9) ∧ (0 ≤ x2 ∧ x2 ≤ 1023) ∧ (0 ≤ x3 ∧ x3 ≤ 9) ∧ (0 ≤ x4 ∧ x4 ≤ 1023) ∧ (0 ≤ x5 ∧ x5 ≤ 10) ∧ (0 ≤ x6 ∧ x6 ≤ 10) ∧ True) (eC : (σ.1 7 0).toInt = x6 ∧ True)
    (l0 : ∀ (τ : pm_S) (y : Nat → Int), an_GB pm_B τ → FQ [] σ τ → ((0 ≤ x0 ∧ x0 ≤ 9) ∧ (0 ≤ x1 ∧ x1 ≤ 9) ∧ (0 ≤ x2 ∧ x2 ≤ 1023) ∧ (0 ≤ x3 ∧ x3 ≤ 9) ∧ (0 ≤ x4 ∧ x4 ≤ 1023) ∧ (0 ≤ x5 ∧ x5 ≤ 10) ∧ (0 ≤ x6 ∧ x6 ≤ 10) ∧ True) → (True) → (True) → ((τ.1 7 0).toInt = x6 ∧ True) → Ok 100 4 24 [.ref 74, .int (Int32.ofInt (x0)), .int (Int32.ofInt (x1)), .int (Int32.ofInt (x2)), .int (Int32.ofInt (x3)), .int (Int32.ofInt (x4)), .int (Int32.ofInt (x5))] [.int (Int32.ofInt (x6)), .int (Int32.ofInt (x5))] τ Q)
    : Ok 100 4 19 [.ref 74, .int (Int32.ofInt (x0)), .int (Int32.ofInt (x1)), .int (Int32.ofInt (x2)), .int (Int32.ofInt (x3)), .int (Int32.ofInt (x4)), .int (Int32.ofInt (x5))] [] σ Q := by
  refine an_seg (B := pm_B) (F := []) (T := []) (S := []) (fun _ h => absurd h List.not_mem_nil) (k := 100) (d := 3) (cs := [24]) 7 19 7 [(0, 0, 9), (1, 0, 9), (2, 0, 1023), (3, 0, 9), (4, 0, 1023), (5, 0, 10), (6, 0, 10)] [(7, (1, 0, 0), (0, 6, 0))] [(2, 74, 0), (0, 0, 0), (0, 1, 0), (0, 2, 0), (0, 3, 0), (0, 4, 0), (0, 5, 0)] [] [(24, [(2, 74, 0), (0, 0, 0), (0, 1, 0), (0, 2, 0), (0, 3, 0), (0, 4, 0), (0, 5, 0)], [(0, 6, 0), (0, 5, 0)], [(0, 0, 9), (1, 0, 9), (2, 0, 1023), (3, 0, 9), (4, 0, 1023), (5, 0, 10), (6, 0, 10)], [], [], [(7, (1, 0, 0), (0, 6, 0))])] (by decide +kernel) (ρ0 := (fun s => [x0, x1, x2, x3, x4, x5, x6].getD s 0)) hB eF eC ⟨rfl, ⟨rfl, ⟨rfl, ⟨rfl, ⟨rfl, ⟨rfl, ⟨rfl, trivial⟩⟩⟩⟩⟩⟩⟩ trivial ?_
  refine List.forall_mem_cons.mpr ⟨?_, fun _ h => absurd h List.not_mem_nil⟩
  · intro ρ τ Lc stc hx g1 g2 g3 g4 g5 g6 g7 g8
    have e0 : ρ 0 = x0 := hx 0 (by decide)
    have e1 : ρ 1 = x1 := hx 1 (by decide)
    have e2 : ρ 2 = x2 := hx 2 (by decide)
    have e3 : ρ 3 = x3 := hx 3 (by decide)
    have e4 : ρ 4 = x4 := hx 4 (by decide)
    have e5 : ρ 5 = x5 := hx 5 (by decide)
    have e6 : ρ 6 = x6 := hx 6 (by decide)
    subst e0
    subst e1
    subst e2
    subst e3
    subst e4
    subst e5
    subst e6
    have g7 := g7 (by decide)
    match Lc, stc, g7, g8 with
    | [v0, v1, v2, v3, v4, v5, v6], [w0, w1], ⟨hv0, hv1, hv2, hv3, hv4, hv5, hv6, _⟩, ⟨hw0, hw1, _⟩ =>
      cases hv0
      cases hv1
      cases hv2
      cases hv3
      cases hv4
      cases hv5
      cases hv6
      cases hw0
      cases hw1
      exact l0 τ ρ  g1 g2 g3 g4 g5 g6
set_option maxRecDepth 100000 in
theorem rf_s25 {σ : pm_S} {Q : Option Value → pm_S → Prop} (x0 x1 x2 x3 x4 x5 x6 : Int)  (hB : an_GB pm_B σ) (eF : (0 ≤ x0 ∧ x0 ≤ 9) ∧ (0 ≤ x1 ∧ x1 ≤ 9) ∧ (0 ≤ x2 ∧ x2 ≤ 1023) ∧ (0 ≤ x3 ∧ x3 ≤ 9) ∧ (0 ≤ x4 ∧ x4 ≤ 1023) ∧ (0 ≤ x5 ∧ x5 ≤ 9) ∧ (0 ≤ x6 ∧ x6 ≤ 1023) ∧ True) (eC : (σ.1 77 (x5).toNat).toInt = x6 ∧ True)
    (l0 : ∀ (τ : pm_S) (y : Nat → Int), an_GB pm_B τ → FQ [] σ τ → ((0 ≤ x0 ∧ x0 ≤ 9) ∧ (0 ≤ x1 ∧ x1 ≤ 9) ∧ (0 ≤ x2 ∧ x2 ≤ 1023) ∧ (0 ≤ x3 ∧ x3 ≤ 9) ∧ (0 ≤ x4 ∧ x4 ≤ 1023) ∧ (0 ≤ x5 ∧ x5 ≤ 9) ∧ (0 ≤ x6 ∧ x6 ≤ 1023) ∧ (0 ≤ y 7 ∧ y 7 ≤ 1023) ∧ (0 ≤ y 8 ∧ y 8 ≤ 0) ∧ (0 ≤ y 9 ∧ y 9 ≤ 1023) ∧ True) → (y 8 ≤ y 7 + 0 ∧ True) → ((an_f 7 (Int32.ofInt (x2)) (Int32.ofInt (x5))).toInt = y 7 ∧ (an_f 3 (Int32.ofInt (y 7)) (Int32.ofInt (1))).toInt = y 8 ∧ (an_f 4 (Int32.ofInt (x4)) (Int32.ofInt (0))).toInt = y 9 ∧ True) → ((τ.1 77 (x5).toNat).toInt = x6 ∧ True) → Ok 100 4 19 [.ref 74, .int (Int32.ofInt (x0)), .int (Int32.ofInt (x1)), .int (Int32.ofInt (x2)), .int (Int32.ofInt (x3)), .int (Int32.ofInt (y 9)), .int (Int32.ofInt (x5 + 1))] [] τ Q)
    (l1 : ∀ (τ : pm_S) (y : Nat → Int), an_GB pm_B τ → FQ [] σ τ → ((0 ≤ x0 ∧ x0 ≤ 9) ∧ (0 ≤ x1 ∧ x1 ≤ 9) ∧ (0 ≤ x2 ∧ x2 ≤ 1023) ∧ (0 ≤ x3 ∧ x3 ≤ 9) ∧ (0 ≤ x4 ∧ x4 ≤ 1023) ∧ (0 ≤ x5 ∧ x5 ≤ 9) ∧ (0 ≤ x6 ∧ x6 ≤ 1023) ∧ (0 ≤ y 7 ∧ y 7 ≤ 1023) ∧ (1 ≤ y 8 ∧ y 8 ≤ 1) ∧ (0 ≤ y 9 ∧ y 9 ≤ 1023) ∧ True) → (y 8 ≤ y 7 + 0 ∧ True) → ((an_f 7 (Int32.ofInt (x2)) (Int32.ofInt (x5))).toInt = y 7 ∧ (an_f 3 (Int32.ofInt (y 7)) (Int32.ofInt (1))).toInt = y 8 ∧ (an_f 4 (Int32.ofInt (x4)) (Int32.ofInt (x6))).toInt = y 9 ∧ True) → ((τ.1 77 (x5).toNat).toInt = x6 ∧ True) → Ok 100 4 19 [.ref 74, .int (Int32.ofInt (x0)), .int (Int32.ofInt (x1)), .int (Int32.ofInt (x2)), .int (Int32.ofInt (x3)), .int (Int32.ofInt (y 9)), .int (Int32.ofInt (x5 + 1))] [] τ Q)
    : Ok 100 4 25 [.ref 74, .int (Int32.ofInt (x0)), .int (Int32.ofInt (x1)), .int (Int32.ofInt (x2)), .int (Int32.ofInt (x3)), .int (Int32.ofInt (x4)), .int (Int32.ofInt (x5))] [] σ Q := by
  refine an_seg (B := pm_B) (F := []) (T := [77]) (S := []) (fun _ h => absurd h List.not_mem_nil) (k := 100) (d := 3) (cs := [19]) 26 25 7 [(0, 0, 9), (1, 0, 9), (2, 0, 1023), (3, 0, 9), (4, 0, 1023), (5, 0, 9), (6, 0, 1023)] [(77, (0, 5, 0), (0, 6, 0))] [(2, 74, 0), (0, 0, 0), (0, 1, 0), (0, 2, 0), (0, 3, 0), (0, 4, 0), (0, 5, 0)] [] [(19, [(2, 74, 0), (0, 0, 0), (0, 1, 0), (0, 2, 0), (0, 3, 0), (0, 9, 0), (0, 5, 1)], [], [(0, 0, 9), (1, 0, 9), (2, 0, 1023), (3, 0, 9), (4, 0, 1023), (5, 0, 9), (6, 0, 1023), (7, 0, 1023), (8, 0, 0), (9, 0, 1023)], [(1, 8, 7, 0)], [(7, (0, 2, 0), (0, 5, 0), 7), (3, (0, 7, 0), (1, 0, 1), 8), (4, (0, 4, 0), (1, 0, 0), 9)], [(77, (0, 5, 0), (0, 6, 0))]),
    (19, [(2, 74, 0), (0, 0, 0), (0, 1, 0), (0, 2, 0), (0, 3, 0), (0, 9, 0), (0, 5, 1)], [], [(0, 0, 9), (1, 0, 9), (2, 0, 1023), (3, 0, 9), (4, 0, 1023), (5, 0, 9), (6, 0, 1023), (7, 0, 1023), (8, 1, 1), (9, 0, 1023)], [(1, 8, 7, 0)], [(7, (0, 2, 0), (0, 5, 0), 7), (3, (0, 7, 0), (1, 0, 1), 8), (4, (0, 4, 0), (0, 6, 0), 9)], [(77, (0, 5, 0), (0, 6, 0))])] (by decide +kernel) (ρ0 := (fun s => [x0, x1, x2, x3, x4, x5, x6].getD s 0)) hB eF eC ⟨rfl, ⟨rfl, ⟨rfl, ⟨rfl, ⟨rfl, ⟨rfl, ⟨rfl, trivial⟩⟩⟩⟩⟩⟩⟩ trivial ?_
  refine List.forall_mem_cons.mpr ⟨?_, List.forall_mem_cons.mpr ⟨?_, fun _ h => absurd h List.not_mem_nil⟩⟩
  · intro ρ τ Lc stc hx g1 g2 g3 g4 g5 g6 g7 g8
    have e0 : ρ 0 = x0 := hx 0 (by decide)
    have e1 : ρ 1 = x1 := hx 1 (by decide)
    have e2 : ρ 2 = x2 := hx 2 (by decide)
    have e3 : ρ 3 = x3 := hx 3 (by decide)
    have e4 : ρ 4 = x4 := hx 4 (by decide)
    have e5 : ρ 5 = x5 := hx 5 (by decide)
    have e6 : ρ 6 = x6 := hx 6 (by decide)
    subst e0
    subst e1
    subst e2
    subst e3
    subst e4
    subst e5
    subst e6
    have g7 := g7 (by decide)
    match Lc, stc, g7, g8 with
    | [v0, v1, v2, v3, v4, v5, v6], [], ⟨hv0, hv1, hv2, hv3, hv4, hv5, hv6, _⟩, _ =>
      cases hv0
      cases hv1
      cases hv2
      cases hv3
      cases hv4
      cases hv5
      cases hv6
      exact l0 τ ρ  g1 g2 g3 g4 g5 g6
  · intro ρ τ Lc stc hx g1 g2 g3 g4 g5 g6 g7 g8
    have e0 : ρ 0 = x0 := hx 0 (by decide)
    have e1 : ρ 1 = x1 := hx 1 (by decide)
    have e2 : ρ 2 = x2 := hx 2 (by decide)
    have e3 : ρ 3 = x3 := hx 3 (by decide)
    have e4 : ρ 4 = x4 := hx 4 (by decide)
    have e5 : ρ 5 = x5 := hx 5 (by decide)
    have e6 : ρ 6 = x6 := hx 6 (by decide)
    subst e0
    subst e1
    subst e2
    subst e3
    subst e4
    subst e5
    subst e6
    have g7 := g7 (by decide)
    match Lc, stc, g7, g8 with
    | [v0, v1, v2, v3, v4, v5, v6], [], ⟨hv0, hv1, hv2, hv3, hv4, hv5, hv6, _⟩, _ =>
      cases hv0
      cases hv1
      cases hv2
      cases hv3
      cases hv4
      cases hv5
      cases hv6
      exact l1 τ ρ  g1 g2 g3 g4 g5 g6
set_option maxRecDepth 100000 in
theorem rf_s40 {σ : pm_S} {Q : Option Value → pm_S → Prop} (x0 x1 x2 x3 x4 : Int) (v6 : Value) (hv6 : v6.category = 1) (hB : an_GB pm_B σ) (eF : (0 ≤ x0 ∧ x0 ≤ 9) ∧ (0 ≤ x1 ∧ x1 ≤ 9) ∧ (0 ≤ x2 ∧ x2 ≤ 1023) ∧ (0 ≤ x3 ∧ x3 ≤ 9) ∧ (0 ≤ x4 ∧ x4 ≤ 1023) ∧ True)
    (l0 : ∀ (τ : pm_S) (y : Nat → Int) (v6 : Value), v6.category = 1 → an_GB pm_B τ → FQ [] σ τ → ((0 ≤ x0 ∧ x0 ≤ 9) ∧ (0 ≤ x1 ∧ x1 ≤ 9) ∧ (0 ≤ x2 ∧ x2 ≤ 1023) ∧ (0 ≤ x3 ∧ x3 ≤ 9) ∧ (0 ≤ x4 ∧ x4 ≤ 1023) ∧ True) → (True) → (True) → (True) → Ok 100 4 42 [.ref 74, .int (Int32.ofInt (x0)), .int (Int32.ofInt (x1)), .int (Int32.ofInt (x2)), .int (Int32.ofInt (x3)), .int (Int32.ofInt (x4)), v6] [.int (Int32.ofInt (x2)), .int (Int32.ofInt (x4))] τ Q)
    : Ok 100 4 40 [.ref 74, .int (Int32.ofInt (x0)), .int (Int32.ofInt (x1)), .int (Int32.ofInt (x2)), .int (Int32.ofInt (x3)), .int (Int32.ofInt (x4)), v6] [] σ Q := by
  refine an_seg (B := pm_B) (F := []) (T := []) (S := []) (fun _ h => absurd h List.not_mem_nil) (k := 100) (d := 3) (cs := [42]) 4 40 5 [(0, 0, 9), (1, 0, 9), (2, 0, 1023), (3, 0, 9), (4, 0, 1023)] [] [(2, 74, 0), (0, 0, 0), (0, 1, 0), (0, 2, 0), (0, 3, 0), (0, 4, 0), (5, 0, 0)] [] [(42, [(2, 74, 0), (0, 0, 0), (0, 1, 0), (0, 2, 0), (0, 3, 0), (0, 4, 0), (5, 0, 0)], [(0, 2, 0), (0, 4, 0)], [(0, 0, 9), (1, 0, 9), (2, 0, 1023), (3, 0, 9), (4, 0, 1023)], [], [], [])] (by decide +kernel) (ρ0 := (fun s => [x0, x1, x2, x3, x4].getD s 0)) hB eF trivial ⟨rfl, ⟨rfl, ⟨rfl, ⟨rfl, ⟨rfl, ⟨rfl, ⟨hv6, trivial⟩⟩⟩⟩⟩⟩⟩ trivial ?_
  refine List.forall_mem_cons.mpr ⟨?_, fun _ h => absurd h List.not_mem_nil⟩
  · intro ρ τ Lc stc hx g1 g2 g3 g4 g5 g6 g7 g8
    have e0 : ρ 0 = x0 := hx 0 (by decide)
    have e1 : ρ 1 = x1 := hx 1 (by decide)
    have e2 : ρ 2 = x2 := hx 2 (by decide)
    have e3 : ρ 3 = x3 := hx 3 (by decide)
    have e4 : ρ 4 = x4 := hx 4 (by decide)
    subst e0
    subst e1
    subst e2
    subst e3
    subst e4
    have g7 := g7 (by decide)
    match Lc, stc, g7, g8 with
    | [v0, v1, v2, v3, v4, v5, v6], [w0, w1], ⟨hv0, hv1, hv2, hv3, hv4, hv5, hv6, _⟩, ⟨hw0, hw1, _⟩ =>
      cases hv0
      cases hv1
      cases hv2
      cases hv3
      cases hv4
      cases hv5
      cases hw0
      cases hw1
      exact l0 τ ρ v6 hv6 g1 g2 g3 g4 g5 g6
set_option maxRecDepth 100000 in
theorem rf_s43 {σ : pm_S} {Q : Option Value → pm_S → Prop} (x0 x1 x2 x3 x4 : Int) (v6 : Value) (hv6 : v6.category = 1) (hB : an_GB pm_B σ) (eF : (0 ≤ x0 ∧ x0 ≤ 9) ∧ (0 ≤ x1 ∧ x1 ≤ 9) ∧ (0 ≤ x2 ∧ x2 ≤ 1023) ∧ (0 ≤ x3 ∧ x3 ≤ 9) ∧ (0 ≤ x4 ∧ x4 ≤ 1023) ∧ True)
    (l0 : ∀ (τ : pm_S) (y : Nat → Int), an_GB pm_B τ → FQ [] σ τ → ((0 ≤ x0 ∧ x0 ≤ 9) ∧ (0 ≤ x1 ∧ x1 ≤ 9) ∧ (0 ≤ x2 ∧ x2 ≤ 1023) ∧ (0 ≤ x3 ∧ x3 ≤ 9) ∧ (0 ≤ x4 ∧ x4 ≤ 1023) ∧ True) → (True) → (True) → (True) → Q (some (.int (Int32.ofInt 99))) τ)
    : Ok 100 4 43 [.ref 74, .int (Int32.ofInt (x0)), .int (Int32.ofInt (x1)), .int (Int32.ofInt (x2)), .int (Int32.ofInt (x3)), .int (Int32.ofInt (x4)), v6] [] σ Q := by
  refine an_seg (B := pm_B) (F := []) (T := []) (S := []) (fun _ h => absurd h List.not_mem_nil) (k := 100) (d := 3) (cs := []) 4 43 5 [(0, 0, 9), (1, 0, 9), (2, 0, 1023), (3, 0, 9), (4, 0, 1023)] [] [(2, 74, 0), (0, 0, 0), (0, 1, 0), (0, 2, 0), (0, 3, 0), (0, 4, 0), (5, 0, 0)] [] [(9999, [], [(1, 0, 99)], [(0, 0, 9), (1, 0, 9), (2, 0, 1023), (3, 0, 9), (4, 0, 1023)], [], [], [])] (by decide +kernel) (ρ0 := (fun s => [x0, x1, x2, x3, x4].getD s 0)) hB eF trivial ⟨rfl, ⟨rfl, ⟨rfl, ⟨rfl, ⟨rfl, ⟨rfl, ⟨hv6, trivial⟩⟩⟩⟩⟩⟩⟩ trivial ?_
  refine List.forall_mem_cons.mpr ⟨?_, fun _ h => absurd h List.not_mem_nil⟩
  · intro ρ τ Lc stc hx g1 g2 g3 g4 g5 g6 g7 g8
    have e0 : ρ 0 = x0 := hx 0 (by decide)
    have e1 : ρ 1 = x1 := hx 1 (by decide)
    have e2 : ρ 2 = x2 := hx 2 (by decide)
    have e3 : ρ 3 = x3 := hx 3 (by decide)
    have e4 : ρ 4 = x4 := hx 4 (by decide)
    subst e0
    subst e1
    subst e2
    subst e3
    subst e4
    match stc, g8 with
    | [_], ⟨h, _⟩ => cases h; exact l0 τ ρ g1 g2 g3 g4 g5 g6
set_option maxRecDepth 100000 in
theorem rf_s45 {σ : pm_S} {Q : Option Value → pm_S → Prop} (x0 x1 x2 x3 x4 : Int) (v6 : Value) (hv6 : v6.category = 1) (hB : an_GB pm_B σ) (eF : (0 ≤ x0 ∧ x0 ≤ 9) ∧ (0 ≤ x1 ∧ x1 ≤ 9) ∧ (0 ≤ x2 ∧ x2 ≤ 1023) ∧ (0 ≤ x3 ∧ x3 ≤ 9) ∧ (0 ≤ x4 ∧ x4 ≤ 1023) ∧ True)
    (l0 : ∀ (τ : pm_S) (y : Nat → Int) (v6 : Value), v6.category = 1 → an_GB pm_B τ → FQ [] σ τ → ((0 ≤ x0 ∧ x0 ≤ 9) ∧ (0 ≤ x1 ∧ x1 ≤ 9) ∧ (0 ≤ x2 ∧ x2 ≤ 1023) ∧ (0 ≤ x3 ∧ x3 ≤ 9) ∧ (0 ≤ x4 ∧ x4 ≤ 1023) ∧ True) → (True) → (True) → (True) → Ok 100 4 6 [.ref 74, .int (Int32.ofInt (x0)), .int (Int32.ofInt (x1)), .int (Int32.ofInt (x4)), .int (Int32.ofInt (x3 + 1)), .int (Int32.ofInt (x4)), v6] [] τ Q)
    : Ok 100 4 45 [.ref 74, .int (Int32.ofInt (x0)), .int (Int32.ofInt (x1)), .int (Int32.ofInt (x2)), .int (Int32.ofInt (x3)), .int (Int32.ofInt (x4)), v6] [] σ Q := by
  refine an_seg (B := pm_B) (F := []) (T := []) (S := []) (fun _ h => absurd h List.not_mem_nil) (k := 100) (d := 3) (cs := [6]) 6 45 5 [(0, 0, 9), (1, 0, 9), (2, 0, 1023), (3, 0, 9), (4, 0, 1023)] [] [(2, 74, 0), (0, 0, 0), (0, 1, 0), (0, 2, 0), (0, 3, 0), (0, 4, 0), (5, 0, 0)] [] [(6, [(2, 74, 0), (0, 0, 0), (0, 1, 0), (0, 4, 0), (0, 3, 1), (0, 4, 0), (5, 0, 0)], [], [(0, 0, 9), (1, 0, 9), (2, 0, 1023), (3, 0, 9), (4, 0, 1023)], [], [], [])] (by decide +kernel) (ρ0 := (fun s => [x0, x1, x2, x3, x4].getD s 0)) hB eF trivial ⟨rfl, ⟨rfl, ⟨rfl, ⟨rfl, ⟨rfl, ⟨rfl, ⟨hv6, trivial⟩⟩⟩⟩⟩⟩⟩ trivial ?_
  refine List.forall_mem_cons.mpr ⟨?_, fun _ h => absurd h List.not_mem_nil⟩
  · intro ρ τ Lc stc hx g1 g2 g3 g4 g5 g6 g7 g8
    have e0 : ρ 0 = x0 := hx 0 (by decide)
    have e1 : ρ 1 = x1 := hx 1 (by decide)
    have e2 : ρ 2 = x2 := hx 2 (by decide)
    have e3 : ρ 3 = x3 := hx 3 (by decide)
    have e4 : ρ 4 = x4 := hx 4 (by decide)
    subst e0
    subst e1
    subst e2
    subst e3
    subst e4
    have g7 := g7 (by decide)
    match Lc, stc, g7, g8 with
    | [v0, v1, v2, v3, v4, v5, v6], [], ⟨hv0, hv1, hv2, hv3, hv4, hv5, hv6, _⟩, _ =>
      cases hv0
      cases hv1
      cases hv2
      cases hv3
      cases hv4
      cases hv5
      exact l0 τ ρ v6 hv6 g1 g2 g3 g4 g5 g6
set_option maxRecDepth 100000 in
theorem rf_r0 {σ : pm_S} {Q : Option Value → pm_S → Prop} (x0 : Int) (v2 : Value) (v3 : Value) (v4 : Value) (v5 : Value) (hv2 : v2.category = 1) (hv3 : v3.category = 1) (hv4 : v4.category = 1) (hv5 : v5.category = 1) (hB : an_GB pm_B σ) (eF : (0 ≤ x0 ∧ x0 ≤ 9) ∧ True)
    (l0 : ∀ (τ : pm_S) (y : Nat → Int) (v2 : Value) (v3 : Value) (v4 : Value) (v5 : Value), v2.category = 1 → v3.category = 1 → v4.category = 1 → v5.category = 1 → an_GB pm_B τ → FQ [] σ τ → ((0 ≤ x0 ∧ x0 ≤ 9) ∧ True) → (True) → (True) → (True) → Ok 98 10 2 [.ref 74, .int (Int32.ofInt (x0)), v2, v3, v4, v5] [.int (Int32.ofInt (x0)), .ref 74] τ Q)
    : Ok 98 10 0 [.ref 74, .int (Int32.ofInt (x0)), v2, v3, v4, v5] [] σ Q := by
  refine an_seg (B := pm_B) (F := []) (T := []) (S := []) (fun _ h => absurd h List.not_mem_nil) (k := 98) (d := 9) (cs := [2]) 4 0 1 [(0, 0, 9)] [] [(2, 74, 0), (0, 0, 0), (5, 0, 0), (5, 0, 0), (5, 0, 0), (5, 0, 0)] [] [(2, [(2, 74, 0), (0, 0, 0), (5, 0, 0), (5, 0, 0), (5, 0, 0), (5, 0, 0)], [(0, 0, 0), (2, 74, 0)], [(0, 0, 9)], [], [], [])] (by decide +kernel) (ρ0 := (fun s => [x0].getD s 0)) hB eF trivial ⟨rfl, ⟨rfl, ⟨hv2, ⟨hv3, ⟨hv4, ⟨hv5, trivial⟩⟩⟩⟩⟩⟩ trivial ?_
  refine List.forall_mem_cons.mpr ⟨?_, fun _ h => absurd h List.not_mem_nil⟩
  · intro ρ τ Lc stc hx g1 g2 g3 g4 g5 g6 g7 g8
    have e0 : ρ 0 = x0 := hx 0 (by decide)
    subst e0
    have g7 := g7 (by decide)
    match Lc, stc, g7, g8 with
    | [v0, v1, v2, v3, v4, v5], [w0, w1], ⟨hv0, hv1, hv2, hv3, hv4, hv5, _⟩, ⟨hw0, hw1, _⟩ =>
      cases hv0
      cases hv1
      cases hw0
      cases hw1
      exact l0 τ ρ v2 v3 v4 v5 hv2 hv3 hv4 hv5 g1 g2 g3 g4 g5 g6
set_option maxRecDepth 100000 in
theorem rf_r3 {σ : pm_S} {Q : Option Value → pm_S → Prop} (x0 : Int) (v2 : Value) (v3 : Value) (v4 : Value) (v5 : Value) (hv2 : v2.category = 1) (hv3 : v3.category = 1) (hv4 : v4.category = 1) (hv5 : v5.category = 1) (hB : an_GB pm_B σ) (eF : (0 ≤ x0 ∧ x0 ≤ 9) ∧ True)
    (l0 : ∀ (τ : pm_S) (y : Nat → Int) (v5 : Value), v5.category = 1 → an_GB pm_B τ → FQ [] σ τ → ((0 ≤ x0 ∧ x0 ≤ 9) ∧ True) → (True) → (True) → (True) → Ok 98 10 9 [.ref 74, .int (Int32.ofInt (x0)), .int (Int32.ofInt 99), .int (Int32.ofInt (-1)), .int (Int32.ofInt 0), v5] [] τ Q)
    : Ok 98 10 3 [.ref 74, .int (Int32.ofInt (x0)), v2, v3, v4, v5] [] σ Q := by
  refine an_seg (B := pm_B) (F := []) (T := []) (S := []) (fun _ h => absurd h List.not_mem_nil) (k := 98) (d := 9) (cs := [9]) 8 3 1 [(0, 0, 9)] [] [(2, 74, 0), (0, 0, 0), (5, 0, 0), (5, 0, 0), (5, 0, 0), (5, 0, 0)] [] [(9, [(2, 74, 0), (0, 0, 0), (1, 0, 99), (1, 0, (-1)), (1, 0, 0), (5, 0, 0)], [], [(0, 0, 9)], [], [], [])] (by decide +kernel) (ρ0 := (fun s => [x0].getD s 0)) hB eF trivial ⟨rfl, ⟨rfl, ⟨hv2, ⟨hv3, ⟨hv4, ⟨hv5, trivial⟩⟩⟩⟩⟩⟩ trivial ?_
  refine List.forall_mem_cons.mpr ⟨?_, fun _ h => absurd h List.not_mem_nil⟩
  · intro ρ τ Lc stc hx g1 g2 g3 g4 g5 g6 g7 g8
    have e0 : ρ 0 = x0 := hx 0 (by decide)
    subst e0
    have g7 := g7 (by decide)
    match Lc, stc, g7, g8 with
    | [v0, v1, v2, v3, v4, v5], [], ⟨hv0, hv1, hv2, hv3, hv4, hv5, _⟩, _ =>
      cases hv0
      cases hv1
      cases hv2
      cases hv3
      cases hv4
      exact l0 τ ρ v5 hv5 g1 g2 g3 g4 g5 g6
set_option maxRecDepth 100000 in
theorem rf_r9 {σ : pm_S} {Q : Option Value → pm_S → Prop} (x0 x1 x2 x3 x4 : Int) (v5 : Value) (hv5 : v5.category = 1) (hB : an_GB pm_B σ) (eF : (0 ≤ x0 ∧ x0 ≤ 9) ∧ (0 ≤ x1 ∧ x1 ≤ 99) ∧ ((-1) ≤ x2 ∧ x2 ≤ 29) ∧ (0 ≤ x3 ∧ x3 ≤ 30) ∧ (0 ≤ x4 ∧ x4 ≤ 30) ∧ True) (eC : (σ.1 13 0).toInt = x4 ∧ True)
    (l0 : ∀ (τ : pm_S) (y : Nat → Int) (v5 : Value), v5.category = 1 → an_GB pm_B τ → FQ [] σ τ → ((0 ≤ x0 ∧ x0 ≤ 9) ∧ (0 ≤ x1 ∧ x1 ≤ 99) ∧ ((-1) ≤ x2 ∧ x2 ≤ 29) ∧ (0 ≤ x3 ∧ x3 ≤ 30) ∧ (0 ≤ x4 ∧ x4 ≤ 30) ∧ True) → (True) → (True) → ((τ.1 13 0).toInt = x4 ∧ True) → Ok 98 10 14 [.ref 74, .int (Int32.ofInt (x0)), .int (Int32.ofInt (x1)), .int (Int32.ofInt (x2)), .int (Int32.ofInt (x3)), v5] [.int (Int32.ofInt (x4)), .int (Int32.ofInt (x3))] τ Q)
    : Ok 98 10 9 [.ref 74, .int (Int32.ofInt (x0)), .int (Int32.ofInt (x1)), .int (Int32.ofInt (x2)), .int (Int32.ofInt (x3)), v5] [] σ Q := by
  refine an_seg (B := pm_B) (F := []) (T := []) (S := []) (fun _ h => absurd h List.not_mem_nil) (k := 98) (d := 9) (cs := [14]) 7 9 5 [(0, 0, 9), (1, 0, 99), (2, (-1), 29), (3, 0, 30), (4, 0, 30)] [(13, (1, 0, 0), (0, 4, 0))] [(2, 74, 0), (0, 0, 0), (0, 1, 0), (0, 2, 0), (0, 3, 0), (5, 0, 0)] [] [(14, [(2, 74, 0), (0, 0, 0), (0, 1, 0), (0, 2, 0), (0, 3, 0), (5, 0, 0)], [(0, 4, 0), (0, 3, 0)], [(0, 0, 9), (1, 0, 99), (2, (-1), 29), (3, 0, 30), (4, 0, 30)], [], [], [(13, (1, 0, 0), (0, 4, 0))])] (by decide +kernel) (ρ0 := (fun s => [x0, x1, x2, x3, x4].getD s 0)) hB eF eC ⟨rfl, ⟨rfl, ⟨rfl, ⟨rfl, ⟨rfl, ⟨hv5, trivial⟩⟩⟩⟩⟩⟩ trivial ?_
  refine List.forall_mem_cons.mpr ⟨?_, fun _ h => absurd h List.not_mem_nil⟩
  · intro ρ τ Lc stc hx g1 g2 g3 g4 g5 g6 g7 g8
    have e0 : ρ 0 = x0 := hx 0 (by decide)
    have e1 : ρ 1 = x1 := hx 1 (by decide)
    have e2 : ρ 2 = x2 := hx 2 (by decide)
    have e3 : ρ 3 = x3 := hx 3 (by decide)
    have e4 : ρ 4 = x4 := hx 4 (by decide)
    subst e0
    subst e1
    subst e2
    subst e3
    subst e4
    have g7 := g7 (by decide)
    match Lc, stc, g7, g8 with
    | [v0, v1, v2, v3, v4, v5], [w0, w1], ⟨hv0, hv1, hv2, hv3, hv4, hv5, _⟩, ⟨hw0, hw1, _⟩ =>
      cases hv0
      cases hv1
      cases hv2
      cases hv3
      cases hv4
      cases hw0
      cases hw1
      exact l0 τ ρ v5 hv5 g1 g2 g3 g4 g5 g6
set_option maxRecDepth 100000 in
theorem rf_r15f {σ : pm_S} {Q : Option Value → pm_S → Prop} (x0 x1 x2 x3 : Int) (v5 : Value) (hv5 : v5.category = 1) (hB : an_GB pm_B σ) (eF : (0 ≤ x0 ∧ x0 ≤ 9) ∧ (0 ≤ x1 ∧ x1 ≤ 99) ∧ ((-1) ≤ x2 ∧ x2 ≤ 29) ∧ (0 ≤ x3 ∧ x3 ≤ 29) ∧ True) (eC : (σ.1 76 (x3).toNat).toInt = 0 ∧ True)
    (l0 : ∀ (τ : pm_S) (y : Nat → Int) (v5 : Value), v5.category = 1 → an_GB pm_B τ → FQ [] σ τ → ((0 ≤ x0 ∧ x0 ≤ 9) ∧ (0 ≤ x1 ∧ x1 ≤ 99) ∧ ((-1) ≤ x2 ∧ x2 ≤ 29) ∧ (0 ≤ x3 ∧ x3 ≤ 29) ∧ True) → (True) → (True) → ((τ.1 76 (x3).toNat).toInt = 0 ∧ True) → Ok 98 10 9 [.ref 74, .int (Int32.ofInt (x0)), .int (Int32.ofInt (x1)), .int (Int32.ofInt (x2)), .int (Int32.ofInt (x3 + 1)), v5] [] τ Q)
    : Ok 98 10 15 [.ref 74, .int (Int32.ofInt (x0)), .int (Int32.ofInt (x1)), .int (Int32.ofInt (x2)), .int (Int32.ofInt (x3)), v5] [] σ Q := by
  refine an_seg (B := pm_B) (F := []) (T := [76]) (S := []) (fun _ h => absurd h List.not_mem_nil) (k := 98) (d := 9) (cs := [9]) 9 15 4 [(0, 0, 9), (1, 0, 99), (2, (-1), 29), (3, 0, 29)] [(76, (0, 3, 0), (1, 0, 0))] [(2, 74, 0), (0, 0, 0), (0, 1, 0), (0, 2, 0), (0, 3, 0), (5, 0, 0)] [] [(9, [(2, 74, 0), (0, 0, 0), (0, 1, 0), (0, 2, 0), (0, 3, 1), (5, 0, 0)], [], [(0, 0, 9), (1, 0, 99), (2, (-1), 29), (3, 0, 29)], [], [], [(76, (0, 3, 0), (1, 0, 0))])] (by decide +kernel) (ρ0 := (fun s => [x0, x1, x2, x3].getD s 0)) hB eF eC ⟨rfl, ⟨rfl, ⟨rfl, ⟨rfl, ⟨rfl, ⟨hv5, trivial⟩⟩⟩⟩⟩⟩ trivial ?_
  refine List.forall_mem_cons.mpr ⟨?_, fun _ h => absurd h List.not_mem_nil⟩
  · intro ρ τ Lc stc hx g1 g2 g3 g4 g5 g6 g7 g8
    have e0 : ρ 0 = x0 := hx 0 (by decide)
    have e1 : ρ 1 = x1 := hx 1 (by decide)
    have e2 : ρ 2 = x2 := hx 2 (by decide)
    have e3 : ρ 3 = x3 := hx 3 (by decide)
    subst e0
    subst e1
    subst e2
    subst e3
    have g7 := g7 (by decide)
    match Lc, stc, g7, g8 with
    | [v0, v1, v2, v3, v4, v5], [], ⟨hv0, hv1, hv2, hv3, hv4, hv5, _⟩, _ =>
      cases hv0
      cases hv1
      cases hv2
      cases hv3
      cases hv4
      exact l0 τ ρ v5 hv5 g1 g2 g3 g4 g5 g6
set_option maxRecDepth 100000 in
theorem rf_r15 {σ : pm_S} {Q : Option Value → pm_S → Prop} (x0 x1 x2 x3 x4 x5 : Int) (v5 : Value) (hv5 : v5.category = 1) (hB : an_GB pm_B σ) (eF : (0 ≤ x0 ∧ x0 ≤ 9) ∧ (0 ≤ x1 ∧ x1 ≤ 99) ∧ ((-1) ≤ x2 ∧ x2 ≤ 29) ∧ (0 ≤ x3 ∧ x3 ≤ 29) ∧ (0 ≤ x4 ∧ x4 ≤ 9) ∧ (0 ≤ x5 ∧ x5 ≤ 9) ∧ True) (eC : (σ.1 76 (x3).toNat).toInt = 1 ∧ (σ.1 15 (x3).toNat).toInt = x4 ∧ (σ.1 14 (x3).toNat).toInt = x5 ∧ True)
    (l0 : ∀ (τ : pm_S) (y : Nat → Int) (v5 : Value), v5.category = 1 → an_GB pm_B τ → FQ [] σ τ → ((0 ≤ x0 ∧ x0 ≤ 9) ∧ (0 ≤ x1 ∧ x1 ≤ 99) ∧ ((-1) ≤ x2 ∧ x2 ≤ 29) ∧ (0 ≤ x3 ∧ x3 ≤ 29) ∧ (0 ≤ x4 ∧ x4 ≤ 9) ∧ (0 ≤ x5 ∧ x5 ≤ 9) ∧ True) → (True) → (True) → ((τ.1 14 (x3).toNat).toInt = x5 ∧ (τ.1 15 (x3).toNat).toInt = x4 ∧ (τ.1 76 (x3).toNat).toInt = 1 ∧ True) → Ok 98 10 34 [.ref 74, .int (Int32.ofInt (x0)), .int (Int32.ofInt (x1)), .int (Int32.ofInt (x2)), .int (Int32.ofInt (x3)), v5] [.int (Int32.ofInt (x5)), .int (Int32.ofInt (x4)), .ref 74, .int (Int32.ofInt 1)] τ Q)
    : Ok 98 10 15 [.ref 74, .int (Int32.ofInt (x0)), .int (Int32.ofInt (x1)), .int (Int32.ofInt (x2)), .int (Int32.ofInt (x3)), v5] [] σ Q := by
  refine an_seg (B := pm_B) (F := []) (T := [76, 14, 15]) (S := []) (fun _ h => absurd h List.not_mem_nil) (k := 98) (d := 9) (cs := [34]) 21 15 6 [(0, 0, 9), (1, 0, 99), (2, (-1), 29), (3, 0, 29), (4, 0, 9), (5, 0, 9)] [(76, (0, 3, 0), (1, 0, 1)), (15, (0, 3, 0), (0, 4, 0)), (14, (0, 3, 0), (0, 5, 0))] [(2, 74, 0), (0, 0, 0), (0, 1, 0), (0, 2, 0), (0, 3, 0), (5, 0, 0)] [] [(34, [(2, 74, 0), (0, 0, 0), (0, 1, 0), (0, 2, 0), (0, 3, 0), (5, 0, 0)], [(0, 5, 0), (0, 4, 0), (2, 74, 0), (1, 0, 1)], [(0, 0, 9), (1, 0, 99), (2, (-1), 29), (3, 0, 29), (4, 0, 9), (5, 0, 9)], [], [], [(14, (0, 3, 0), (0, 5, 0)), (15, (0, 3, 0), (0, 4, 0)), (76, (0, 3, 0), (1, 0, 1))])] (by decide +kernel) (ρ0 := (fun s => [x0, x1, x2, x3, x4, x5].getD s 0)) hB eF eC ⟨rfl, ⟨rfl, ⟨rfl, ⟨rfl, ⟨rfl, ⟨hv5, trivial⟩⟩⟩⟩⟩⟩ trivial ?_
  refine List.forall_mem_cons.mpr ⟨?_, fun _ h => absurd h List.not_mem_nil⟩
  · intro ρ τ Lc stc hx g1 g2 g3 g4 g5 g6 g7 g8
    have e0 : ρ 0 = x0 := hx 0 (by decide)
    have e1 : ρ 1 = x1 := hx 1 (by decide)
    have e2 : ρ 2 = x2 := hx 2 (by decide)
    have e3 : ρ 3 = x3 := hx 3 (by decide)
    have e4 : ρ 4 = x4 := hx 4 (by decide)
    have e5 : ρ 5 = x5 := hx 5 (by decide)
    subst e0
    subst e1
    subst e2
    subst e3
    subst e4
    subst e5
    have g7 := g7 (by decide)
    match Lc, stc, g7, g8 with
    | [v0, v1, v2, v3, v4, v5], [w0, w1, w2, w3], ⟨hv0, hv1, hv2, hv3, hv4, hv5, _⟩, ⟨hw0, hw1, hw2, hw3, _⟩ =>
      cases hv0
      cases hv1
      cases hv2
      cases hv3
      cases hv4
      cases hw0
      cases hw1
      cases hw2
      cases hw3
      exact l0 τ ρ v5 hv5 g1 g2 g3 g4 g5 g6
set_option maxRecDepth 100000 in
theorem rf_r35 {σ : pm_S} {Q : Option Value → pm_S → Prop} (x0 x1 x2 x3 x4 : Int) (v5 : Value) (hv5 : v5.category = 1) (hB : an_GB pm_B σ) (eF : (0 ≤ x0 ∧ x0 ≤ 9) ∧ (0 ≤ x1 ∧ x1 ≤ 99) ∧ ((-1) ≤ x2 ∧ x2 ≤ 29) ∧ (0 ≤ x3 ∧ x3 ≤ 29) ∧ (0 ≤ x4 ∧ x4 ≤ 99) ∧ True)
    (l0 : ∀ (τ : pm_S) (y : Nat → Int), an_GB pm_B τ → FQ [] σ τ → ((0 ≤ x0 ∧ x0 ≤ 9) ∧ (0 ≤ x1 ∧ x1 ≤ 99) ∧ ((-1) ≤ x2 ∧ x2 ≤ 29) ∧ (0 ≤ x3 ∧ x3 ≤ 29) ∧ (0 ≤ x4 ∧ x4 ≤ 99) ∧ True) → (True) → (True) → (True) → Ok 98 10 39 [.ref 74, .int (Int32.ofInt (x0)), .int (Int32.ofInt (x1)), .int (Int32.ofInt (x2)), .int (Int32.ofInt (x3)), .int (Int32.ofInt (x4 + 1))] [.int (Int32.ofInt (x1)), .int (Int32.ofInt (x4 + 1))] τ Q)
    : Ok 98 10 35 [.ref 74, .int (Int32.ofInt (x0)), .int (Int32.ofInt (x1)), .int (Int32.ofInt (x2)), .int (Int32.ofInt (x3)), v5] [.int (Int32.ofInt (x4)), .int (Int32.ofInt 1)] σ Q := by
  refine an_seg (B := pm_B) (F := []) (T := []) (S := []) (fun _ h => absurd h List.not_mem_nil) (k := 98) (d := 9) (cs := [39]) 6 35 5 [(0, 0, 9), (1, 0, 99), (2, (-1), 29), (3, 0, 29), (4, 0, 99)] [] [(2, 74, 0), (0, 0, 0), (0, 1, 0), (0, 2, 0), (0, 3, 0), (5, 0, 0)] [(0, 4, 0), (1, 0, 1)] [(39, [(2, 74, 0), (0, 0, 0), (0, 1, 0), (0, 2, 0), (0, 3, 0), (0, 4, 1)], [(0, 1, 0), (0, 4, 1)], [(0, 0, 9), (1, 0, 99), (2, (-1), 29), (3, 0, 29), (4, 0, 99)], [], [], [])] (by decide +kernel) (ρ0 := (fun s => [x0, x1, x2, x3, x4].getD s 0)) hB eF trivial ⟨rfl, ⟨rfl, ⟨rfl, ⟨rfl, ⟨rfl, ⟨hv5, trivial⟩⟩⟩⟩⟩⟩ ⟨rfl, ⟨rfl, trivial⟩⟩ ?_
  refine List.forall_mem_cons.mpr ⟨?_, fun _ h => absurd h List.not_mem_nil⟩
  · intro ρ τ Lc stc hx g1 g2 g3 g4 g5 g6 g7 g8
    have e0 : ρ 0 = x0 := hx 0 (by decide)
    have e1 : ρ 1 = x1 := hx 1 (by decide)
    have e2 : ρ 2 = x2 := hx 2 (by decide)
    have e3 : ρ 3 = x3 := hx 3 (by decide)
    have e4 : ρ 4 = x4 := hx 4 (by decide)
    subst e0
    subst e1
    subst e2
    subst e3
    subst e4
    have g7 := g7 (by decide)
    match Lc, stc, g7, g8 with
    | [v0, v1, v2, v3, v4, v5], [w0, w1], ⟨hv0, hv1, hv2, hv3, hv4, hv5, _⟩, ⟨hw0, hw1, _⟩ =>
      cases hv0
      cases hv1
      cases hv2
      cases hv3
      cases hv4
      cases hv5
      cases hw0
      cases hw1
      exact l0 τ ρ  g1 g2 g3 g4 g5 g6
set_option maxRecDepth 100000 in
theorem rf_r40 {σ : pm_S} {Q : Option Value → pm_S → Prop} (x0 x1 x2 x3 x4 : Int)  (hB : an_GB pm_B σ) (eF : (0 ≤ x0 ∧ x0 ≤ 9) ∧ (0 ≤ x1 ∧ x1 ≤ 99) ∧ ((-1) ≤ x2 ∧ x2 ≤ 29) ∧ (0 ≤ x3 ∧ x3 ≤ 29) ∧ (0 ≤ x4 ∧ x4 ≤ 100) ∧ True)
    (l0 : ∀ (τ : pm_S) (y : Nat → Int), an_GB pm_B τ → FQ [] σ τ → ((0 ≤ x0 ∧ x0 ≤ 9) ∧ (0 ≤ x1 ∧ x1 ≤ 99) ∧ ((-1) ≤ x2 ∧ x2 ≤ 29) ∧ (0 ≤ x3 ∧ x3 ≤ 29) ∧ (0 ≤ x4 ∧ x4 ≤ 100) ∧ True) → (True) → (True) → (True) → Ok 98 10 9 [.ref 74, .int (Int32.ofInt (x0)), .int (Int32.ofInt (x4)), .int (Int32.ofInt (x3)), .int (Int32.ofInt (x3 + 1)), .int (Int32.ofInt (x4))] [] τ Q)
    : Ok 98 10 40 [.ref 74, .int (Int32.ofInt (x0)), .int (Int32.ofInt (x1)), .int (Int32.ofInt (x2)), .int (Int32.ofInt (x3)), .int (Int32.ofInt (x4))] [] σ Q := by
  refine an_seg (B := pm_B) (F := []) (T := []) (S := []) (fun _ h => absurd h List.not_mem_nil) (k := 98) (d := 9) (cs := [9]) 8 40 5 [(0, 0, 9), (1, 0, 99), (2, (-1), 29), (3, 0, 29), (4, 0, 100)] [] [(2, 74, 0), (0, 0, 0), (0, 1, 0), (0, 2, 0), (0, 3, 0), (0, 4, 0)] [] [(9, [(2, 74, 0), (0, 0, 0), (0, 4, 0), (0, 3, 0), (0, 3, 1), (0, 4, 0)], [], [(0, 0, 9), (1, 0, 99), (2, (-1), 29), (3, 0, 29), (4, 0, 100)], [], [], [])] (by decide +kernel) (ρ0 := (fun s => [x0, x1, x2, x3, x4].getD s 0)) hB eF trivial ⟨rfl, ⟨rfl, ⟨rfl, ⟨rfl, ⟨rfl, ⟨rfl, trivial⟩⟩⟩⟩⟩⟩ trivial ?_
  refine List.forall_mem_cons.mpr ⟨?_, fun _ h => absurd h List.not_mem_nil⟩
  · intro ρ τ Lc stc hx g1 g2 g3 g4 g5 g6 g7 g8
    have e0 : ρ 0 = x0 := hx 0 (by decide)
    have e1 : ρ 1 = x1 := hx 1 (by decide)
    have e2 : ρ 2 = x2 := hx 2 (by decide)
    have e3 : ρ 3 = x3 := hx 3 (by decide)
    have e4 : ρ 4 = x4 := hx 4 (by decide)
    subst e0
    subst e1
    subst e2
    subst e3
    subst e4
    have g7 := g7 (by decide)
    match Lc, stc, g7, g8 with
    | [v0, v1, v2, v3, v4, v5], [], ⟨hv0, hv1, hv2, hv3, hv4, hv5, _⟩, _ =>
      cases hv0
      cases hv1
      cases hv2
      cases hv3
      cases hv4
      cases hv5
      exact l0 τ ρ  g1 g2 g3 g4 g5 g6
set_option maxRecDepth 100000 in
theorem rf_r44 {σ : pm_S} {Q : Option Value → pm_S → Prop} (x0 x1 x2 x3 : Int) (v5 : Value) (hv5 : v5.category = 1) (hB : an_GB pm_B σ) (eF : (0 ≤ x0 ∧ x0 ≤ 9) ∧ (0 ≤ x1 ∧ x1 ≤ 99) ∧ ((-1) ≤ x2 ∧ x2 ≤ 29) ∧ (0 ≤ x3 ∧ x3 ≤ 29) ∧ True)
    (l0 : ∀ (τ : pm_S) (y : Nat → Int) (v5 : Value), v5.category = 1 → an_GB pm_B τ → FQ [] σ τ → ((0 ≤ x0 ∧ x0 ≤ 9) ∧ (0 ≤ x1 ∧ x1 ≤ 99) ∧ ((-1) ≤ x2 ∧ x2 ≤ 29) ∧ (0 ≤ x3 ∧ x3 ≤ 29) ∧ True) → (True) → (True) → (True) → Ok 98 10 9 [.ref 74, .int (Int32.ofInt (x0)), .int (Int32.ofInt (x1)), .int (Int32.ofInt (x2)), .int (Int32.ofInt (x3 + 1)), v5] [] τ Q)
    : Ok 98 10 44 [.ref 74, .int (Int32.ofInt (x0)), .int (Int32.ofInt (x1)), .int (Int32.ofInt (x2)), .int (Int32.ofInt (x3)), v5] [] σ Q := by
  refine an_seg (B := pm_B) (F := []) (T := []) (S := []) (fun _ h => absurd h List.not_mem_nil) (k := 98) (d := 9) (cs := [9]) 4 44 4 [(0, 0, 9), (1, 0, 99), (2, (-1), 29), (3, 0, 29)] [] [(2, 74, 0), (0, 0, 0), (0, 1, 0), (0, 2, 0), (0, 3, 0), (5, 0, 0)] [] [(9, [(2, 74, 0), (0, 0, 0), (0, 1, 0), (0, 2, 0), (0, 3, 1), (5, 0, 0)], [], [(0, 0, 9), (1, 0, 99), (2, (-1), 29), (3, 0, 29)], [], [], [])] (by decide +kernel) (ρ0 := (fun s => [x0, x1, x2, x3].getD s 0)) hB eF trivial ⟨rfl, ⟨rfl, ⟨rfl, ⟨rfl, ⟨rfl, ⟨hv5, trivial⟩⟩⟩⟩⟩⟩ trivial ?_
  refine List.forall_mem_cons.mpr ⟨?_, fun _ h => absurd h List.not_mem_nil⟩
  · intro ρ τ Lc stc hx g1 g2 g3 g4 g5 g6 g7 g8
    have e0 : ρ 0 = x0 := hx 0 (by decide)
    have e1 : ρ 1 = x1 := hx 1 (by decide)
    have e2 : ρ 2 = x2 := hx 2 (by decide)
    have e3 : ρ 3 = x3 := hx 3 (by decide)
    subst e0
    subst e1
    subst e2
    subst e3
    have g7 := g7 (by decide)
    match Lc, stc, g7, g8 with
    | [v0, v1, v2, v3, v4, v5], [], ⟨hv0, hv1, hv2, hv3, hv4, hv5, _⟩, _ =>
      cases hv0
      cases hv1
      cases hv2
      cases hv3
      cases hv4
      exact l0 τ ρ v5 hv5 g1 g2 g3 g4 g5 g6
set_option maxRecDepth 100000 in
theorem rf_r46 {σ : pm_S} {Q : Option Value → pm_S → Prop} (x0 x1 x2 : Int) (v4 : Value) (v5 : Value) (hv4 : v4.category = 1) (hv5 : v5.category = 1) (hB : an_GB pm_B σ) (eF : (0 ≤ x0 ∧ x0 ≤ 9) ∧ (0 ≤ x1 ∧ x1 ≤ 99) ∧ ((-1) ≤ x2 ∧ x2 ≤ 29) ∧ True)
    (l0 : ∀ (τ : pm_S) (y : Nat → Int) (v4 : Value) (v5 : Value), v4.category = 1 → v5.category = 1 → an_GB pm_B τ → FQ [] σ τ → ((0 ≤ x0 ∧ x0 ≤ 9) ∧ (0 ≤ x1 ∧ x1 ≤ 99) ∧ (0 ≤ x2 ∧ x2 ≤ 29) ∧ True) → (True) → (True) → (True) → Ok 98 10 54 [.ref 74, .int (Int32.ofInt (x0)), .int (Int32.ofInt (x1)), .int (Int32.ofInt (x2)), v4, v5] [.int (Int32.ofInt (x1)), .int (Int32.ofInt (x2)), .ref 74] τ Q)
    (l1 : ∀ (τ : pm_S) (y : Nat → Int), an_GB pm_B τ → FQ [] σ τ → ((0 ≤ x0 ∧ x0 ≤ 9) ∧ (0 ≤ x1 ∧ x1 ≤ 99) ∧ ((-1) ≤ x2 ∧ x2 ≤ (-1)) ∧ True) → (True) → (True) → (True) → Q (some (.int (Int32.ofInt 0))) τ)
    : Ok 98 10 46 [.ref 74, .int (Int32.ofInt (x0)), .int (Int32.ofInt (x1)), .int (Int32.ofInt (x2)), v4, v5] [] σ Q := by
  refine an_seg (B := pm_B) (F := []) (T := []) (S := []) (fun _ h => absurd h List.not_mem_nil) (k := 98) (d := 9) (cs := [54]) 8 46 3 [(0, 0, 9), (1, 0, 99), (2, (-1), 29)] [] [(2, 74, 0), (0, 0, 0), (0, 1, 0), (0, 2, 0), (5, 0, 0), (5, 0, 0)] [] [(54, [(2, 74, 0), (0, 0, 0), (0, 1, 0), (0, 2, 0), (5, 0, 0), (5, 0, 0)], [(0, 1, 0), (0, 2, 0), (2, 74, 0)], [(0, 0, 9), (1, 0, 99), (2, 0, 29)], [], [], []),
    (9999, [], [(1, 0, 0)], [(0, 0, 9), (1, 0, 99), (2, (-1), (-1))], [], [], [])] (by decide +kernel) (ρ0 := (fun s => [x0, x1, x2].getD s 0)) hB eF trivial ⟨rfl, ⟨rfl, ⟨rfl, ⟨rfl, ⟨hv4, ⟨hv5, trivial⟩⟩⟩⟩⟩⟩ trivial ?_
  refine List.forall_mem_cons.mpr ⟨?_, List.forall_mem_cons.mpr ⟨?_, fun _ h => absurd h List.not_mem_nil⟩⟩
  · intro ρ τ Lc stc hx g1 g2 g3 g4 g5 g6 g7 g8
    have e0 : ρ 0 = x0 := hx 0 (by decide)
    have e1 : ρ 1 = x1 := hx 1 (by decide)
    have e2 : ρ 2 = x2 := hx 2 (by decide)
    subst e0
    subst e1
    subst e2
    have g7 := g7 (by decide)
    match Lc, stc, g7, g8 with
    | [v0, v1, v2, v3, v4, v5], [w0, w1, w2], ⟨hv0, hv1, hv2, hv3, hv4, hv5, _⟩, ⟨hw0, hw1, hw2, _⟩ =>
      cases hv0
      cases hv1
      cases hv2
      cases hv3
      cases hw0
      cases hw1
      cases hw2
      exact l0 τ ρ v4 v5 hv4 hv5 g1 g2 g3 g4 g5 g6
  · intro ρ τ Lc stc hx g1 g2 g3 g4 g5 g6 g7 g8
    have e0 : ρ 0 = x0 := hx 0 (by decide)
    have e1 : ρ 1 = x1 := hx 1 (by decide)
    have e2 : ρ 2 = x2 := hx 2 (by decide)
    subst e0
    subst e1
    subst e2
    match stc, g8 with
    | [_], ⟨h, _⟩ => cases h; exact l1 τ ρ g1 g2 g3 g4 g5 g6
set_option maxRecDepth 100000 in
theorem rf_r55 {σ : pm_S} {Q : Option Value → pm_S → Prop} (x0 : Int) (v2 : Value) (v3 : Value) (v4 : Value) (v5 : Value) (hv2 : v2.category = 1) (hv3 : v3.category = 1) (hv4 : v4.category = 1) (hv5 : v5.category = 1) (hB : an_GB pm_B σ) (eF : (0 ≤ x0 ∧ x0 ≤ 9) ∧ True)
    (l0 : ∀ (τ : pm_S) (y : Nat → Int), an_GB pm_B τ → FQ [] σ τ → ((0 ≤ x0 ∧ x0 ≤ 9) ∧ True) → (True) → (True) → (True) → Q (some (.int (Int32.ofInt 1))) τ)
    : Ok 98 10 55 [.ref 74, .int (Int32.ofInt (x0)), v2, v3, v4, v5] [] σ Q := by
  refine an_seg (B := pm_B) (F := []) (T := []) (S := []) (fun _ h => absurd h List.not_mem_nil) (k := 98) (d := 9) (cs := []) 4 55 1 [(0, 0, 9)] [] [(2, 74, 0), (0, 0, 0), (5, 0, 0), (5, 0, 0), (5, 0, 0), (5, 0, 0)] [] [(9999, [], [(1, 0, 1)], [(0, 0, 9)], [], [], [])] (by decide +kernel) (ρ0 := (fun s => [x0].getD s 0)) hB eF trivial ⟨rfl, ⟨rfl, ⟨hv2, ⟨hv3, ⟨hv4, ⟨hv5, trivial⟩⟩⟩⟩⟩⟩ trivial ?_
  refine List.forall_mem_cons.mpr ⟨?_, fun _ h => absurd h List.not_mem_nil⟩
  · intro ρ τ Lc stc hx g1 g2 g3 g4 g5 g6 g7 g8
    have e0 : ρ 0 = x0 := hx 0 (by decide)
    subst e0
    match stc, g8 with
    | [_], ⟨h, _⟩ => cases h; exact l0 τ ρ g1 g2 g3 g4 g5 g6
set_option maxRecDepth 100000 in
theorem rf_l0 {σ : pm_S} {Q : Option Value → pm_S → Prop} (x0 x1 x2 : Int) (v4 : Value) (v5 : Value) (hv4 : v4.category = 1) (hv5 : v5.category = 1) (hB : an_GB pm_B σ) (eF : (0 ≤ x0 ∧ x0 ≤ 9) ∧ (0 ≤ x1 ∧ x1 ≤ 9) ∧ (0 ≤ x2 ∧ x2 ≤ 9) ∧ True)
    (l0 : ∀ (τ : pm_S) (y : Nat → Int) (v5 : Value), v5.category = 1 → an_GB pm_B τ → FQ [] σ τ → ((0 ≤ x0 ∧ x0 ≤ 9) ∧ (0 ≤ x1 ∧ x1 ≤ 9) ∧ (0 ≤ x2 ∧ x2 ≤ 9) ∧ True) → (True) → (True) → (True) → Ok 102 5 2 [.ref 74, .int (Int32.ofInt (x0)), .int (Int32.ofInt (x1)), .int (Int32.ofInt (x2)), .int (Int32.ofInt 0), v5] [] τ Q)
    : Ok 102 5 0 [.ref 74, .int (Int32.ofInt (x0)), .int (Int32.ofInt (x1)), .int (Int32.ofInt (x2)), v4, v5] [] σ Q := by
  refine an_seg (B := pm_B) (F := []) (T := []) (S := []) (fun _ h => absurd h List.not_mem_nil) (k := 102) (d := 4) (cs := [2]) 4 0 3 [(0, 0, 9), (1, 0, 9), (2, 0, 9)] [] [(2, 74, 0), (0, 0, 0), (0, 1, 0), (0, 2, 0), (5, 0, 0), (5, 0, 0)] [] [(2, [(2, 74, 0), (0, 0, 0), (0, 1, 0), (0, 2, 0), (1, 0, 0), (5, 0, 0)], [], [(0, 0, 9), (1, 0, 9), (2, 0, 9)], [], [], [])] (by decide +kernel) (ρ0 := (fun s => [x0, x1, x2].getD s 0)) hB eF trivial ⟨rfl, ⟨rfl, ⟨rfl, ⟨rfl, ⟨hv4, ⟨hv5, trivial⟩⟩⟩⟩⟩⟩ trivial ?_
  refine List.forall_mem_cons.mpr ⟨?_, fun _ h => absurd h List.not_mem_nil⟩
  · intro ρ τ Lc stc hx g1 g2 g3 g4 g5 g6 g7 g8
    have e0 : ρ 0 = x0 := hx 0 (by decide)
    have e1 : ρ 1 = x1 := hx 1 (by decide)
    have e2 : ρ 2 = x2 := hx 2 (by decide)
    subst e0
    subst e1
    subst e2
    have g7 := g7 (by decide)
    match Lc, stc, g7, g8 with
    | [v0, v1, v2, v3, v4, v5], [], ⟨hv0, hv1, hv2, hv3, hv4, hv5, _⟩, _ =>
      cases hv0
      cases hv1
      cases hv2
      cases hv3
      cases hv4
      exact l0 τ ρ v5 hv5 g1 g2 g3 g4 g5 g6
set_option maxRecDepth 100000 in
theorem rf_l2 {σ : pm_S} {Q : Option Value → pm_S → Prop} (x0 x1 x2 x3 x4 : Int) (v5 : Value) (hv5 : v5.category = 1) (hB : an_GB pm_B σ) (eF : (0 ≤ x0 ∧ x0 ≤ 9) ∧ (0 ≤ x1 ∧ x1 ≤ 9) ∧ (0 ≤ x2 ∧ x2 ≤ 9) ∧ (0 ≤ x3 ∧ x3 ≤ 30) ∧ (0 ≤ x4 ∧ x4 ≤ 30) ∧ True) (eC : (σ.1 13 0).toInt = x4 ∧ True)
    (l0 : ∀ (τ : pm_S) (y : Nat → Int) (v5 : Value), v5.category = 1 → an_GB pm_B τ → FQ [] σ τ → ((0 ≤ x0 ∧ x0 ≤ 9) ∧ (0 ≤ x1 ∧ x1 ≤ 9) ∧ (0 ≤ x2 ∧ x2 ≤ 9) ∧ (0 ≤ x3 ∧ x3 ≤ 30) ∧ (0 ≤ x4 ∧ x4 ≤ 30) ∧ True) → (True) → (True) → ((τ.1 13 0).toInt = x4 ∧ True) → Ok 102 5 7 [.ref 74, .int (Int32.ofInt (x0)), .int (Int32.ofInt (x1)), .int (Int32.ofInt (x2)), .int (Int32.ofInt (x3)), v5] [.int (Int32.ofInt (x4)), .int (Int32.ofInt (x3))] τ Q)
    : Ok 102 5 2 [.ref 74, .int (Int32.ofInt (x0)), .int (Int32.ofInt (x1)), .int (Int32.ofInt (x2)), .int (Int32.ofInt (x3)), v5] [] σ Q := by
  refine an_seg (B := pm_B) (F := []) (T := []) (S := []) (fun _ h => absurd h List.not_mem_nil) (k := 102) (d := 4) (cs := [7]) 7 2 5 [(0, 0, 9), (1, 0, 9), (2, 0, 9), (3, 0, 30), (4, 0, 30)] [(13, (1, 0, 0), (0, 4, 0))] [(2, 74, 0), (0, 0, 0), (0, 1, 0), (0, 2, 0), (0, 3, 0), (5, 0, 0)] [] [(7, [(2, 74, 0), (0, 0, 0), (0, 1, 0), (0, 2, 0), (0, 3, 0), (5, 0, 0)], [(0, 4, 0), (0, 3, 0)], [(0, 0, 9), (1, 0, 9), (2, 0, 9), (3, 0, 30), (4, 0, 30)], [], [], [(13, (1, 0, 0), (0, 4, 0))])] (by decide +kernel) (ρ0 := (fun s => [x0, x1, x2, x3, x4].getD s 0)) hB eF eC ⟨rfl, ⟨rfl, ⟨rfl, ⟨rfl, ⟨rfl, ⟨hv5, trivial⟩⟩⟩⟩⟩⟩ trivial ?_
  refine List.forall_mem_cons.mpr ⟨?_, fun _ h => absurd h List.not_mem_nil⟩
  · intro ρ τ Lc stc hx g1 g2 g3 g4 g5 g6 g7 g8
    have e0 : ρ 0 = x0 := hx 0 (by decide)
    have e1 : ρ 1 = x1 := hx 1 (by decide)
    have e2 : ρ 2 = x2 := hx 2 (by decide)
    have e3 : ρ 3 = x3 := hx 3 (by decide)
    have e4 : ρ 4 = x4 := hx 4 (by decide)
    subst e0
    subst e1
    subst e2
    subst e3
    subst e4
    have g7 := g7 (by decide)
    match Lc, stc, g7, g8 with
    | [v0, v1, v2, v3, v4, v5], [w0, w1], ⟨hv0, hv1, hv2, hv3, hv4, hv5, _⟩, ⟨hw0, hw1, _⟩ =>
      cases hv0
      cases hv1
      cases hv2
      cases hv3
      cases hv4
      cases hw0
      cases hw1
      exact l0 τ ρ v5 hv5 g1 g2 g3 g4 g5 g6
set_option maxRecDepth 100000 in
theorem rf_l8f {σ : pm_S} {Q : Option Value → pm_S → Prop} (x0 x1 x2 x3 : Int) (v5 : Value) (hv5 : v5.category = 1) (hB : an_GB pm_B σ) (eF : (0 ≤ x0 ∧ x0 ≤ 9) ∧ (0 ≤ x1 ∧ x1 ≤ 9) ∧ (0 ≤ x2 ∧ x2 ≤ 9) ∧ (0 ≤ x3 ∧ x3 ≤ 29) ∧ True) (eC : (σ.1 76 (x3).toNat).toInt = 0 ∧ True)
    (l0 : ∀ (τ : pm_S) (y : Nat → Int), an_GB pm_B τ → FQ [] σ τ → ((0 ≤ x0 ∧ x0 ≤ 9) ∧ (0 ≤ x1 ∧ x1 ≤ 9) ∧ (0 ≤ x2 ∧ x2 ≤ 9) ∧ (0 ≤ x3 ∧ x3 ≤ 29) ∧ True) → (True) → (True) → ((τ.1 76 (x3).toNat).toInt = 0 ∧ True) → Ok 102 5 2 [.ref 74, .int (Int32.ofInt (x0)), .int (Int32.ofInt (x1)), .int (Int32.ofInt (x2)), .int (Int32.ofInt (x3 + 1)), .int (Int32.ofInt 0)] [] τ Q)
    : Ok 102 5 8 [.ref 74, .int (Int32.ofInt (x0)), .int (Int32.ofInt (x1)), .int (Int32.ofInt (x2)), .int (Int32.ofInt (x3)), v5] [] σ Q := by
  refine an_seg (B := pm_B) (F := []) (T := [76]) (S := []) (fun _ h => absurd h List.not_mem_nil) (k := 102) (d := 4) (cs := [2]) 13 8 4 [(0, 0, 9), (1, 0, 9), (2, 0, 9), (3, 0, 29)] [(76, (0, 3, 0), (1, 0, 0))] [(2, 74, 0), (0, 0, 0), (0, 1, 0), (0, 2, 0), (0, 3, 0), (5, 0, 0)] [] [(2, [(2, 74, 0), (0, 0, 0), (0, 1, 0), (0, 2, 0), (0, 3, 1), (1, 0, 0)], [], [(0, 0, 9), (1, 0, 9), (2, 0, 9), (3, 0, 29)], [], [], [(76, (0, 3, 0), (1, 0, 0))])] (by decide +kernel) (ρ0 := (fun s => [x0, x1, x2, x3].getD s 0)) hB eF eC ⟨rfl, ⟨rfl, ⟨rfl, ⟨rfl, ⟨rfl, ⟨hv5, trivial⟩⟩⟩⟩⟩⟩ trivial ?_
  refine List.forall_mem_cons.mpr ⟨?_, fun _ h => absurd h List.not_mem_nil⟩
  · intro ρ τ Lc stc hx g1 g2 g3 g4 g5 g6 g7 g8
    have e0 : ρ 0 = x0 := hx 0 (by decide)
    have e1 : ρ 1 = x1 := hx 1 (by decide)
    have e2 : ρ 2 = x2 := hx 2 (by decide)
    have e3 : ρ 3 = x3 := hx 3 (by decide)
    subst e0
    subst e1
    subst e2
    subst e3
    have g7 := g7 (by decide)
    match Lc, stc, g7, g8 with
    | [v0, v1, v2, v3, v4, v5], [], ⟨hv0, hv1, hv2, hv3, hv4, hv5, _⟩, _ =>
      cases hv0
      cases hv1
      cases hv2
      cases hv3
      cases hv4
      cases hv5
      exact l0 τ ρ  g1 g2 g3 g4 g5 g6
set_option maxRecDepth 100000 in
theorem rf_l8 {σ : pm_S} {Q : Option Value → pm_S → Prop} (x0 x1 x2 x3 x4 : Int) (v5 : Value) (hv5 : v5.category = 1) (hB : an_GB pm_B σ) (eF : (0 ≤ x0 ∧ x0 ≤ 9) ∧ (0 ≤ x1 ∧ x1 ≤ 9) ∧ (0 ≤ x2 ∧ x2 ≤ 9) ∧ (0 ≤ x3 ∧ x3 ≤ 29) ∧ (0 ≤ x4 ∧ x4 ≤ 9) ∧ True) (eC : (σ.1 76 (x3).toNat).toInt = 1 ∧ (σ.1 14 (x3).toNat).toInt = x4 ∧ True)
    (l0 : ∀ (τ : pm_S) (y : Nat → Int) (v5 : Value), v5.category = 1 → an_GB pm_B τ → FQ [] σ τ → ((0 ≤ x0 ∧ x0 ≤ 9) ∧ (0 ≤ x1 ∧ x1 ≤ 9) ∧ (0 ≤ x2 ∧ x2 ≤ 9) ∧ (0 ≤ x3 ∧ x3 ≤ 29) ∧ (0 ≤ x4 ∧ x4 ≤ 9) ∧ True) → (True) → (True) → ((τ.1 14 (x3).toNat).toInt = x4 ∧ (τ.1 76 (x3).toNat).toInt = 1 ∧ True) → Ok 102 5 20 [.ref 74, .int (Int32.ofInt (x0)), .int (Int32.ofInt (x1)), .int (Int32.ofInt (x2)), .int (Int32.ofInt (x3)), v5] [.int (Int32.ofInt (x0)), .int (Int32.ofInt (x4))] τ Q)
    : Ok 102 5 8 [.ref 74, .int (Int32.ofInt (x0)), .int (Int32.ofInt (x1)), .int (Int32.ofInt (x2)), .int (Int32.ofInt (x3)), v5] [] σ Q := by
  refine an_seg (B := pm_B) (F := []) (T := [76, 14]) (S := []) (fun _ h => absurd h List.not_mem_nil) (k := 102) (d := 4) (cs := [20]) 14 8 5 [(0, 0, 9), (1, 0, 9), (2, 0, 9), (3, 0, 29), (4, 0, 9)] [(76, (0, 3, 0), (1, 0, 1)), (14, (0, 3, 0), (0, 4, 0))] [(2, 74, 0), (0, 0, 0), (0, 1, 0), (0, 2, 0), (0, 3, 0), (5, 0, 0)] [] [(20, [(2, 74, 0), (0, 0, 0), (0, 1, 0), (0, 2, 0), (0, 3, 0), (5, 0, 0)], [(0, 0, 0), (0, 4, 0)], [(0, 0, 9), (1, 0, 9), (2, 0, 9), (3, 0, 29), (4, 0, 9)], [], [], [(14, (0, 3, 0), (0, 4, 0)), (76, (0, 3, 0), (1, 0, 1))])] (by decide +kernel) (ρ0 := (fun s => [x0, x1, x2, x3, x4].getD s 0)) hB eF eC ⟨rfl, ⟨rfl, ⟨rfl, ⟨rfl, ⟨rfl, ⟨hv5, trivial⟩⟩⟩⟩⟩⟩ trivial ?_
  refine List.forall_mem_cons.mpr ⟨?_, fun _ h => absurd h List.not_mem_nil⟩
  · intro ρ τ Lc stc hx g1 g2 g3 g4 g5 g6 g7 g8
    have e0 : ρ 0 = x0 := hx 0 (by decide)
    have e1 : ρ 1 = x1 := hx 1 (by decide)
    have e2 : ρ 2 = x2 := hx 2 (by decide)
    have e3 : ρ 3 = x3 := hx 3 (by decide)
    have e4 : ρ 4 = x4 := hx 4 (by decide)
    subst e0
    subst e1
    subst e2
    subst e3
    subst e4
    have g7 := g7 (by decide)
    match Lc, stc, g7, g8 with
    | [v0, v1, v2, v3, v4, v5], [w0, w1], ⟨hv0, hv1, hv2, hv3, hv4, hv5, _⟩, ⟨hw0, hw1, _⟩ =>
      cases hv0
      cases hv1
      cases hv2
      cases hv3
      cases hv4
      cases hw0
      cases hw1
      exact l0 τ ρ v5 hv5 g1 g2 g3 g4 g5 g6
set_option maxRecDepth 100000 in
theorem rf_l21 {σ : pm_S} {Q : Option Value → pm_S → Prop} (x0 x1 x2 x3 x4 : Int) (v5 : Value) (hv5 : v5.category = 1) (hB : an_GB pm_B σ) (eF : (0 ≤ x0 ∧ x0 ≤ 9) ∧ (0 ≤ x1 ∧ x1 ≤ 9) ∧ (0 ≤ x2 ∧ x2 ≤ 9) ∧ (0 ≤ x3 ∧ x3 ≤ 29) ∧ (0 ≤ x4 ∧ x4 ≤ 9) ∧ True) (eC : (σ.1 15 (x3).toNat).toInt = x4 ∧ True)
    (l0 : ∀ (τ : pm_S) (y : Nat → Int), an_GB pm_B τ → FQ [] σ τ → ((0 ≤ x0 ∧ x0 ≤ 9) ∧ (0 ≤ x1 ∧ x1 ≤ 9) ∧ (0 ≤ x2 ∧ x2 ≤ 9) ∧ (0 ≤ x3 ∧ x3 ≤ 29) ∧ (0 ≤ x4 ∧ x4 ≤ 9) ∧ True) → (True) → (True) → ((τ.1 15 (x3).toNat).toInt = x4 ∧ True) → Ok 102 5 35 [.ref 74, .int (Int32.ofInt (x0)), .int (Int32.ofInt (x1)), .int (Int32.ofInt (x2)), .int (Int32.ofInt (x3)), .int (Int32.ofInt 1)] [.int (Int32.ofInt (x1)), .int (Int32.ofInt (x4)), .ref 74] τ Q)
    : Ok 102 5 21 [.ref 74, .int (Int32.ofInt (x0)), .int (Int32.ofInt (x1)), .int (Int32.ofInt (x2)), .int (Int32.ofInt (x3)), v5] [] σ Q := by
  refine an_seg (B := pm_B) (F := []) (T := [15]) (S := []) (fun _ h => absurd h List.not_mem_nil) (k := 102) (d := 4) (cs := [35]) 15 21 5 [(0, 0, 9), (1, 0, 9), (2, 0, 9), (3, 0, 29), (4, 0, 9)] [(15, (0, 3, 0), (0, 4, 0))] [(2, 74, 0), (0, 0, 0), (0, 1, 0), (0, 2, 0), (0, 3, 0), (5, 0, 0)] [] [(35, [(2, 74, 0), (0, 0, 0), (0, 1, 0), (0, 2, 0), (0, 3, 0), (1, 0, 1)], [(0, 1, 0), (0, 4, 0), (2, 74, 0)], [(0, 0, 9), (1, 0, 9), (2, 0, 9), (3, 0, 29), (4, 0, 9)], [], [], [(15, (0, 3, 0), (0, 4, 0))])] (by decide +kernel) (ρ0 := (fun s => [x0, x1, x2, x3, x4].getD s 0)) hB eF eC ⟨rfl, ⟨rfl, ⟨rfl, ⟨rfl, ⟨rfl, ⟨hv5, trivial⟩⟩⟩⟩⟩⟩ trivial ?_
  refine List.forall_mem_cons.mpr ⟨?_, fun _ h => absurd h List.not_mem_nil⟩
  · intro ρ τ Lc stc hx g1 g2 g3 g4 g5 g6 g7 g8
    have e0 : ρ 0 = x0 := hx 0 (by decide)
    have e1 : ρ 1 = x1 := hx 1 (by decide)
    have e2 : ρ 2 = x2 := hx 2 (by decide)
    have e3 : ρ 3 = x3 := hx 3 (by decide)
    have e4 : ρ 4 = x4 := hx 4 (by decide)
    subst e0
    subst e1
    subst e2
    subst e3
    subst e4
    have g7 := g7 (by decide)
    match Lc, stc, g7, g8 with
    | [v0, v1, v2, v3, v4, v5], [w0, w1, w2], ⟨hv0, hv1, hv2, hv3, hv4, hv5, _⟩, ⟨hw0, hw1, hw2, _⟩ =>
      cases hv0
      cases hv1
      cases hv2
      cases hv3
      cases hv4
      cases hv5
      cases hw0
      cases hw1
      cases hw2
      exact l0 τ ρ  g1 g2 g3 g4 g5 g6
set_option maxRecDepth 100000 in
theorem rf_l23 {σ : pm_S} {Q : Option Value → pm_S → Prop} (x0 x1 x2 x3 : Int) (v5 : Value) (hv5 : v5.category = 1) (hB : an_GB pm_B σ) (eF : (0 ≤ x0 ∧ x0 ≤ 9) ∧ (0 ≤ x1 ∧ x1 ≤ 9) ∧ (0 ≤ x2 ∧ x2 ≤ 9) ∧ (0 ≤ x3 ∧ x3 ≤ 29) ∧ True)
    (l0 : ∀ (τ : pm_S) (y : Nat → Int), an_GB pm_B τ → FQ [] σ τ → ((0 ≤ x0 ∧ x0 ≤ 9) ∧ (0 ≤ x1 ∧ x1 ≤ 9) ∧ (0 ≤ x2 ∧ x2 ≤ 9) ∧ (0 ≤ x3 ∧ x3 ≤ 29) ∧ True) → (True) → (True) → (True) → Ok 102 5 2 [.ref 74, .int (Int32.ofInt (x0)), .int (Int32.ofInt (x1)), .int (Int32.ofInt (x2)), .int (Int32.ofInt (x3 + 1)), .int (Int32.ofInt 0)] [] τ Q)
    : Ok 102 5 23 [.ref 74, .int (Int32.ofInt (x0)), .int (Int32.ofInt (x1)), .int (Int32.ofInt (x2)), .int (Int32.ofInt (x3)), v5] [] σ Q := by
  refine an_seg (B := pm_B) (F := []) (T := []) (S := []) (fun _ h => absurd h List.not_mem_nil) (k := 102) (d := 4) (cs := [2]) 8 23 4 [(0, 0, 9), (1, 0, 9), (2, 0, 9), (3, 0, 29)] [] [(2, 74, 0), (0, 0, 0), (0, 1, 0), (0, 2, 0), (0, 3, 0), (5, 0, 0)] [] [(2, [(2, 74, 0), (0, 0, 0), (0, 1, 0), (0, 2, 0), (0, 3, 1), (1, 0, 0)], [], [(0, 0, 9), (1, 0, 9), (2, 0, 9), (3, 0, 29)], [], [], [])] (by decide +kernel) (ρ0 := (fun s => [x0, x1, x2, x3].getD s 0)) hB eF trivial ⟨rfl, ⟨rfl, ⟨rfl, ⟨rfl, ⟨rfl, ⟨hv5, trivial⟩⟩⟩⟩⟩⟩ trivial ?_
  refine List.forall_mem_cons.mpr ⟨?_, fun _ h => absurd h List.not_mem_nil⟩
  · intro ρ τ Lc stc hx g1 g2 g3 g4 g5 g6 g7 g8
    have e0 : ρ 0 = x0 := hx 0 (by decide)
    have e1 : ρ 1 = x1 := hx 1 (by decide)
    have e2 : ρ 2 = x2 := hx 2 (by decide)
    have e3 : ρ 3 = x3 := hx 3 (by decide)
    subst e0
    subst e1
    subst e2
    subst e3
    have g7 := g7 (by decide)
    match Lc, stc, g7, g8 with
    | [v0, v1, v2, v3, v4, v5], [], ⟨hv0, hv1, hv2, hv3, hv4, hv5, _⟩, _ =>
      cases hv0
      cases hv1
      cases hv2
      cases hv3
      cases hv4
      cases hv5
      exact l0 τ ρ  g1 g2 g3 g4 g5 g6
set_option maxRecDepth 100000 in
theorem rf_l36 {σ : pm_S} {Q : Option Value → pm_S → Prop} (x0 x1 x2 x3 x4 : Int) (v5 : Value) (hv5 : v5.category = 1) (hB : an_GB pm_B σ) (eF : (0 ≤ x0 ∧ x0 ≤ 9) ∧ (0 ≤ x1 ∧ x1 ≤ 9) ∧ (0 ≤ x2 ∧ x2 ≤ 9) ∧ (0 ≤ x3 ∧ x3 ≤ 29) ∧ (0 ≤ x4 ∧ x4 ≤ 99) ∧ True)
    (l0 : ∀ (τ : pm_S) (y : Nat → Int) (v5 : Value), v5.category = 1 → an_GB pm_B τ → FQ [] σ τ → ((0 ≤ x0 ∧ x0 ≤ 9) ∧ (0 ≤ x1 ∧ x1 ≤ 9) ∧ (0 ≤ x2 ∧ x2 ≤ 9) ∧ (0 ≤ x3 ∧ x3 ≤ 29) ∧ (0 ≤ x4 ∧ x4 ≤ 99) ∧ True) → (True) → (True) → (True) → Ok 102 5 37 [.ref 74, .int (Int32.ofInt (x0)), .int (Int32.ofInt (x1)), .int (Int32.ofInt (x2)), .int (Int32.ofInt (x3)), v5] [.int (Int32.ofInt (x2)), .int (Int32.ofInt (x4))] τ Q)
    : Ok 102 5 36 [.ref 74, .int (Int32.ofInt (x0)), .int (Int32.ofInt (x1)), .int (Int32.ofInt (x2)), .int (Int32.ofInt (x3)), v5] [.int (Int32.ofInt (x4))] σ Q := by
  refine an_seg (B := pm_B) (F := []) (T := []) (S := []) (fun _ h => absurd h List.not_mem_nil) (k := 102) (d := 4) (cs := [37]) 3 36 5 [(0, 0, 9), (1, 0, 9), (2, 0, 9), (3, 0, 29), (4, 0, 99)] [] [(2, 74, 0), (0, 0, 0), (0, 1, 0), (0, 2, 0), (0, 3, 0), (5, 0, 0)] [(0, 4, 0)] [(37, [(2, 74, 0), (0, 0, 0), (0, 1, 0), (0, 2, 0), (0, 3, 0), (5, 0, 0)], [(0, 2, 0), (0, 4, 0)], [(0, 0, 9), (1, 0, 9), (2, 0, 9), (3, 0, 29), (4, 0, 99)], [], [], [])] (by decide +kernel) (ρ0 := (fun s => [x0, x1, x2, x3, x4].getD s 0)) hB eF trivial ⟨rfl, ⟨rfl, ⟨rfl, ⟨rfl, ⟨rfl, ⟨hv5, trivial⟩⟩⟩⟩⟩⟩ ⟨rfl, trivial⟩ ?_
  refine List.forall_mem_cons.mpr ⟨?_, fun _ h => absurd h List.not_mem_nil⟩
  · intro ρ τ Lc stc hx g1 g2 g3 g4 g5 g6 g7 g8
    have e0 : ρ 0 = x0 := hx 0 (by decide)
    have e1 : ρ 1 = x1 := hx 1 (by decide)
    have e2 : ρ 2 = x2 := hx 2 (by decide)
    have e3 : ρ 3 = x3 := hx 3 (by decide)
    have e4 : ρ 4 = x4 := hx 4 (by decide)
    subst e0
    subst e1
    subst e2
    subst e3
    subst e4
    have g7 := g7 (by decide)
    match Lc, stc, g7, g8 with
    | [v0, v1, v2, v3, v4, v5], [w0, w1], ⟨hv0, hv1, hv2, hv3, hv4, hv5, _⟩, ⟨hw0, hw1, _⟩ =>
      cases hv0
      cases hv1
      cases hv2
      cases hv3
      cases hv4
      cases hw0
      cases hw1
      exact l0 τ ρ v5 hv5 g1 g2 g3 g4 g5 g6
set_option maxRecDepth 100000 in
theorem rf_l38 {σ : pm_S} {Q : Option Value → pm_S → Prop} (x0 x1 x2 x3 : Int) (v5 : Value) (hv5 : v5.category = 1) (hB : an_GB pm_B σ) (eF : (0 ≤ x0 ∧ x0 ≤ 9) ∧ (0 ≤ x1 ∧ x1 ≤ 9) ∧ (0 ≤ x2 ∧ x2 ≤ 9) ∧ (0 ≤ x3 ∧ x3 ≤ 29) ∧ True)
    (l0 : ∀ (τ : pm_S) (y : Nat → Int), an_GB pm_B τ → FQ [] σ τ → ((0 ≤ x0 ∧ x0 ≤ 9) ∧ (0 ≤ x1 ∧ x1 ≤ 9) ∧ (0 ≤ x2 ∧ x2 ≤ 9) ∧ (0 ≤ x3 ∧ x3 ≤ 29) ∧ True) → (True) → (True) → (True) → Q (some (.int (Int32.ofInt (x3)))) τ)
    : Ok 102 5 38 [.ref 74, .int (Int32.ofInt (x0)), .int (Int32.ofInt (x1)), .int (Int32.ofInt (x2)), .int (Int32.ofInt (x3)), v5] [] σ Q := by
  refine an_seg (B := pm_B) (F := []) (T := []) (S := []) (fun _ h => absurd h List.not_mem_nil) (k := 102) (d := 4) (cs := []) 4 38 4 [(0, 0, 9), (1, 0, 9), (2, 0, 9), (3, 0, 29)] [] [(2, 74, 0), (0, 0, 0), (0, 1, 0), (0, 2, 0), (0, 3, 0), (5, 0, 0)] [] [(9999, [], [(0, 3, 0)], [(0, 0, 9), (1, 0, 9), (2, 0, 9), (3, 0, 29)], [], [], [])] (by decide +kernel) (ρ0 := (fun s => [x0, x1, x2, x3].getD s 0)) hB eF trivial ⟨rfl, ⟨rfl, ⟨rfl, ⟨rfl, ⟨rfl, ⟨hv5, trivial⟩⟩⟩⟩⟩⟩ trivial ?_
  refine List.forall_mem_cons.mpr ⟨?_, fun _ h => absurd h List.not_mem_nil⟩
  · intro ρ τ Lc stc hx g1 g2 g3 g4 g5 g6 g7 g8
    have e0 : ρ 0 = x0 := hx 0 (by decide)
    have e1 : ρ 1 = x1 := hx 1 (by decide)
    have e2 : ρ 2 = x2 := hx 2 (by decide)
    have e3 : ρ 3 = x3 := hx 3 (by decide)
    subst e0
    subst e1
    subst e2
    subst e3
    match stc, g8 with
    | [_], ⟨h, _⟩ => cases h; exact l0 τ ρ g1 g2 g3 g4 g5 g6
set_option maxRecDepth 100000 in
theorem rf_l40 {σ : pm_S} {Q : Option Value → pm_S → Prop} (x0 x1 x2 x3 : Int) (v5 : Value) (hv5 : v5.category = 1) (hB : an_GB pm_B σ) (eF : (0 ≤ x0 ∧ x0 ≤ 9) ∧ (0 ≤ x1 ∧ x1 ≤ 9) ∧ (0 ≤ x2 ∧ x2 ≤ 9) ∧ (0 ≤ x3 ∧ x3 ≤ 29) ∧ True)
    (l0 : ∀ (τ : pm_S) (y : Nat → Int) (v5 : Value), v5.category = 1 → an_GB pm_B τ → FQ [] σ τ → ((0 ≤ x0 ∧ x0 ≤ 9) ∧ (0 ≤ x1 ∧ x1 ≤ 9) ∧ (0 ≤ x2 ∧ x2 ≤ 9) ∧ (0 ≤ x3 ∧ x3 ≤ 29) ∧ True) → (True) → (True) → (True) → Ok 102 5 2 [.ref 74, .int (Int32.ofInt (x0)), .int (Int32.ofInt (x1)), .int (Int32.ofInt (x2)), .int (Int32.ofInt (x3 + 1)), v5] [] τ Q)
    : Ok 102 5 40 [.ref 74, .int (Int32.ofInt (x0)), .int (Int32.ofInt (x1)), .int (Int32.ofInt (x2)), .int (Int32.ofInt (x3)), v5] [] σ Q := by
  refine an_seg (B := pm_B) (F := []) (T := []) (S := []) (fun _ h => absurd h List.not_mem_nil) (k := 102) (d := 4) (cs := [2]) 4 40 4 [(0, 0, 9), (1, 0, 9), (2, 0, 9), (3, 0, 29)] [] [(2, 74, 0), (0, 0, 0), (0, 1, 0), (0, 2, 0), (0, 3, 0), (5, 0, 0)] [] [(2, [(2, 74, 0), (0, 0, 0), (0, 1, 0), (0, 2, 0), (0, 3, 1), (5, 0, 0)], [], [(0, 0, 9), (1, 0, 9), (2, 0, 9), (3, 0, 29)], [], [], [])] (by decide +kernel) (ρ0 := (fun s => [x0, x1, x2, x3].getD s 0)) hB eF trivial ⟨rfl, ⟨rfl, ⟨rfl, ⟨rfl, ⟨rfl, ⟨hv5, trivial⟩⟩⟩⟩⟩⟩ trivial ?_
  refine List.forall_mem_cons.mpr ⟨?_, fun _ h => absurd h List.not_mem_nil⟩
  · intro ρ τ Lc stc hx g1 g2 g3 g4 g5 g6 g7 g8
    have e0 : ρ 0 = x0 := hx 0 (by decide)
    have e1 : ρ 1 = x1 := hx 1 (by decide)
    have e2 : ρ 2 = x2 := hx 2 (by decide)
    have e3 : ρ 3 = x3 := hx 3 (by decide)
    subst e0
    subst e1
    subst e2
    subst e3
    have g7 := g7 (by decide)
    match Lc, stc, g7, g8 with
    | [v0, v1, v2, v3, v4, v5], [], ⟨hv0, hv1, hv2, hv3, hv4, hv5, _⟩, _ =>
      cases hv0
      cases hv1
      cases hv2
      cases hv3
      cases hv4
      exact l0 τ ρ v5 hv5 g1 g2 g3 g4 g5 g6
set_option maxRecDepth 100000 in
theorem rf_t0 {σ : pm_S} {Q : Option Value → pm_S → Prop} (x0 x1 : Int) (v3 : Value) (v4 : Value) (v5 : Value) (v6 : Value) (hv3 : v3.category = 1) (hv4 : v4.category = 1) (hv5 : v5.category = 1) (hv6 : v6.category = 1) (hB : an_GB pm_B σ) (eF : (0 ≤ x0 ∧ x0 ≤ 29) ∧ (1 ≤ x1 ∧ x1 ≤ 10) ∧ True)
    (l0 : ∀ (τ : pm_S) (y : Nat → Int) (v3 : Value) (v4 : Value) (v5 : Value) (v6 : Value), v3.category = 1 → v4.category = 1 → v5.category = 1 → v6.category = 1 → an_GB pm_B τ → FQ [] σ τ → ((0 ≤ x0 ∧ x0 ≤ 29) ∧ (1 ≤ x1 ∧ x1 ≤ 10) ∧ True) → (True) → (True) → (True) → Ok 101 7 4 [.ref 74, .int (Int32.ofInt (x0)), .int (Int32.ofInt (x1)), v3, v4, v5, v6] [.int (Int32.ofInt (x0)), .int (Int32.ofInt 0), .ref 78] τ Q)
    : Ok 101 7 0 [.ref 74, .int (Int32.ofInt (x0)), .int (Int32.ofInt (x1)), v3, v4, v5, v6] [] σ Q := by
  refine an_seg (B := pm_B) (F := []) (T := []) (S := []) (fun _ h => absurd h List.not_mem_nil) (k := 101) (d := 6) (cs := [4]) 6 0 2 [(0, 0, 29), (1, 1, 10)] [] [(2, 74, 0), (0, 0, 0), (0, 1, 0), (5, 0, 0), (5, 0, 0), (5, 0, 0), (5, 0, 0)] [] [(4, [(2, 74, 0), (0, 0, 0), (0, 1, 0), (5, 0, 0), (5, 0, 0), (5, 0, 0), (5, 0, 0)], [(0, 0, 0), (1, 0, 0), (2, 78, 0)], [(0, 0, 29), (1, 1, 10)], [], [], [])] (by decide +kernel) (ρ0 := (fun s => [x0, x1].getD s 0)) hB eF trivial ⟨rfl, ⟨rfl, ⟨rfl, ⟨hv3, ⟨hv4, ⟨hv5, ⟨hv6, trivial⟩⟩⟩⟩⟩⟩⟩ trivial ?_
  refine List.forall_mem_cons.mpr ⟨?_, fun _ h => absurd h List.not_mem_nil⟩
  · intro ρ τ Lc stc hx g1 g2 g3 g4 g5 g6 g7 g8
    have e0 : ρ 0 = x0 := hx 0 (by decide)
    have e1 : ρ 1 = x1 := hx 1 (by decide)
    subst e0
    subst e1
    have g7 := g7 (by decide)
    match Lc, stc, g7, g8 with
    | [v0, v1, v2, v3, v4, v5, v6], [w0, w1, w2], ⟨hv0, hv1, hv2, hv3, hv4, hv5, hv6, _⟩, ⟨hw0, hw1, hw2, _⟩ =>
      cases hv0
      cases hv1
      cases hv2
      cases hw0
      cases hw1
      cases hw2
      exact l0 τ ρ v3 v4 v5 v6 hv3 hv4 hv5 hv6 g1 g2 g3 g4 g5 g6
set_option maxRecDepth 100000 in
theorem rf_t5 {σ : pm_S} {Q : Option Value → pm_S → Prop} (x0 x1 x2 x3 : Int) (v3 : Value) (v4 : Value) (v5 : Value) (v6 : Value) (hv3 : v3.category = 1) (hv4 : v4.category = 1) (hv5 : v5.category = 1) (hv6 : v6.category = 1) (hB : an_GB pm_B σ) (eF : (0 ≤ x0 ∧ x0 ≤ 29) ∧ (1 ≤ x1 ∧ x1 ≤ 10) ∧ (0 ≤ x2 ∧ x2 ≤ 9) ∧ (0 ≤ x3 ∧ x3 ≤ 9) ∧ True) (eC : (σ.1 14 (x0).toNat).toInt = x2 ∧ (σ.1 15 (x0).toNat).toInt = x3 ∧ True)
    (l0 : ∀ (τ : pm_S) (y : Nat → Int) (v6 : Value), v6.category = 1 → an_GB pm_B τ → FQ [(74, 5)] σ τ → ((0 ≤ x0 ∧ x0 ≤ 29) ∧ (1 ≤ x1 ∧ x1 ≤ 10) ∧ (0 ≤ x2 ∧ x2 ≤ 9) ∧ (0 ≤ x3 ∧ x3 ≤ 9) ∧ True) → (True) → (True) → ((τ.1 14 (x0).toNat).toInt = x2 ∧ (τ.1 15 (x0).toNat).toInt = x3 ∧ (τ.1 74 5).toInt = 1 ∧ True) → Ok 101 7 26 [.ref 74, .int (Int32.ofInt (x0)), .int (Int32.ofInt (x1)), .int (Int32.ofInt (x2)), .int (Int32.ofInt (x3)), .int (Int32.ofInt (x1 + (-1))), v6] [] τ Q)
    : Ok 101 7 5 [.ref 74, .int (Int32.ofInt (x0)), .int (Int32.ofInt (x1)), v3, v4, v5, v6] [] σ Q := by
  refine an_seg (B := pm_B) (F := [(74, 5)]) (T := [14, 15]) (S := []) (fun _ h => absurd h List.not_mem_nil) (k := 101) (d := 6) (cs := [26]) 23 5 4 [(0, 0, 29), (1, 1, 10), (2, 0, 9), (3, 0, 9)] [(14, (0, 0, 0), (0, 2, 0)), (15, (0, 0, 0), (0, 3, 0))] [(2, 74, 0), (0, 0, 0), (0, 1, 0), (5, 0, 0), (5, 0, 0), (5, 0, 0), (5, 0, 0)] [] [(26, [(2, 74, 0), (0, 0, 0), (0, 1, 0), (0, 2, 0), (0, 3, 0), (0, 1, (-1)), (5, 0, 0)], [], [(0, 0, 29), (1, 1, 10), (2, 0, 9), (3, 0, 9)], [], [], [(14, (0, 0, 0), (0, 2, 0)), (15, (0, 0, 0), (0, 3, 0)), (74, (1, 0, 5), (1, 0, 1))])] (by decide +kernel) (ρ0 := (fun s => [x0, x1, x2, x3].getD s 0)) hB eF eC ⟨rfl, ⟨rfl, ⟨rfl, ⟨hv3, ⟨hv4, ⟨hv5, ⟨hv6, trivial⟩⟩⟩⟩⟩⟩⟩ trivial ?_
  refine List.forall_mem_cons.mpr ⟨?_, fun _ h => absurd h List.not_mem_nil⟩
  · intro ρ τ Lc stc hx g1 g2 g3 g4 g5 g6 g7 g8
    have e0 : ρ 0 = x0 := hx 0 (by decide)
    have e1 : ρ 1 = x1 := hx 1 (by decide)
    have e2 : ρ 2 = x2 := hx 2 (by decide)
    have e3 : ρ 3 = x3 := hx 3 (by decide)
    subst e0
    subst e1
    subst e2
    subst e3
    have g7 := g7 (by decide)
    match Lc, stc, g7, g8 with
    | [v0, v1, v2, v3, v4, v5, v6], [], ⟨hv0, hv1, hv2, hv3, hv4, hv5, hv6, _⟩, _ =>
      cases hv0
      cases hv1
      cases hv2
      cases hv3
      cases hv4
      cases hv5
      exact l0 τ ρ v6 hv6 g1 g2 g3 g4 g5 g6
set_option maxRecDepth 100000 in
theorem rf_t26 {σ : pm_S} {Q : Option Value → pm_S → Prop} (x0 x1 x2 x3 x4 x5 : Int) (v6 : Value) (hv6 : v6.category = 1) (hB : an_GB pm_B σ) (eF : (0 ≤ x0 ∧ x0 ≤ 29) ∧ (1 ≤ x1 ∧ x1 ≤ 10) ∧ (0 ≤ x2 ∧ x2 ≤ 9) ∧ (0 ≤ x3 ∧ x3 ≤ 9) ∧ (0 ≤ x4 ∧ x4 ≤ 9) ∧ (1 ≤ x5 ∧ x5 ≤ 10) ∧ True) (eC : (σ.1 74 5).toInt = x5 ∧ True)
    (l0 : ∀ (τ : pm_S) (y : Nat → Int), an_GB pm_B τ → FQ [] σ τ → ((0 ≤ x0 ∧ x0 ≤ 29) ∧ (1 ≤ x1 ∧ x1 ≤ 10) ∧ (0 ≤ x2 ∧ x2 ≤ 9) ∧ (0 ≤ x3 ∧ x3 ≤ 9) ∧ (0 ≤ x4 ∧ x4 ≤ 0) ∧ (1 ≤ x5 ∧ x5 ≤ 10) ∧ True) → (True) → (True) → ((τ.1 74 5).toInt = x5 ∧ True) → Q none τ)
    (l1 : ∀ (τ : pm_S) (y : Nat → Int), an_GB pm_B τ → FQ [] σ τ → ((0 ≤ x0 ∧ x0 ≤ 29) ∧ (1 ≤ x1 ∧ x1 ≤ 10) ∧ (0 ≤ x2 ∧ x2 ≤ 9) ∧ (0 ≤ x3 ∧ x3 ≤ 9) ∧ (1 ≤ x4 ∧ x4 ≤ 9) ∧ (10 ≤ x5 ∧ x5 ≤ 10) ∧ True) → (True) → (True) → ((τ.1 74 5).toInt = x5 ∧ True) → Q none τ)
    (l2 : ∀ (τ : pm_S) (y : Nat → Int) (v6 : Value), v6.category = 1 → an_GB pm_B τ → FQ [] σ τ → ((0 ≤ x0 ∧ x0 ≤ 29) ∧ (1 ≤ x1 ∧ x1 ≤ 10) ∧ (0 ≤ x2 ∧ x2 ≤ 9) ∧ (0 ≤ x3 ∧ x3 ≤ 9) ∧ (1 ≤ x4 ∧ x4 ≤ 9) ∧ (1 ≤ x5 ∧ x5 ≤ 9) ∧ True) → (True) → (True) → ((τ.1 74 5).toInt = x5 ∧ True) → Ok 101 7 40 [.ref 74, .int (Int32.ofInt (x0)), .int (Int32.ofInt (x1)), .int (Int32.ofInt (x2)), .int (Int32.ofInt (x3)), .int (Int32.ofInt (x4)), v6] [.int (Int32.ofInt (x4 + (-1))), .int (Int32.ofInt (x2)), .int (Int32.ofInt (x3)), .ref 74] τ Q)
    : Ok 101 7 26 [.ref 74, .int (Int32.ofInt (x0)), .int (Int32.ofInt (x1)), .int (Int32.ofInt (x2)), .int (Int32.ofInt (x3)), .int (Int32.ofInt (x4)), v6] [] σ Q := by
  refine an_seg (B := pm_B) (F := []) (T := []) (S := []) (fun _ h => absurd h List.not_mem_nil) (k := 101) (d := 6) (cs := [40]) 16 26 6 [(0, 0, 29), (1, 1, 10), (2, 0, 9), (3, 0, 9), (4, 0, 9), (5, 1, 10)] [(74, (1, 0, 5), (0, 5, 0))] [(2, 74, 0), (0, 0, 0), (0, 1, 0), (0, 2, 0), (0, 3, 0), (0, 4, 0), (5, 0, 0)] [] [(9999, [], [], [(0, 0, 29), (1, 1, 10), (2, 0, 9), (3, 0, 9), (4, 0, 0), (5, 1, 10)], [], [], [(74, (1, 0, 5), (0, 5, 0))]),
    (9999, [], [], [(0, 0, 29), (1, 1, 10), (2, 0, 9), (3, 0, 9), (4, 1, 9), (5, 10, 10)], [], [], [(74, (1, 0, 5), (0, 5, 0))]),
    (40, [(2, 74, 0), (0, 0, 0), (0, 1, 0), (0, 2, 0), (0, 3, 0), (0, 4, 0), (5, 0, 0)], [(0, 4, (-1)), (0, 2, 0), (0, 3, 0), (2, 74, 0)], [(0, 0, 29), (1, 1, 10), (2, 0, 9), (3, 0, 9), (4, 1, 9), (5, 1, 9)], [], [], [(74, (1, 0, 5), (0, 5, 0))])] (by decide +kernel) (ρ0 := (fun s => [x0, x1, x2, x3, x4, x5].getD s 0)) hB eF eC ⟨rfl, ⟨rfl, ⟨rfl, ⟨rfl, ⟨rfl, ⟨rfl, ⟨hv6, trivial⟩⟩⟩⟩⟩⟩⟩ trivial ?_
  refine List.forall_mem_cons.mpr ⟨?_, List.forall_mem_cons.mpr ⟨?_, List.forall_mem_cons.mpr ⟨?_, fun _ h => absurd h List.not_mem_nil⟩⟩⟩
  · intro ρ τ Lc stc hx g1 g2 g3 g4 g5 g6 g7 g8
    have e0 : ρ 0 = x0 := hx 0 (by decide)
    have e1 : ρ 1 = x1 := hx 1 (by decide)
    have e2 : ρ 2 = x2 := hx 2 (by decide)
    have e3 : ρ 3 = x3 := hx 3 (by decide)
    have e4 : ρ 4 = x4 := hx 4 (by decide)
    have e5 : ρ 5 = x5 := hx 5 (by decide)
    subst e0
    subst e1
    subst e2
    subst e3
    subst e4
    subst e5
    match stc, g8 with
    | [], _ => exact l0 τ ρ g1 g2 g3 g4 g5 g6
  · intro ρ τ Lc stc hx g1 g2 g3 g4 g5 g6 g7 g8
    have e0 : ρ 0 = x0 := hx 0 (by decide)
    have e1 : ρ 1 = x1 := hx 1 (by decide)
    have e2 : ρ 2 = x2 := hx 2 (by decide)
    have e3 : ρ 3 = x3 := hx 3 (by decide)
    have e4 : ρ 4 = x4 := hx 4 (by decide)
    have e5 : ρ 5 = x5 := hx 5 (by decide)
    subst e0
    subst e1
    subst e2
    subst e3
    subst e4
    subst e5
    match stc, g8 with
    | [], _ => exact l1 τ ρ g1 g2 g3 g4 g5 g6
  · intro ρ τ Lc stc hx g1 g2 g3 g4 g5 g6 g7 g8
    have e0 : ρ 0 = x0 := hx 0 (by decide)
    have e1 : ρ 1 = x1 := hx 1 (by decide)
    have e2 : ρ 2 = x2 := hx 2 (by decide)
    have e3 : ρ 3 = x3 := hx 3 (by decide)
    have e4 : ρ 4 = x4 := hx 4 (by decide)
    have e5 : ρ 5 = x5 := hx 5 (by decide)
    subst e0
    subst e1
    subst e2
    subst e3
    subst e4
    subst e5
    have g7 := g7 (by decide)
    match Lc, stc, g7, g8 with
    | [v0, v1, v2, v3, v4, v5, v6], [w0, w1, w2, w3], ⟨hv0, hv1, hv2, hv3, hv4, hv5, hv6, _⟩, ⟨hw0, hw1, hw2, hw3, _⟩ =>
      cases hv0
      cases hv1
      cases hv2
      cases hv3
      cases hv4
      cases hv5
      cases hw0
      cases hw1
      cases hw2
      cases hw3
      exact l2 τ ρ v6 hv6 g1 g2 g3 g4 g5 g6
set_option maxRecDepth 100000 in
theorem rf_t41 {σ : pm_S} {Q : Option Value → pm_S → Prop} (x0 x1 x2 x3 x4 x5 x6 : Int) (v6 : Value) (hv6 : v6.category = 1) (hB : an_GB pm_B σ) (eF : (0 ≤ x0 ∧ x0 ≤ 29) ∧ (1 ≤ x1 ∧ x1 ≤ 10) ∧ (0 ≤ x2 ∧ x2 ≤ 9) ∧ (0 ≤ x3 ∧ x3 ≤ 9) ∧ (1 ≤ x4 ∧ x4 ≤ 9) ∧ (0 ≤ x5 ∧ x5 ≤ 29) ∧ (1 ≤ x6 ∧ x6 ≤ 9) ∧ True) (eC : (σ.1 74 5).toInt = x6 ∧ True)
    (l0 : ∀ (τ : pm_S) (y : Nat → Int), an_GB pm_B τ → FQ [] σ τ → ((0 ≤ x0 ∧ x0 ≤ 29) ∧ (1 ≤ x1 ∧ x1 ≤ 10) ∧ (0 ≤ x2 ∧ x2 ≤ 9) ∧ (0 ≤ x3 ∧ x3 ≤ 9) ∧ (1 ≤ x4 ∧ x4 ≤ 9) ∧ (0 ≤ x5 ∧ x5 ≤ 29) ∧ (1 ≤ x6 ∧ x6 ≤ 9) ∧ True) → (x5 ≠ (-1) ∧ True) → (True) → ((τ.1 74 5).toInt = x6 ∧ True) → Ok 101 7 51 [.ref 74, .int (Int32.ofInt (x0)), .int (Int32.ofInt (x1)), .int (Int32.ofInt (x2)), .int (Int32.ofInt (x3)), .int (Int32.ofInt (x4)), .int (Int32.ofInt (x5))] [.int (Int32.ofInt (x5)), .int (Int32.ofInt (x6)), .ref 78] τ Q)
    : Ok 101 7 41 [.ref 74, .int (Int32.ofInt (x0)), .int (Int32.ofInt (x1)), .int (Int32.ofInt (x2)), .int (Int32.ofInt (x3)), .int (Int32.ofInt (x4)), v6] [.int (Int32.ofInt (x5))] σ Q := by
  refine an_seg (B := pm_B) (F := []) (T := []) (S := []) (fun _ h => absurd h List.not_mem_nil) (k := 101) (d := 6) (cs := [51]) 11 41 7 [(0, 0, 29), (1, 1, 10), (2, 0, 9), (3, 0, 9), (4, 1, 9), (5, 0, 29), (6, 1, 9)] [(74, (1, 0, 5), (0, 6, 0))] [(2, 74, 0), (0, 0, 0), (0, 1, 0), (0, 2, 0), (0, 3, 0), (0, 4, 0), (5, 0, 0)] [(0, 5, 0)] [(51, [(2, 74, 0), (0, 0, 0), (0, 1, 0), (0, 2, 0), (0, 3, 0), (0, 4, 0), (0, 5, 0)], [(0, 5, 0), (0, 6, 0), (2, 78, 0)], [(0, 0, 29), (1, 1, 10), (2, 0, 9), (3, 0, 9), (4, 1, 9), (5, 0, 29), (6, 1, 9)], [(3, 5, 5, (-1))], [], [(74, (1, 0, 5), (0, 6, 0))])] (by decide +kernel) (ρ0 := (fun s => [x0, x1, x2, x3, x4, x5, x6].getD s 0)) hB eF eC ⟨rfl, ⟨rfl, ⟨rfl, ⟨rfl, ⟨rfl, ⟨rfl, ⟨hv6, trivial⟩⟩⟩⟩⟩⟩⟩ ⟨rfl, trivial⟩ ?_
  refine List.forall_mem_cons.mpr ⟨?_, fun _ h => absurd h List.not_mem_nil⟩
  · intro ρ τ Lc stc hx g1 g2 g3 g4 g5 g6 g7 g8
    have e0 : ρ 0 = x0 := hx 0 (by decide)
    have e1 : ρ 1 = x1 := hx 1 (by decide)
    have e2 : ρ 2 = x2 := hx 2 (by decide)
    have e3 : ρ 3 = x3 := hx 3 (by decide)
    have e4 : ρ 4 = x4 := hx 4 (by decide)
    have e5 : ρ 5 = x5 := hx 5 (by decide)
    have e6 : ρ 6 = x6 := hx 6 (by decide)
    subst e0
    subst e1
    subst e2
    subst e3
    subst e4
    subst e5
    subst e6
    have g7 := g7 (by decide)
    match Lc, stc, g7, g8 with
    | [v0, v1, v2, v3, v4, v5, v6], [w0, w1, w2], ⟨hv0, hv1, hv2, hv3, hv4, hv5, hv6, _⟩, ⟨hw0, hw1, hw2, _⟩ =>
      cases hv0
      cases hv1
      cases hv2
      cases hv3
      cases hv4
      cases hv5
      cases hv6
      cases hw0
      cases hw1
      cases hw2
      exact l0 τ ρ  g1 g2 g3 g4 g5 g6
set_option maxRecDepth 100000 in
theorem rf_t52 {σ : pm_S} {Q : Option Value → pm_S → Prop} (x0 x1 x2 x3 x4 x5 x6 x7 : Int)  (hB : an_GB pm_B σ) (eF : (0 ≤ x0 ∧ x0 ≤ 29) ∧ (1 ≤ x1 ∧ x1 ≤ 10) ∧ (0 ≤ x2 ∧ x2 ≤ 9) ∧ (0 ≤ x3 ∧ x3 ≤ 9) ∧ (1 ≤ x4 ∧ x4 ≤ 9) ∧ (0 ≤ x5 ∧ x5 ≤ 29) ∧ (1 ≤ x6 ∧ x6 ≤ 9) ∧ (0 ≤ x7 ∧ x7 ≤ 9) ∧ True) (eC : (σ.1 74 5).toInt = x6 ∧ (σ.1 15 (x5).toNat).toInt = x7 ∧ True)
    (l0 : ∀ (τ : pm_S) (y : Nat → Int), an_GB pm_B τ → FQ [(74, 5)] σ τ → ((0 ≤ x0 ∧ x0 ≤ 29) ∧ (1 ≤ x1 ∧ x1 ≤ 10) ∧ (0 ≤ x2 ∧ x2 ≤ 9) ∧ (0 ≤ x3 ∧ x3 ≤ 9) ∧ (1 ≤ x4 ∧ x4 ≤ 9) ∧ (0 ≤ x5 ∧ x5 ≤ 29) ∧ (1 ≤ x6 ∧ x6 ≤ 9) ∧ (0 ≤ x7 ∧ x7 ≤ 9) ∧ True) → (True) → (True) → ((τ.1 15 (x5).toNat).toInt = x7 ∧ (τ.1 74 5).toInt = x6 + 1 ∧ True) → Ok 101 7 26 [.ref 74, .int (Int32.ofInt (x0)), .int (Int32.ofInt (x1)), .int (Int32.ofInt (x2)), .int (Int32.ofInt (x7)), .int (Int32.ofInt (x4 + (-1))), .int (Int32.ofInt (x5))] [] τ Q)
    : Ok 101 7 52 [.ref 74, .int (Int32.ofInt (x0)), .int (Int32.ofInt (x1)), .int (Int32.ofInt (x2)), .int (Int32.ofInt (x3)), .int (Int32.ofInt (x4)), .int (Int32.ofInt (x5))] [] σ Q := by
  refine an_seg (B := pm_B) (F := [(74, 5)]) (T := [15]) (S := []) (fun _ h => absurd h List.not_mem_nil) (k := 101) (d := 6) (cs := [26]) 17 52 8 [(0, 0, 29), (1, 1, 10), (2, 0, 9), (3, 0, 9), (4, 1, 9), (5, 0, 29), (6, 1, 9), (7, 0, 9)] [(74, (1, 0, 5), (0, 6, 0)), (15, (0, 5, 0), (0, 7, 0))] [(2, 74, 0), (0, 0, 0), (0, 1, 0), (0, 2, 0), (0, 3, 0), (0, 4, 0), (0, 5, 0)] [] [(26, [(2, 74, 0), (0, 0, 0), (0, 1, 0), (0, 2, 0), (0, 7, 0), (0, 4, (-1)), (0, 5, 0)], [], [(0, 0, 29), (1, 1, 10), (2, 0, 9), (3, 0, 9), (4, 1, 9), (5, 0, 29), (6, 1, 9), (7, 0, 9)], [], [], [(15, (0, 5, 0), (0, 7, 0)), (74, (1, 0, 5), (0, 6, 1))])] (by decide +kernel) (ρ0 := (fun s => [x0, x1, x2, x3, x4, x5, x6, x7].getD s 0)) hB eF eC ⟨rfl, ⟨rfl, ⟨rfl, ⟨rfl, ⟨rfl, ⟨rfl, ⟨rfl, trivial⟩⟩⟩⟩⟩⟩⟩ trivial ?_
  refine List.forall_mem_cons.mpr ⟨?_, fun _ h => absurd h List.not_mem_nil⟩
  · intro ρ τ Lc stc hx g1 g2 g3 g4 g5 g6 g7 g8
    have e0 : ρ 0 = x0 := hx 0 (by decide)
    have e1 : ρ 1 = x1 := hx 1 (by decide)
    have e2 : ρ 2 = x2 := hx 2 (by decide)
    have e3 : ρ 3 = x3 := hx 3 (by decide)
    have e4 : ρ 4 = x4 := hx 4 (by decide)
    have e5 : ρ 5 = x5 := hx 5 (by decide)
    have e6 : ρ 6 = x6 := hx 6 (by decide)
    have e7 : ρ 7 = x7 := hx 7 (by decide)
    subst e0
    subst e1
    subst e2
    subst e3
    subst e4
    subst e5
    subst e6
    subst e7
    have g7 := g7 (by decide)
    match Lc, stc, g7, g8 with
    | [v0, v1, v2, v3, v4, v5, v6], [], ⟨hv0, hv1, hv2, hv3, hv4, hv5, hv6, _⟩, _ =>
      cases hv0
      cases hv1
      cases hv2
      cases hv3
      cases hv4
      cases hv5
      cases hv6
      exact l0 τ ρ  g1 g2 g3 g4 g5 g6
set_option maxRecDepth 100000 in
theorem rf_c0 {σ : pm_S} {Q : Option Value → pm_S → Prop} (v1 : Value) (v2 : Value) (v3 : Value) (v4 : Value) (hv1 : v1.category = 1) (hv2 : v2.category = 1) (hv3 : v3.category = 1) (hv4 : v4.category = 1) (hB : an_GB pm_B σ)
    (l0 : ∀ (τ : pm_S) (y : Nat → Int) (v3 : Value) (v4 : Value), v3.category = 1 → v4.category = 1 → an_GB pm_B τ → FQ [] σ τ → (True) → (True) → (True) → (True) → Ok 103 8 4 [.ref 74, .int (Int32.ofInt 1073741824), .int (Int32.ofInt 0), v3, v4] [] τ Q)
    : Ok 103 8 0 [.ref 74, v1, v2, v3, v4] [] σ Q := by
  refine an_seg (B := pm_B) (F := []) (T := []) (S := []) (fun _ h => absurd h List.not_mem_nil) (k := 103) (d := 7) (cs := [4]) 6 0 0 [] [] [(2, 74, 0), (5, 0, 0), (5, 0, 0), (5, 0, 0), (5, 0, 0)] [] [(4, [(2, 74, 0), (1, 0, 1073741824), (1, 0, 0), (5, 0, 0), (5, 0, 0)], [], [], [], [], [])] (by decide +kernel) (ρ0 := (fun s => [].getD s 0)) hB trivial trivial ⟨rfl, ⟨hv1, ⟨hv2, ⟨hv3, ⟨hv4, trivial⟩⟩⟩⟩⟩ trivial ?_
  refine List.forall_mem_cons.mpr ⟨?_, fun _ h => absurd h List.not_mem_nil⟩
  · intro ρ τ Lc stc hx g1 g2 g3 g4 g5 g6 g7 g8
    have g7 := g7 (by decide)
    match Lc, stc, g7, g8 with
    | [v0, v1, v2, v3, v4], [], ⟨hv0, hv1, hv2, hv3, hv4, _⟩, _ =>
      cases hv0
      cases hv1
      cases hv2
      exact l0 τ ρ v3 v4 hv3 hv4 g1 g2 g3 g4 g5 g6
set_option maxRecDepth 100000 in
theorem rf_c4 {σ : pm_S} {Q : Option Value → pm_S → Prop} (x0 x1 x2 : Int) (v3 : Value) (v4 : Value) (hv3 : v3.category = 1) (hv4 : v4.category = 1) (hB : an_GB pm_B σ) (eF : (0 ≤ x0 ∧ x0 ≤ 1073741824) ∧ (0 ≤ x1 ∧ x1 ≤ 10) ∧ (0 ≤ x2 ∧ x2 ≤ 10) ∧ True) (eC : (σ.1 74 5).toInt = x2 ∧ True)
    (l0 : ∀ (τ : pm_S) (y : Nat → Int) (v3 : Value) (v4 : Value), v3.category = 1 → v4.category = 1 → an_GB pm_B τ → FQ [] σ τ → ((0 ≤ x0 ∧ x0 ≤ 1073741824) ∧ (0 ≤ x1 ∧ x1 ≤ 10) ∧ (0 ≤ x2 ∧ x2 ≤ 10) ∧ True) → (True) → (True) → ((τ.1 74 5).toInt = x2 ∧ True) → Ok 103 8 7 [.ref 74, .int (Int32.ofInt (x0)), .int (Int32.ofInt (x1)), v3, v4] [.int (Int32.ofInt (x2)), .int (Int32.ofInt (x1))] τ Q)
    : Ok 103 8 4 [.ref 74, .int (Int32.ofInt (x0)), .int (Int32.ofInt (x1)), v3, v4] [] σ Q := by
  refine an_seg (B := pm_B) (F := []) (T := []) (S := []) (fun _ h => absurd h List.not_mem_nil) (k := 103) (d := 7) (cs := [7]) 5 4 3 [(0, 0, 1073741824), (1, 0, 10), (2, 0, 10)] [(74, (1, 0, 5), (0, 2, 0))] [(2, 74, 0), (0, 0, 0), (0, 1, 0), (5, 0, 0), (5, 0, 0)] [] [(7, [(2, 74, 0), (0, 0, 0), (0, 1, 0), (5, 0, 0), (5, 0, 0)], [(0, 2, 0), (0, 1, 0)], [(0, 0, 1073741824), (1, 0, 10), (2, 0, 10)], [], [], [(74, (1, 0, 5), (0, 2, 0))])] (by decide +kernel) (ρ0 := (fun s => [x0, x1, x2].getD s 0)) hB eF eC ⟨rfl, ⟨rfl, ⟨rfl, ⟨hv3, ⟨hv4, trivial⟩⟩⟩⟩⟩ trivial ?_
  refine List.forall_mem_cons.mpr ⟨?_, fun _ h => absurd h List.not_mem_nil⟩
  · intro ρ τ Lc stc hx g1 g2 g3 g4 g5 g6 g7 g8
    have e0 : ρ 0 = x0 := hx 0 (by decide)
    have e1 : ρ 1 = x1 := hx 1 (by decide)
    have e2 : ρ 2 = x2 := hx 2 (by decide)
    subst e0
    subst e1
    subst e2
    have g7 := g7 (by decide)
    match Lc, stc, g7, g8 with
    | [v0, v1, v2, v3, v4], [w0, w1], ⟨hv0, hv1, hv2, hv3, hv4, _⟩, ⟨hw0, hw1, _⟩ =>
      cases hv0
      cases hv1
      cases hv2
      cases hw0
      cases hw1
      exact l0 τ ρ v3 v4 hv3 hv4 g1 g2 g3 g4 g5 g6
set_option maxRecDepth 100000 in
theorem rf_c8 {σ : pm_S} {Q : Option Value → pm_S → Prop} (x0 x1 x2 x3 : Int) (v3 : Value) (v4 : Value) (hv3 : v3.category = 1) (hv4 : v4.category = 1) (hB : an_GB pm_B σ) (eF : (0 ≤ x0 ∧ x0 ≤ 1073741824) ∧ (0 ≤ x1 ∧ x1 ≤ 9) ∧ (0 ≤ x2 ∧ x2 ≤ 29) ∧ (0 ≤ x3 ∧ x3 ≤ 99999) ∧ True) (eC : (σ.1 78 (x1).toNat).toInt = x2 ∧ (σ.1 16 (x2).toNat).toInt = x3 ∧ True)
    (l0 : ∀ (τ : pm_S) (y : Nat → Int) (v3 : Value) (v4 : Value), v3.category = 1 → v4.category = 1 → an_GB pm_B τ → FQ [] σ τ → ((0 ≤ x0 ∧ x0 ≤ 1073741824) ∧ (0 ≤ x1 ∧ x1 ≤ 9) ∧ (0 ≤ x2 ∧ x2 ≤ 29) ∧ (0 ≤ x3 ∧ x3 ≤ 99999) ∧ (0 ≤ y 4 ∧ y 4 ≤ 99999) ∧ True) → (True) → ((an_f 11 (Int32.ofInt (x0)) (Int32.ofInt (x3))).toInt = y 4 ∧ True) → ((τ.1 16 (x2).toNat).toInt = x3 ∧ (τ.1 78 (x1).toNat).toInt = x2 ∧ True) → Ok 103 8 4 [.ref 74, .int (Int32.ofInt (y 4)), .int (Int32.ofInt (x1 + 1)), v3, v4] [] τ Q)
    : Ok 103 8 8 [.ref 74, .int (Int32.ofInt (x0)), .int (Int32.ofInt (x1)), v3, v4] [] σ Q := by
  refine an_seg (B := pm_B) (F := []) (T := [16, 78]) (S := []) (fun _ h => absurd h List.not_mem_nil) (k := 103) (d := 7) (cs := [4]) 16 8 4 [(0, 0, 1073741824), (1, 0, 9), (2, 0, 29), (3, 0, 99999)] [(78, (0, 1, 0), (0, 2, 0)), (16, (0, 2, 0), (0, 3, 0))] [(2, 74, 0), (0, 0, 0), (0, 1, 0), (5, 0, 0), (5, 0, 0)] [] [(4, [(2, 74, 0), (0, 4, 0), (0, 1, 1), (5, 0, 0), (5, 0, 0)], [], [(0, 0, 1073741824), (1, 0, 9), (2, 0, 29), (3, 0, 99999), (4, 0, 99999)], [], [(11, (0, 0, 0), (0, 3, 0), 4)], [(16, (0, 2, 0), (0, 3, 0)), (78, (0, 1, 0), (0, 2, 0))])] (by decide +kernel) (ρ0 := (fun s => [x0, x1, x2, x3].getD s 0)) hB eF eC ⟨rfl, ⟨rfl, ⟨rfl, ⟨hv3, ⟨hv4, trivial⟩⟩⟩⟩⟩ trivial ?_
  refine List.forall_mem_cons.mpr ⟨?_, fun _ h => absurd h List.not_mem_nil⟩
  · intro ρ τ Lc stc hx g1 g2 g3 g4 g5 g6 g7 g8
    have e0 : ρ 0 = x0 := hx 0 (by decide)
    have e1 : ρ 1 = x1 := hx 1 (by decide)
    have e2 : ρ 2 = x2 := hx 2 (by decide)
    have e3 : ρ 3 = x3 := hx 3 (by decide)
    subst e0
    subst e1
    subst e2
    subst e3
    have g7 := g7 (by decide)
    match Lc, stc, g7, g8 with
    | [v0, v1, v2, v3, v4], [], ⟨hv0, hv1, hv2, hv3, hv4, _⟩, _ =>
      cases hv0
      cases hv1
      cases hv2
      exact l0 τ ρ v3 v4 hv3 hv4 g1 g2 g3 g4 g5 g6
set_option maxRecDepth 100000 in
theorem rf_c22 {σ : pm_S} {Q : Option Value → pm_S → Prop} (x0 : Int) (v2 : Value) (v3 : Value) (v4 : Value) (hv2 : v2.category = 1) (hv3 : v3.category = 1) (hv4 : v4.category = 1) (hB : an_GB pm_B σ) (eF : (0 ≤ x0 ∧ x0 ≤ 99999) ∧ True)
    (l0 : ∀ (τ : pm_S) (y : Nat → Int) (v4 : Value), v4.category = 1 → an_GB pm_B τ → FQ [] σ τ → ((0 ≤ x0 ∧ x0 ≤ 99999) ∧ True) → (True) → (True) → (True) → Ok 103 8 26 [.ref 74, .int (Int32.ofInt (x0)), .int (Int32.ofInt 0), .int (Int32.ofInt 0), v4] [] τ Q)
    : Ok 103 8 22 [.ref 74, .int (Int32.ofInt (x0)), v2, v3, v4] [] σ Q := by
  refine an_seg (B := pm_B) (F := []) (T := []) (S := []) (fun _ h => absurd h List.not_mem_nil) (k := 103) (d := 7) (cs := [26]) 6 22 1 [(0, 0, 99999)] [] [(2, 74, 0), (0, 0, 0), (5, 0, 0), (5, 0, 0), (5, 0, 0)] [] [(26, [(2, 74, 0), (0, 0, 0), (1, 0, 0), (1, 0, 0), (5, 0, 0)], [], [(0, 0, 99999)], [], [], [])] (by decide +kernel) (ρ0 := (fun s => [x0].getD s 0)) hB eF trivial ⟨rfl, ⟨rfl, ⟨hv2, ⟨hv3, ⟨hv4, trivial⟩⟩⟩⟩⟩ trivial ?_
  refine List.forall_mem_cons.mpr ⟨?_, fun _ h => absurd h List.not_mem_nil⟩
  · intro ρ τ Lc stc hx g1 g2 g3 g4 g5 g6 g7 g8
    have e0 : ρ 0 = x0 := hx 0 (by decide)
    subst e0
    have g7 := g7 (by decide)
    match Lc, stc, g7, g8 with
    | [v0, v1, v2, v3, v4], [], ⟨hv0, hv1, hv2, hv3, hv4, _⟩, _ =>
      cases hv0
      cases hv1
      cases hv2
      cases hv3
      exact l0 τ ρ v4 hv4 g1 g2 g3 g4 g5 g6
set_option maxRecDepth 100000 in
theorem rf_c26 {σ : pm_S} {Q : Option Value → pm_S → Prop} (x0 x1 x2 x3 : Int) (v4 : Value) (hv4 : v4.category = 1) (hB : an_GB pm_B σ) (eF : (0 ≤ x0 ∧ x0 ≤ 99999) ∧ (0 ≤ x1 ∧ x1 ≤ 10) ∧ (0 ≤ x2 ∧ x2 ≤ 10) ∧ (0 ≤ x3 ∧ x3 ≤ 10) ∧ True) (eC : (σ.1 74 5).toInt = x3 ∧ True)
    (l0 : ∀ (τ : pm_S) (y : Nat → Int) (v4 : Value), v4.category = 1 → an_GB pm_B τ → FQ [] σ τ → ((0 ≤ x0 ∧ x0 ≤ 99999) ∧ (0 ≤ x1 ∧ x1 ≤ 10) ∧ (0 ≤ x2 ∧ x2 ≤ 10) ∧ (0 ≤ x3 ∧ x3 ≤ 10) ∧ True) → (True) → (True) → ((τ.1 74 5).toInt = x3 ∧ True) → Ok 103 8 29 [.ref 74, .int (Int32.ofInt (x0)), .int (Int32.ofInt (x1)), .int (Int32.ofInt (x2)), v4] [.int (Int32.ofInt (x3)), .int (Int32.ofInt (x2))] τ Q)
    : Ok 103 8 26 [.ref 74, .int (Int32.ofInt (x0)), .int (Int32.ofInt (x1)), .int (Int32.ofInt (x2)), v4] [] σ Q := by
  refine an_seg (B := pm_B) (F := []) (T := []) (S := []) (fun _ h => absurd h List.not_mem_nil) (k := 103) (d := 7) (cs := [29]) 5 26 4 [(0, 0, 99999), (1, 0, 10), (2, 0, 10), (3, 0, 10)] [(74, (1, 0, 5), (0, 3, 0))] [(2, 74, 0), (0, 0, 0), (0, 1, 0), (0, 2, 0), (5, 0, 0)] [] [(29, [(2, 74, 0), (0, 0, 0), (0, 1, 0), (0, 2, 0), (5, 0, 0)], [(0, 3, 0), (0, 2, 0)], [(0, 0, 99999), (1, 0, 10), (2, 0, 10), (3, 0, 10)], [], [], [(74, (1, 0, 5), (0, 3, 0))])] (by decide +kernel) (ρ0 := (fun s => [x0, x1, x2, x3].getD s 0)) hB eF eC ⟨rfl, ⟨rfl, ⟨rfl, ⟨rfl, ⟨hv4, trivial⟩⟩⟩⟩⟩ trivial ?_
  refine List.forall_mem_cons.mpr ⟨?_, fun _ h => absurd h List.not_mem_nil⟩
  · intro ρ τ Lc stc hx g1 g2 g3 g4 g5 g6 g7 g8
    have e0 : ρ 0 = x0 := hx 0 (by decide)
    have e1 : ρ 1 = x1 := hx 1 (by decide)
    have e2 : ρ 2 = x2 := hx 2 (by decide)
    have e3 : ρ 3 = x3 := hx 3 (by decide)
    subst e0
    subst e1
    subst e2
    subst e3
    have g7 := g7 (by decide)
    match Lc, stc, g7, g8 with
    | [v0, v1, v2, v3, v4], [w0, w1], ⟨hv0, hv1, hv2, hv3, hv4, _⟩, ⟨hw0, hw1, _⟩ =>
      cases hv0
      cases hv1
      cases hv2
      cases hv3
      cases hw0
      cases hw1
      exact l0 τ ρ v4 hv4 g1 g2 g3 g4 g5 g6
set_option maxRecDepth 100000 in
theorem rf_c30 {σ : pm_S} {Q : Option Value → pm_S → Prop} (x0 x1 x2 x3 x4 : Int) (v4 : Value) (hv4 : v4.category = 1) (hB : an_GB pm_B σ) (eF : (0 ≤ x0 ∧ x0 ≤ 99999) ∧ (0 ≤ x1 ∧ x1 ≤ 9) ∧ (0 ≤ x2 ∧ x2 ≤ 9) ∧ (0 ≤ x3 ∧ x3 ≤ 29) ∧ ((-2147483648) ≤ x4 ∧ x4 ≤ 2147483647) ∧ True) (eC : (σ.1 78 (x2).toNat).toInt = x3 ∧ (σ.1 16 (x3).toNat).toInt = x4 ∧ True)
    (l0 : ∀ (τ : pm_S) (y : Nat → Int), an_GB pm_B τ → FQ [] σ τ → ((0 ≤ x0 ∧ x0 ≤ 99999) ∧ (0 ≤ x1 ∧ x1 ≤ 9) ∧ (0 ≤ x2 ∧ x2 ≤ 9) ∧ (0 ≤ x3 ∧ x3 ≤ 29) ∧ ((-2147483648) ≤ x4 ∧ x4 ≤ 2147483647) ∧ ((-2147483648) ≤ y 5 ∧ y 5 ≤ 2147483647) ∧ True) → (True) → ((an_f 1 (Int32.ofInt (x4)) (Int32.ofInt (x0))).toInt = y 5 ∧ True) → ((τ.1 16 (x3).toNat).toInt = x4 ∧ (τ.1 78 (x2).toNat).toInt = x3 ∧ True) → Ok 103 8 44 [.ref 74, .int (Int32.ofInt (x0)), .int (Int32.ofInt (x1)), .int (Int32.ofInt (x2)), .int (Int32.ofInt (x3))] [.int (Int32.ofInt (y 5)), .int (Int32.ofInt (x3)), .ref 16] τ Q)
    : Ok 103 8 30 [.ref 74, .int (Int32.ofInt (x0)), .int (Int32.ofInt (x1)), .int (Int32.ofInt (x2)), v4] [] σ Q := by
  refine an_seg (B := pm_B) (F := []) (T := [16, 78]) (S := []) (fun _ h => absurd h List.not_mem_nil) (k := 103) (d := 7) (cs := [44]) 16 30 5 [(0, 0, 99999), (1, 0, 9), (2, 0, 9), (3, 0, 29), (4, (-2147483648), 2147483647)] [(78, (0, 2, 0), (0, 3, 0)), (16, (0, 3, 0), (0, 4, 0))] [(2, 74, 0), (0, 0, 0), (0, 1, 0), (0, 2, 0), (5, 0, 0)] [] [(44, [(2, 74, 0), (0, 0, 0), (0, 1, 0), (0, 2, 0), (0, 3, 0)], [(0, 5, 0), (0, 3, 0), (2, 16, 0)], [(0, 0, 99999), (1, 0, 9), (2, 0, 9), (3, 0, 29), (4, (-2147483648), 2147483647), (5, (-2147483648), 2147483647)], [], [(1, (0, 4, 0), (0, 0, 0), 5)], [(16, (0, 3, 0), (0, 4, 0)), (78, (0, 2, 0), (0, 3, 0))])] (by decide +kernel) (ρ0 := (fun s => [x0, x1, x2, x3, x4].getD s 0)) hB eF eC ⟨rfl, ⟨rfl, ⟨rfl, ⟨rfl, ⟨hv4, trivial⟩⟩⟩⟩⟩ trivial ?_
  refine List.forall_mem_cons.mpr ⟨?_, fun _ h => absurd h List.not_mem_nil⟩
  · intro ρ τ Lc stc hx g1 g2 g3 g4 g5 g6 g7 g8
    have e0 : ρ 0 = x0 := hx 0 (by decide)
    have e1 : ρ 1 = x1 := hx 1 (by decide)
    have e2 : ρ 2 = x2 := hx 2 (by decide)
    have e3 : ρ 3 = x3 := hx 3 (by decide)
    have e4 : ρ 4 = x4 := hx 4 (by decide)
    subst e0
    subst e1
    subst e2
    subst e3
    subst e4
    have g7 := g7 (by decide)
    match Lc, stc, g7, g8 with
    | [v0, v1, v2, v3, v4], [w0, w1, w2], ⟨hv0, hv1, hv2, hv3, hv4, _⟩, ⟨hw0, hw1, hw2, _⟩ =>
      cases hv0
      cases hv1
      cases hv2
      cases hv3
      cases hv4
      cases hw0
      cases hw1
      cases hw2
      exact l0 τ ρ  g1 g2 g3 g4 g5 g6
set_option maxRecDepth 100000 in
theorem rf_c45 {σ : pm_S} {Q : Option Value → pm_S → Prop} (x0 x1 x2 x3 x4 x5 : Int)  (hB : an_GB pm_B σ) (eF : (0 ≤ x0 ∧ x0 ≤ 99999) ∧ (0 ≤ x1 ∧ x1 ≤ 9) ∧ (0 ≤ x2 ∧ x2 ≤ 9) ∧ (0 ≤ x3 ∧ x3 ≤ 29) ∧ ((-2147483648) ≤ x4 ∧ x4 ≤ 2147483647) ∧ ((-2147483648) ≤ x5 ∧ x5 ≤ 2147483647) ∧ True) (eC : (σ.1 16 (x3).toNat).toInt = x4 ∧ (σ.1 1 1).toInt = x5 ∧ True)
    (l0 : ∀ (τ : pm_S) (y : Nat → Int), an_GB pm_B τ → FQ [] σ τ → ((0 ≤ x0 ∧ x0 ≤ 99999) ∧ (0 ≤ x1 ∧ x1 ≤ 9) ∧ (0 ≤ x2 ∧ x2 ≤ 9) ∧ (0 ≤ x3 ∧ x3 ≤ 29) ∧ ((-2147483648) ≤ x4 ∧ x4 ≤ 2147483647) ∧ ((-2147483648) ≤ x5 ∧ x5 ≤ 2147483647) ∧ True) → (x4 ≠ 0 ∧ True) → (True) → ((τ.1 1 1).toInt = x5 ∧ (τ.1 16 (x3).toNat).toInt = x4 ∧ True) → Ok 103 8 26 [.ref 74, .int (Int32.ofInt (x0)), .int (Int32.ofInt (x1)), .int (Int32.ofInt (x2 + 1)), .int (Int32.ofInt (x3))] [] τ Q)
    (l1 : ∀ (τ : pm_S) (y : Nat → Int), an_GB pm_B τ → FQ [] σ τ → ((0 ≤ x0 ∧ x0 ≤ 99999) ∧ (0 ≤ x1 ∧ x1 ≤ 9) ∧ (0 ≤ x2 ∧ x2 ≤ 9) ∧ (0 ≤ x3 ∧ x3 ≤ 29) ∧ (0 ≤ x4 ∧ x4 ≤ 0) ∧ ((-2147483648) ≤ x5 ∧ x5 ≤ 2147483647) ∧ True) → (True) → (True) → ((τ.1 1 1).toInt = x5 ∧ (τ.1 16 (x3).toNat).toInt = x4 ∧ True) → Ok 103 8 60 [.ref 74, .int (Int32.ofInt (x0)), .int (Int32.ofInt (x1)), .int (Int32.ofInt (x2)), .int (Int32.ofInt (x3))] [.int (Int32.ofInt 2), .int (Int32.ofInt (x5)), .int (Int32.ofInt (x3)), .ref 13] τ Q)
    : Ok 103 8 45 [.ref 74, .int (Int32.ofInt (x0)), .int (Int32.ofInt (x1)), .int (Int32.ofInt (x2)), .int (Int32.ofInt (x3))] [] σ Q := by
  refine an_seg (B := pm_B) (F := []) (T := [16]) (S := []) (fun _ h => absurd h List.not_mem_nil) (k := 103) (d := 7) (cs := [26, 60]) 17 45 6 [(0, 0, 99999), (1, 0, 9), (2, 0, 9), (3, 0, 29), (4, (-2147483648), 2147483647), (5, (-2147483648), 2147483647)] [(16, (0, 3, 0), (0, 4, 0)), (1, (1, 0, 1), (0, 5, 0))] [(2, 74, 0), (0, 0, 0), (0, 1, 0), (0, 2, 0), (0, 3, 0)] [] [(26, [(2, 74, 0), (0, 0, 0), (0, 1, 0), (0, 2, 1), (0, 3, 0)], [], [(0, 0, 99999), (1, 0, 9), (2, 0, 9), (3, 0, 29), (4, (-2147483648), 2147483647), (5, (-2147483648), 2147483647)], [(3, 4, 4, 0)], [], [(1, (1, 0, 1), (0, 5, 0)), (16, (0, 3, 0), (0, 4, 0))]),
    (60, [(2, 74, 0), (0, 0, 0), (0, 1, 0), (0, 2, 0), (0, 3, 0)], [(1, 0, 2), (0, 5, 0), (0, 3, 0), (2, 13, 0)], [(0, 0, 99999), (1, 0, 9), (2, 0, 9), (3, 0, 29), (4, 0, 0), (5, (-2147483648), 2147483647)], [], [], [(1, (1, 0, 1), (0, 5, 0)), (16, (0, 3, 0), (0, 4, 0))])] (by decide +kernel) (ρ0 := (fun s => [x0, x1, x2, x3, x4, x5].getD s 0)) hB eF eC ⟨rfl, ⟨rfl, ⟨rfl, ⟨rfl, ⟨rfl, trivial⟩⟩⟩⟩⟩ trivial ?_
  refine List.forall_mem_cons.mpr ⟨?_, List.forall_mem_cons.mpr ⟨?_, fun _ h => absurd h List.not_mem_nil⟩⟩
  · intro ρ τ Lc stc hx g1 g2 g3 g4 g5 g6 g7 g8
    have e0 : ρ 0 = x0 := hx 0 (by decide)
    have e1 : ρ 1 = x1 := hx 1 (by decide)
    have e2 : ρ 2 = x2 := hx 2 (by decide)
    have e3 : ρ 3 = x3 := hx 3 (by decide)
    have e4 : ρ 4 = x4 := hx 4 (by decide)
    have e5 : ρ 5 = x5 := hx 5 (by decide)
    subst e0
    subst e1
    subst e2
    subst e3
    subst e4
    subst e5
    have g7 := g7 (by decide)
    match Lc, stc, g7, g8 with
    | [v0, v1, v2, v3, v4], [], ⟨hv0, hv1, hv2, hv3, hv4, _⟩, _ =>
      cases hv0
      cases hv1
      cases hv2
      cases hv3
      cases hv4
      exact l0 τ ρ  g1 g2 g3 g4 g5 g6
  · intro ρ τ Lc stc hx g1 g2 g3 g4 g5 g6 g7 g8
    have e0 : ρ 0 = x0 := hx 0 (by decide)
    have e1 : ρ 1 = x1 := hx 1 (by decide)
    have e2 : ρ 2 = x2 := hx 2 (by decide)
    have e3 : ρ 3 = x3 := hx 3 (by decide)
    have e4 : ρ 4 = x4 := hx 4 (by decide)
    have e5 : ρ 5 = x5 := hx 5 (by decide)
    subst e0
    subst e1
    subst e2
    subst e3
    subst e4
    subst e5
    have g7 := g7 (by decide)
    match Lc, stc, g7, g8 with
    | [v0, v1, v2, v3, v4], [w0, w1, w2, w3], ⟨hv0, hv1, hv2, hv3, hv4, _⟩, ⟨hw0, hw1, hw2, hw3, _⟩ =>
      cases hv0
      cases hv1
      cases hv2
      cases hv3
      cases hv4
      cases hw0
      cases hw1
      cases hw2
      cases hw3
      exact l1 τ ρ  g1 g2 g3 g4 g5 g6
set_option maxRecDepth 100000 in
theorem rf_c61 {σ : pm_S} {Q : Option Value → pm_S → Prop} (x0 x1 x2 x3 : Int)  (hB : an_GB pm_B σ) (eF : (0 ≤ x0 ∧ x0 ≤ 99999) ∧ (0 ≤ x1 ∧ x1 ≤ 9) ∧ (0 ≤ x2 ∧ x2 ≤ 9) ∧ (0 ≤ x3 ∧ x3 ≤ 29) ∧ True)
    (l0 : ∀ (τ : pm_S) (y : Nat → Int), an_GB pm_B τ → FQ [] σ τ → ((0 ≤ x0 ∧ x0 ≤ 99999) ∧ (0 ≤ x1 ∧ x1 ≤ 9) ∧ (0 ≤ x2 ∧ x2 ≤ 9) ∧ (0 ≤ x3 ∧ x3 ≤ 29) ∧ True) → (True) → (True) → (True) → Ok 103 8 26 [.ref 74, .int (Int32.ofInt (x0)), .int (Int32.ofInt (x1 + 1)), .int (Int32.ofInt (x2 + 1)), .int (Int32.ofInt (x3))] [] τ Q)
    : Ok 103 8 61 [.ref 74, .int (Int32.ofInt (x0)), .int (Int32.ofInt (x1)), .int (Int32.ofInt (x2)), .int (Int32.ofInt (x3))] [] σ Q := by
  refine an_seg (B := pm_B) (F := []) (T := []) (S := []) (fun _ h => absurd h List.not_mem_nil) (k := 103) (d := 7) (cs := [26]) 5 61 4 [(0, 0, 99999), (1, 0, 9), (2, 0, 9), (3, 0, 29)] [] [(2, 74, 0), (0, 0, 0), (0, 1, 0), (0, 2, 0), (0, 3, 0)] [] [(26, [(2, 74, 0), (0, 0, 0), (0, 1, 1), (0, 2, 1), (0, 3, 0)], [], [(0, 0, 99999), (1, 0, 9), (2, 0, 9), (3, 0, 29)], [], [], [])] (by decide +kernel) (ρ0 := (fun s => [x0, x1, x2, x3].getD s 0)) hB eF trivial ⟨rfl, ⟨rfl, ⟨rfl, ⟨rfl, ⟨rfl, trivial⟩⟩⟩⟩⟩ trivial ?_
  refine List.forall_mem_cons.mpr ⟨?_, fun _ h => absurd h List.not_mem_nil⟩
  · intro ρ τ Lc stc hx g1 g2 g3 g4 g5 g6 g7 g8
    have e0 : ρ 0 = x0 := hx 0 (by decide)
    have e1 : ρ 1 = x1 := hx 1 (by decide)
    have e2 : ρ 2 = x2 := hx 2 (by decide)
    have e3 : ρ 3 = x3 := hx 3 (by decide)
    subst e0
    subst e1
    subst e2
    subst e3
    have g7 := g7 (by decide)
    match Lc, stc, g7, g8 with
    | [v0, v1, v2, v3, v4], [], ⟨hv0, hv1, hv2, hv3, hv4, _⟩, _ =>
      cases hv0
      cases hv1
      cases hv2
      cases hv3
      cases hv4
      exact l0 τ ρ  g1 g2 g3 g4 g5 g6
set_option maxRecDepth 100000 in
theorem rf_c64 {σ : pm_S} {Q : Option Value → pm_S → Prop} (x0 x1 : Int) (v3 : Value) (v4 : Value) (hv3 : v3.category = 1) (hv4 : v4.category = 1) (hB : an_GB pm_B σ) (eF : (0 ≤ x0 ∧ x0 ≤ 99999) ∧ (0 ≤ x1 ∧ x1 ≤ 10) ∧ True)
    (l0 : ∀ (τ : pm_S) (y : Nat → Int), an_GB pm_B τ → FQ [] σ τ → ((0 ≤ x0 ∧ x0 ≤ 99999) ∧ (0 ≤ x1 ∧ x1 ≤ 10) ∧ True) → (True) → (True) → (True) → Q (some (.int (Int32.ofInt (x1)))) τ)
    : Ok 103 8 64 [.ref 74, .int (Int32.ofInt (x0)), .int (Int32.ofInt (x1)), v3, v4] [] σ Q := by
  refine an_seg (B := pm_B) (F := []) (T := []) (S := []) (fun _ h => absurd h List.not_mem_nil) (k := 103) (d := 7) (cs := []) 4 64 2 [(0, 0, 99999), (1, 0, 10)] [] [(2, 74, 0), (0, 0, 0), (0, 1, 0), (5, 0, 0), (5, 0, 0)] [] [(9999, [], [(0, 1, 0)], [(0, 0, 99999), (1, 0, 10)], [], [], [])] (by decide +kernel) (ρ0 := (fun s => [x0, x1].getD s 0)) hB eF trivial ⟨rfl, ⟨rfl, ⟨rfl, ⟨hv3, ⟨hv4, trivial⟩⟩⟩⟩⟩ trivial ?_
  refine List.forall_mem_cons.mpr ⟨?_, fun _ h => absurd h List.not_mem_nil⟩
  · intro ρ τ Lc stc hx g1 g2 g3 g4 g5 g6 g7 g8
    have e0 : ρ 0 = x0 := hx 0 (by decide)
    have e1 : ρ 1 = x1 := hx 1 (by decide)
    subst e0
    subst e1
    match stc, g8 with
    | [_], ⟨h, _⟩ => cases h; exact l0 τ ρ g1 g2 g3 g4 g5 g6
set_option maxRecDepth 100000 in
theorem rf_w0 {σ : pm_S} {Q : Option Value → pm_S → Prop} (v1 : Value) (v2 : Value) (v3 : Value) (v4 : Value) (hv1 : v1.category = 1) (hv2 : v2.category = 1) (hv3 : v3.category = 1) (hv4 : v4.category = 1) (hB : an_GB pm_B σ)
    (l0 : ∀ (τ : pm_S) (y : Nat → Int) (v4 : Value), v4.category = 1 → an_GB pm_B τ → FQ [] σ τ → (True) → (True) → (True) → (True) → Ok 97 7 6 [.ref 74, .int (Int32.ofInt 0), .int (Int32.ofInt 0), .int (Int32.ofInt 0), v4] [] τ Q)
    : Ok 97 7 0 [.ref 74, v1, v2, v3, v4] [] σ Q := by
  refine an_seg (B := pm_B) (F := []) (T := []) (S := []) (fun _ h => absurd h List.not_mem_nil) (k := 97) (d := 6) (cs := [6]) 8 0 0 [] [] [(2, 74, 0), (5, 0, 0), (5, 0, 0), (5, 0, 0), (5, 0, 0)] [] [(6, [(2, 74, 0), (1, 0, 0), (1, 0, 0), (1, 0, 0), (5, 0, 0)], [], [], [], [], [])] (by decide +kernel) (ρ0 := (fun s => [].getD s 0)) hB trivial trivial ⟨rfl, ⟨hv1, ⟨hv2, ⟨hv3, ⟨hv4, trivial⟩⟩⟩⟩⟩ trivial ?_
  refine List.forall_mem_cons.mpr ⟨?_, fun _ h => absurd h List.not_mem_nil⟩
  · intro ρ τ Lc stc hx g1 g2 g3 g4 g5 g6 g7 g8
    have g7 := g7 (by decide)
    match Lc, stc, g7, g8 with
    | [v0, v1, v2, v3, v4], [], ⟨hv0, hv1, hv2, hv3, hv4, _⟩, _ =>
      cases hv0
      cases hv1
      cases hv2
      cases hv3
      exact l0 τ ρ v4 hv4 g1 g2 g3 g4 g5 g6
set_option maxRecDepth 100000 in
theorem rf_w6 {σ : pm_S} {Q : Option Value → pm_S → Prop} (x0 x1 x2 x3 : Int) (v4 : Value) (hv4 : v4.category = 1) (hB : an_GB pm_B σ) (eF : (0 ≤ x0 ∧ x0 ≤ 1023) ∧ (0 ≤ x1 ∧ x1 ≤ 1023) ∧ (0 ≤ x2 ∧ x2 ≤ 30) ∧ (0 ≤ x3 ∧ x3 ≤ 30) ∧ True) (eC : (σ.1 13 0).toInt = x3 ∧ True)
    (l0 : ∀ (τ : pm_S) (y : Nat → Int) (v4 : Value), v4.category = 1 → an_GB pm_B τ → FQ [] σ τ → ((0 ≤ x0 ∧ x0 ≤ 1023) ∧ (0 ≤ x1 ∧ x1 ≤ 1023) ∧ (0 ≤ x2 ∧ x2 ≤ 30) ∧ (0 ≤ x3 ∧ x3 ≤ 30) ∧ True) → (True) → (True) → ((τ.1 13 0).toInt = x3 ∧ True) → Ok 97 7 11 [.ref 74, .int (Int32.ofInt (x0)), .int (Int32.ofInt (x1)), .int (Int32.ofInt (x2)), v4] [.int (Int32.ofInt (x3)), .int (Int32.ofInt (x2))] τ Q)
    : Ok 97 7 6 [.ref 74, .int (Int32.ofInt (x0)), .int (Int32.ofInt (x1)), .int (Int32.ofInt (x2)), v4] [] σ Q := by
  refine an_seg (B := pm_B) (F := []) (T := []) (S := []) (fun _ h => absurd h List.not_mem_nil) (k := 97) (d := 6) (cs := [11]) 7 6 4 [(0, 0, 1023), (1, 0, 1023), (2, 0, 30), (3, 0, 30)] [(13, (1, 0, 0), (0, 3, 0))] [(2, 74, 0), (0, 0, 0), (0, 1, 0), (0, 2, 0), (5, 0, 0)] [] [(11, [(2, 74, 0), (0, 0, 0), (0, 1, 0), (0, 2, 0), (5, 0, 0)], [(0, 3, 0), (0, 2, 0)], [(0, 0, 1023), (1, 0, 1023), (2, 0, 30), (3, 0, 30)], [], [], [(13, (1, 0, 0), (0, 3, 0))])] (by decide +kernel) (ρ0 := (fun s => [x0, x1, x2, x3].getD s 0)) hB eF eC ⟨rfl, ⟨rfl, ⟨rfl, ⟨rfl, ⟨hv4, trivial⟩⟩⟩⟩⟩ trivial ?_
  refine List.forall_mem_cons.mpr ⟨?_, fun _ h => absurd h List.not_mem_nil⟩
  · intro ρ τ Lc stc hx g1 g2 g3 g4 g5 g6 g7 g8
    have e0 : ρ 0 = x0 := hx 0 (by decide)
    have e1 : ρ 1 = x1 := hx 1 (by decide)
    have e2 : ρ 2 = x2 := hx 2 (by decide)
    have e3 : ρ 3 = x3 := hx 3 (by decide)
    subst e0
    subst e1
    subst e2
    subst e3
    have g7 := g7 (by decide)
    match Lc, stc, g7, g8 with
    | [v0, v1, v2, v3, v4], [w0, w1], ⟨hv0, hv1, hv2, hv3, hv4, _⟩, ⟨hw0, hw1, _⟩ =>
      cases hv0
      cases hv1
      cases hv2
      cases hv3
      cases hw0
      cases hw1
      exact l0 τ ρ v4 hv4 g1 g2 g3 g4 g5 g6
set_option maxRecDepth 100000 in
theorem rf_w12 {σ : pm_S} {Q : Option Value → pm_S → Prop} (x0 x1 x2 : Int) (v4 : Value) (hv4 : v4.category = 1) (hB : an_GB pm_B σ) (eF : (0 ≤ x0 ∧ x0 ≤ 1023) ∧ (0 ≤ x1 ∧ x1 ≤ 1023) ∧ (0 ≤ x2 ∧ x2 ≤ 29) ∧ True)
    (l0 : ∀ (τ : pm_S) (y : Nat → Int) (v4 : Value), v4.category = 1 → an_GB pm_B τ → FQ [] σ τ → ((0 ≤ x0 ∧ x0 ≤ 1023) ∧ (0 ≤ x1 ∧ x1 ≤ 1023) ∧ (0 ≤ x2 ∧ x2 ≤ 29) ∧ True) → (True) → (True) → (True) → Ok 97 7 14 [.ref 74, .int (Int32.ofInt (x0)), .int (Int32.ofInt (x1)), .int (Int32.ofInt (x2)), v4] [.int (Int32.ofInt (x2)), .ref 74] τ Q)
    : Ok 97 7 12 [.ref 74, .int (Int32.ofInt (x0)), .int (Int32.ofInt (x1)), .int (Int32.ofInt (x2)), v4] [] σ Q := by
  refine an_seg (B := pm_B) (F := []) (T := []) (S := []) (fun _ h => absurd h List.not_mem_nil) (k := 97) (d := 6) (cs := [14]) 4 12 3 [(0, 0, 1023), (1, 0, 1023), (2, 0, 29)] [] [(2, 74, 0), (0, 0, 0), (0, 1, 0), (0, 2, 0), (5, 0, 0)] [] [(14, [(2, 74, 0), (0, 0, 0), (0, 1, 0), (0, 2, 0), (5, 0, 0)], [(0, 2, 0), (2, 74, 0)], [(0, 0, 1023), (1, 0, 1023), (2, 0, 29)], [], [], [])] (by decide +kernel) (ρ0 := (fun s => [x0, x1, x2].getD s 0)) hB eF trivial ⟨rfl, ⟨rfl, ⟨rfl, ⟨rfl, ⟨hv4, trivial⟩⟩⟩⟩⟩ trivial ?_
  refine List.forall_mem_cons.mpr ⟨?_, fun _ h => absurd h List.not_mem_nil⟩
  · intro ρ τ Lc stc hx g1 g2 g3 g4 g5 g6 g7 g8
    have e0 : ρ 0 = x0 := hx 0 (by decide)
    have e1 : ρ 1 = x1 := hx 1 (by decide)
    have e2 : ρ 2 = x2 := hx 2 (by decide)
    subst e0
    subst e1
    subst e2
    have g7 := g7 (by decide)
    match Lc, stc, g7, g8 with
    | [v0, v1, v2, v3, v4], [w0, w1], ⟨hv0, hv1, hv2, hv3, hv4, _⟩, ⟨hw0, hw1, _⟩ =>
      cases hv0
      cases hv1
      cases hv2
      cases hv3
      cases hw0
      cases hw1
      exact l0 τ ρ v4 hv4 g1 g2 g3 g4 g5 g6
set_option maxRecDepth 100000 in
theorem rf_w15 {σ : pm_S} {Q : Option Value → pm_S → Prop} (x0 x1 x2 x3 x4 : Int) (v4 : Value) (hv4 : v4.category = 1) (hB : an_GB pm_B σ) (eF : (0 ≤ x0 ∧ x0 ≤ 1023) ∧ (0 ≤ x1 ∧ x1 ≤ 1023) ∧ (0 ≤ x2 ∧ x2 ≤ 29) ∧ (0 ≤ x3 ∧ x3 ≤ 1) ∧ (0 ≤ x4 ∧ x4 ≤ 9) ∧ True) (eC : (σ.1 17 (x2).toNat).toInt = x4 ∧ True)
    (l0 : ∀ (τ : pm_S) (y : Nat → Int) (v4 : Value), v4.category = 1 → an_GB pm_B τ → FQ [] σ τ → ((0 ≤ x0 ∧ x0 ≤ 1023) ∧ (0 ≤ x1 ∧ x1 ≤ 1023) ∧ (0 ≤ x2 ∧ x2 ≤ 29) ∧ (0 ≤ x3 ∧ x3 ≤ 0) ∧ (0 ≤ x4 ∧ x4 ≤ 9) ∧ True) → (True) → (True) → ((τ.1 17 (x2).toNat).toInt = x4 ∧ True) → Ok 97 7 6 [.ref 74, .int (Int32.ofInt (x0)), .int (Int32.ofInt (x1)), .int (Int32.ofInt (x2 + 1)), v4] [] τ Q)
    (l1 : ∀ (τ : pm_S) (y : Nat → Int), an_GB pm_B τ → FQ [] σ τ → ((0 ≤ x0 ∧ x0 ≤ 1023) ∧ (0 ≤ x1 ∧ x1 ≤ 1023) ∧ (0 ≤ x2 ∧ x2 ≤ 29) ∧ (1 ≤ x3 ∧ x3 ≤ 1) ∧ (0 ≤ x4 ∧ x4 ≤ 9) ∧ (1 ≤ y 5 ∧ y 5 ≤ 512) ∧ (0 ≤ y 6 ∧ y 6 ≤ 512) ∧ (0 ≤ y 7 ∧ y 7 ≤ 1023) ∧ (0 ≤ y 8 ∧ y 8 ≤ 1023) ∧ True) → (y 6 ≤ x0 + 0 ∧ y 6 ≤ y 5 + 0 ∧ True) → ((an_f 6 (Int32.ofInt (1)) (Int32.ofInt (x4))).toInt = y 5 ∧ (an_f 3 (Int32.ofInt (x0)) (Int32.ofInt (y 5))).toInt = y 6 ∧ (an_f 4 (Int32.ofInt (x1)) (Int32.ofInt (y 6))).toInt = y 7 ∧ (an_f 4 (Int32.ofInt (x0)) (Int32.ofInt (y 5))).toInt = y 8 ∧ True) → ((τ.1 17 (x2).toNat).toInt = x4 ∧ True) → Ok 97 7 6 [.ref 74, .int (Int32.ofInt (y 8)), .int (Int32.ofInt (y 7)), .int (Int32.ofInt (x2 + 1)), .int (Int32.ofInt (y 5))] [] τ Q)
    : Ok 97 7 15 [.ref 74, .int (Int32.ofInt (x0)), .int (Int32.ofInt (x1)), .int (Int32.ofInt (x2)), v4] [.int (Int32.ofInt (x3))] σ Q := by
  refine an_seg (B := pm_B) (F := []) (T := [17]) (S := []) (fun _ h => absurd h List.not_mem_nil) (k := 97) (d := 6) (cs := [6]) 24 15 5 [(0, 0, 1023), (1, 0, 1023), (2, 0, 29), (3, 0, 1), (4, 0, 9)] [(17, (0, 2, 0), (0, 4, 0))] [(2, 74, 0), (0, 0, 0), (0, 1, 0), (0, 2, 0), (5, 0, 0)] [(0, 3, 0)] [(6, [(2, 74, 0), (0, 0, 0), (0, 1, 0), (0, 2, 1), (5, 0, 0)], [], [(0, 0, 1023), (1, 0, 1023), (2, 0, 29), (3, 0, 0), (4, 0, 9)], [], [], [(17, (0, 2, 0), (0, 4, 0))]),
    (6, [(2, 74, 0), (0, 8, 0), (0, 7, 0), (0, 2, 1), (0, 5, 0)], [], [(0, 0, 1023), (1, 0, 1023), (2, 0, 29), (3, 1, 1), (4, 0, 9), (5, 1, 512), (6, 0, 512), (7, 0, 1023), (8, 0, 1023)], [(1, 6, 0, 0), (1, 6, 5, 0)], [(6, (1, 0, 1), (0, 4, 0), 5), (3, (0, 0, 0), (0, 5, 0), 6), (4, (0, 1, 0), (0, 6, 0), 7), (4, (0, 0, 0), (0, 5, 0), 8)], [(17, (0, 2, 0), (0, 4, 0))])] (by decide +kernel) (ρ0 := (fun s => [x0, x1, x2, x3, x4].getD s 0)) hB eF eC ⟨rfl, ⟨rfl, ⟨rfl, ⟨rfl, ⟨hv4, trivial⟩⟩⟩⟩⟩ ⟨rfl, trivial⟩ ?_
  refine List.forall_mem_cons.mpr ⟨?_, List.forall_mem_cons.mpr ⟨?_, fun _ h => absurd h List.not_mem_nil⟩⟩
  · intro ρ τ Lc stc hx g1 g2 g3 g4 g5 g6 g7 g8
    have e0 : ρ 0 = x0 := hx 0 (by decide)
    have e1 : ρ 1 = x1 := hx 1 (by decide)
    have e2 : ρ 2 = x2 := hx 2 (by decide)
    have e3 : ρ 3 = x3 := hx 3 (by decide)
    have e4 : ρ 4 = x4 := hx 4 (by decide)
    subst e0
    subst e1
    subst e2
    subst e3
    subst e4
    have g7 := g7 (by decide)
    match Lc, stc, g7, g8 with
    | [v0, v1, v2, v3, v4], [], ⟨hv0, hv1, hv2, hv3, hv4, _⟩, _ =>
      cases hv0
      cases hv1
      cases hv2
      cases hv3
      exact l0 τ ρ v4 hv4 g1 g2 g3 g4 g5 g6
  · intro ρ τ Lc stc hx g1 g2 g3 g4 g5 g6 g7 g8
    have e0 : ρ 0 = x0 := hx 0 (by decide)
    have e1 : ρ 1 = x1 := hx 1 (by decide)
    have e2 : ρ 2 = x2 := hx 2 (by decide)
    have e3 : ρ 3 = x3 := hx 3 (by decide)
    have e4 : ρ 4 = x4 := hx 4 (by decide)
    subst e0
    subst e1
    subst e2
    subst e3
    subst e4
    have g7 := g7 (by decide)
    match Lc, stc, g7, g8 with
    | [v0, v1, v2, v3, v4], [], ⟨hv0, hv1, hv2, hv3, hv4, _⟩, _ =>
      cases hv0
      cases hv1
      cases hv2
      cases hv3
      cases hv4
      exact l1 τ ρ  g1 g2 g3 g4 g5 g6
set_option maxRecDepth 100000 in
theorem rf_w37 {σ : pm_S} {Q : Option Value → pm_S → Prop} (x0 x1 : Int) (v3 : Value) (v4 : Value) (hv3 : v3.category = 1) (hv4 : v4.category = 1) (hB : an_GB pm_B σ) (eF : (0 ≤ x0 ∧ x0 ≤ 1023) ∧ (0 ≤ x1 ∧ x1 ≤ 1023) ∧ True)
    (l0 : ∀ (τ : pm_S) (y : Nat → Int), an_GB pm_B τ → FQ [] σ τ → ((0 ≤ x0 ∧ x0 ≤ 1023) ∧ (0 ≤ x1 ∧ x1 ≤ 1023) ∧ True) → (True) → (True) → (True) → Q (some (.int (Int32.ofInt (x1)))) τ)
    : Ok 97 7 37 [.ref 74, .int (Int32.ofInt (x0)), .int (Int32.ofInt (x1)), v3, v4] [] σ Q := by
  refine an_seg (B := pm_B) (F := []) (T := []) (S := []) (fun _ h => absurd h List.not_mem_nil) (k := 97) (d := 6) (cs := []) 4 37 2 [(0, 0, 1023), (1, 0, 1023)] [] [(2, 74, 0), (0, 0, 0), (0, 1, 0), (5, 0, 0), (5, 0, 0)] [] [(9999, [], [(0, 1, 0)], [(0, 0, 1023), (1, 0, 1023)], [], [], [])] (by decide +kernel) (ρ0 := (fun s => [x0, x1].getD s 0)) hB eF trivial ⟨rfl, ⟨rfl, ⟨rfl, ⟨hv3, ⟨hv4, trivial⟩⟩⟩⟩⟩ trivial ?_
  refine List.forall_mem_cons.mpr ⟨?_, fun _ h => absurd h List.not_mem_nil⟩
  · intro ρ τ Lc stc hx g1 g2 g3 g4 g5 g6 g7 g8
    have e0 : ρ 0 = x0 := hx 0 (by decide)
    have e1 : ρ 1 = x1 := hx 1 (by decide)
    subst e0
    subst e1
    match stc, g8 with
    | [_], ⟨h, _⟩ => cases h; exact l0 τ ρ g1 g2 g3 g4 g5 g6
set_option maxRecDepth 100000 in
theorem rf_a0 {σ : pm_S} {Q : Option Value → pm_S → Prop} (v1 : Value) (v2 : Value) (v3 : Value) (v4 : Value) (hv1 : v1.category = 1) (hv2 : v2.category = 1) (hv3 : v3.category = 1) (hv4 : v4.category = 1) (hB : an_GB pm_B σ)
    (l0 : ∀ (τ : pm_S) (y : Nat → Int) (v2 : Value) (v3 : Value) (v4 : Value), v2.category = 1 → v3.category = 1 → v4.category = 1 → an_GB pm_B τ → FQ [] σ τ → (True) → (True) → (True) → (True) → Ok 96 15 3 [.ref 74, .int (Int32.ofInt 0), v2, v3, v4] [.ref 74] τ Q)
    : Ok 96 15 0 [.ref 74, v1, v2, v3, v4] [] σ Q := by
  refine an_seg (B := pm_B) (F := []) (T := []) (S := []) (fun _ h => absurd h List.not_mem_nil) (k := 96) (d := 14) (cs := [3]) 5 0 0 [] [] [(2, 74, 0), (5, 0, 0), (5, 0, 0), (5, 0, 0), (5, 0, 0)] [] [(3, [(2, 74, 0), (1, 0, 0), (5, 0, 0), (5, 0, 0), (5, 0, 0)], [(2, 74, 0)], [], [], [], [])] (by decide +kernel) (ρ0 := (fun s => [].getD s 0)) hB trivial trivial ⟨rfl, ⟨hv1, ⟨hv2, ⟨hv3, ⟨hv4, trivial⟩⟩⟩⟩⟩ trivial ?_
  refine List.forall_mem_cons.mpr ⟨?_, fun _ h => absurd h List.not_mem_nil⟩
  · intro ρ τ Lc stc hx g1 g2 g3 g4 g5 g6 g7 g8
    have g7 := g7 (by decide)
    match Lc, stc, g7, g8 with
    | [v0, v1, v2, v3, v4], [w0], ⟨hv0, hv1, hv2, hv3, hv4, _⟩, ⟨hw0, _⟩ =>
      cases hv0
      cases hv1
      cases hw0
      exact l0 τ ρ v2 v3 v4 hv2 hv3 hv4 g1 g2 g3 g4 g5 g6
set_option maxRecDepth 100000 in
theorem rf_a4 {σ : pm_S} {Q : Option Value → pm_S → Prop} (x0 : Int) (v2 : Value) (v3 : Value) (v4 : Value) (hv2 : v2.category = 1) (hv3 : v3.category = 1) (hv4 : v4.category = 1) (hB : an_GB pm_B σ) (eF : (0 ≤ x0 ∧ x0 ≤ 1023) ∧ True)
    (l0 : ∀ (τ : pm_S) (y : Nat → Int) (v4 : Value), v4.category = 1 → an_GB pm_B τ → FQ [] σ τ → ((0 ≤ x0 ∧ x0 ≤ 1023) ∧ True) → (True) → (True) → (True) → Ok 96 15 7 [.ref 74, .int (Int32.ofInt 0), .int (Int32.ofInt (x0)), .int (Int32.ofInt 0), v4] [] τ Q)
    : Ok 96 15 4 [.ref 74, .int (Int32.ofInt 0), v2, v3, v4] [.int (Int32.ofInt (x0))] σ Q := by
  refine an_seg (B := pm_B) (F := []) (T := []) (S := []) (fun _ h => absurd h List.not_mem_nil) (k := 96) (d := 14) (cs := [7]) 5 4 1 [(0, 0, 1023)] [] [(2, 74, 0), (1, 0, 0), (5, 0, 0), (5, 0, 0), (5, 0, 0)] [(0, 0, 0)] [(7, [(2, 74, 0), (1, 0, 0), (0, 0, 0), (1, 0, 0), (5, 0, 0)], [], [(0, 0, 1023)], [], [], [])] (by decide +kernel) (ρ0 := (fun s => [x0].getD s 0)) hB eF trivial ⟨rfl, ⟨rfl, ⟨hv2, ⟨hv3, ⟨hv4, trivial⟩⟩⟩⟩⟩ ⟨rfl, trivial⟩ ?_
  refine List.forall_mem_cons.mpr ⟨?_, fun _ h => absurd h List.not_mem_nil⟩
  · intro ρ τ Lc stc hx g1 g2 g3 g4 g5 g6 g7 g8
    have e0 : ρ 0 = x0 := hx 0 (by decide)
    subst e0
    have g7 := g7 (by decide)
    match Lc, stc, g7, g8 with
    | [v0, v1, v2, v3, v4], [], ⟨hv0, hv1, hv2, hv3, hv4, _⟩, _ =>
      cases hv0
      cases hv1
      cases hv2
      cases hv3
      exact l0 τ ρ v4 hv4 g1 g2 g3 g4 g5 g6
set_option maxRecDepth 100000 in
theorem rf_a7 {σ : pm_S} {Q : Option Value → pm_S → Prop} (x0 x1 x2 x3 : Int) (v4 : Value) (hv4 : v4.category = 1) (hB : an_GB pm_B σ) (eF : (0 ≤ x0 ∧ x0 ≤ 3000) ∧ (0 ≤ x1 ∧ x1 ≤ 1023) ∧ (0 ≤ x2 ∧ x2 ≤ 10) ∧ (0 ≤ x3 ∧ x3 ≤ 10) ∧ True) (eC : (σ.1 3 0).toInt = x3 ∧ True)
    (l0 : ∀ (τ : pm_S) (y : Nat → Int) (v4 : Value), v4.category = 1 → an_GB pm_B τ → FQ [] σ τ → ((0 ≤ x0 ∧ x0 ≤ 3000) ∧ (0 ≤ x1 ∧ x1 ≤ 1023) ∧ (0 ≤ x2 ∧ x2 ≤ 10) ∧ (0 ≤ x3 ∧ x3 ≤ 10) ∧ True) → (True) → (True) → ((τ.1 3 0).toInt = x3 ∧ True) → Ok 96 15 12 [.ref 74, .int (Int32.ofInt (x0)), .int (Int32.ofInt (x1)), .int (Int32.ofInt (x2)), v4] [.int (Int32.ofInt (x3)), .int (Int32.ofInt (x2))] τ Q)
    : Ok 96 15 7 [.ref 74, .int (Int32.ofInt (x0)), .int (Int32.ofInt (x1)), .int (Int32.ofInt (x2)), v4] [] σ Q := by
  refine an_seg (B := pm_B) (F := []) (T := []) (S := []) (fun _ h => absurd h List.not_mem_nil) (k := 96) (d := 14) (cs := [12]) 7 7 4 [(0, 0, 3000), (1, 0, 1023), (2, 0, 10), (3, 0, 10)] [(3, (1, 0, 0), (0, 3, 0))] [(2, 74, 0), (0, 0, 0), (0, 1, 0), (0, 2, 0), (5, 0, 0)] [] [(12, [(2, 74, 0), (0, 0, 0), (0, 1, 0), (0, 2, 0), (5, 0, 0)], [(0, 3, 0), (0, 2, 0)], [(0, 0, 3000), (1, 0, 1023), (2, 0, 10), (3, 0, 10)], [], [], [(3, (1, 0, 0), (0, 3, 0))])] (by decide +kernel) (ρ0 := (fun s => [x0, x1, x2, x3].getD s 0)) hB eF eC ⟨rfl, ⟨rfl, ⟨rfl, ⟨rfl, ⟨hv4, trivial⟩⟩⟩⟩⟩ trivial ?_
  refine List.forall_mem_cons.mpr ⟨?_, fun _ h => absurd h List.not_mem_nil⟩
  · intro ρ τ Lc stc hx g1 g2 g3 g4 g5 g6 g7 g8
    have e0 : ρ 0 = x0 := hx 0 (by decide)
    have e1 : ρ 1 = x1 := hx 1 (by decide)
    have e2 : ρ 2 = x2 := hx 2 (by decide)
    have e3 : ρ 3 = x3 := hx 3 (by decide)
    subst e0
    subst e1
    subst e2
    subst e3
    have g7 := g7 (by decide)
    match Lc, stc, g7, g8 with
    | [v0, v1, v2, v3, v4], [w0, w1], ⟨hv0, hv1, hv2, hv3, hv4, _⟩, ⟨hw0, hw1, _⟩ =>
      cases hv0
      cases hv1
      cases hv2
      cases hv3
      cases hw0
      cases hw1
      exact l0 τ ρ v4 hv4 g1 g2 g3 g4 g5 g6
set_option maxRecDepth 100000 in
theorem rf_a13 {σ : pm_S} {Q : Option Value → pm_S → Prop} (x0 x1 x2 : Int) (v4 : Value) (hv4 : v4.category = 1) (hB : an_GB pm_B σ) (eF : (0 ≤ x0 ∧ x0 ≤ 3000) ∧ (0 ≤ x1 ∧ x1 ≤ 1023) ∧ (0 ≤ x2 ∧ x2 ≤ 9) ∧ True)
    (l0 : ∀ (τ : pm_S) (y : Nat → Int), an_GB pm_B τ → FQ [] σ τ → ((0 ≤ x0 ∧ x0 ≤ 3000) ∧ (0 ≤ x1 ∧ x1 ≤ 1023) ∧ (0 ≤ x2 ∧ x2 ≤ 9) ∧ True) → (True) → (True) → (True) → Ok 96 15 15 [.ref 74, .int (Int32.ofInt (x0)), .int (Int32.ofInt (x1)), .int (Int32.ofInt (x2)), .int (Int32.ofInt 0)] [] τ Q)
    : Ok 96 15 13 [.ref 74, .int (Int32.ofInt (x0)), .int (Int32.ofInt (x1)), .int (Int32.ofInt (x2)), v4] [] σ Q := by
  refine an_seg (B := pm_B) (F := []) (T := []) (S := []) (fun _ h => absurd h List.not_mem_nil) (k := 96) (d := 14) (cs := [15]) 4 13 3 [(0, 0, 3000), (1, 0, 1023), (2, 0, 9)] [] [(2, 74, 0), (0, 0, 0), (0, 1, 0), (0, 2, 0), (5, 0, 0)] [] [(15, [(2, 74, 0), (0, 0, 0), (0, 1, 0), (0, 2, 0), (1, 0, 0)], [], [(0, 0, 3000), (1, 0, 1023), (2, 0, 9)], [], [], [])] (by decide +kernel) (ρ0 := (fun s => [x0, x1, x2].getD s 0)) hB eF trivial ⟨rfl, ⟨rfl, ⟨rfl, ⟨rfl, ⟨hv4, trivial⟩⟩⟩⟩⟩ trivial ?_
  refine List.forall_mem_cons.mpr ⟨?_, fun _ h => absurd h List.not_mem_nil⟩
  · intro ρ τ Lc stc hx g1 g2 g3 g4 g5 g6 g7 g8
    have e0 : ρ 0 = x0 := hx 0 (by decide)
    have e1 : ρ 1 = x1 := hx 1 (by decide)
    have e2 : ρ 2 = x2 := hx 2 (by decide)
    subst e0
    subst e1
    subst e2
    have g7 := g7 (by decide)
    match Lc, stc, g7, g8 with
    | [v0, v1, v2, v3, v4], [], ⟨hv0, hv1, hv2, hv3, hv4, _⟩, _ =>
      cases hv0
      cases hv1
      cases hv2
      cases hv3
      cases hv4
      exact l0 τ ρ  g1 g2 g3 g4 g5 g6
set_option maxRecDepth 100000 in
theorem rf_a15 {σ : pm_S} {Q : Option Value → pm_S → Prop} (x0 x1 x2 x3 : Int)  (hB : an_GB pm_B σ) (eF : (0 ≤ x0 ∧ x0 ≤ 3000) ∧ (0 ≤ x1 ∧ x1 ≤ 1023) ∧ (0 ≤ x2 ∧ x2 ≤ 9) ∧ (0 ≤ x3 ∧ x3 ≤ 30) ∧ True)
    (l0 : ∀ (τ : pm_S) (y : Nat → Int), an_GB pm_B τ → FQ [] σ τ → ((0 ≤ x0 ∧ x0 ≤ 3000) ∧ (0 ≤ x1 ∧ x1 ≤ 1023) ∧ (0 ≤ x2 ∧ x2 ≤ 9) ∧ (30 ≤ x3 ∧ x3 ≤ 30) ∧ True) → (True) → (True) → (True) → Ok 96 15 7 [.ref 74, .int (Int32.ofInt (x0)), .int (Int32.ofInt (x1)), .int (Int32.ofInt (x2 + 1)), .int (Int32.ofInt (x3))] [] τ Q)
    (l1 : ∀ (τ : pm_S) (y : Nat → Int), an_GB pm_B τ → FQ [] σ τ → ((0 ≤ x0 ∧ x0 ≤ 3000) ∧ (0 ≤ x1 ∧ x1 ≤ 1023) ∧ (0 ≤ x2 ∧ x2 ≤ 9) ∧ (0 ≤ x3 ∧ x3 ≤ 29) ∧ (0 ≤ y 4 ∧ y 4 ≤ 1023) ∧ (0 ≤ y 5 ∧ y 5 ≤ 0) ∧ True) → (y 5 ≤ y 4 + 0 ∧ True) → ((an_f 7 (Int32.ofInt (x1)) (Int32.ofInt (x2))).toInt = y 4 ∧ (an_f 3 (Int32.ofInt (y 4)) (Int32.ofInt (1))).toInt = y 5 ∧ True) → (True) → Ok 96 15 7 [.ref 74, .int (Int32.ofInt (x0)), .int (Int32.ofInt (x1)), .int (Int32.ofInt (x2 + 1)), .int (Int32.ofInt (x3))] [] τ Q)
    (l2 : ∀ (τ : pm_S) (y : Nat → Int), an_GB pm_B τ → FQ [] σ τ → ((0 ≤ x0 ∧ x0 ≤ 3000) ∧ (0 ≤ x1 ∧ x1 ≤ 1023) ∧ (0 ≤ x2 ∧ x2 ≤ 9) ∧ (0 ≤ x3 ∧ x3 ≤ 29) ∧ (0 ≤ y 4 ∧ y 4 ≤ 1023) ∧ (1 ≤ y 5 ∧ y 5 ≤ 1) ∧ True) → (y 5 ≤ y 4 + 0 ∧ True) → ((an_f 7 (Int32.ofInt (x1)) (Int32.ofInt (x2))).toInt = y 4 ∧ (an_f 3 (Int32.ofInt (y 4)) (Int32.ofInt (1))).toInt = y 5 ∧ True) → (True) → Ok 96 15 24 [.ref 74, .int (Int32.ofInt (x0)), .int (Int32.ofInt (x1)), .int (Int32.ofInt (x2)), .int (Int32.ofInt (x3))] [.int (Int32.ofInt (x2)), .ref 74] τ Q)
    : Ok 96 15 15 [.ref 74, .int (Int32.ofInt (x0)), .int (Int32.ofInt (x1)), .int (Int32.ofInt (x2)), .int (Int32.ofInt (x3))] [] σ Q := by
  refine an_seg (B := pm_B) (F := []) (T := []) (S := []) (fun _ h => absurd h List.not_mem_nil) (k := 96) (d := 14) (cs := [7, 24]) 21 15 4 [(0, 0, 3000), (1, 0, 1023), (2, 0, 9), (3, 0, 30)] [] [(2, 74, 0), (0, 0, 0), (0, 1, 0), (0, 2, 0), (0, 3, 0)] [] [(7, [(2, 74, 0), (0, 0, 0), (0, 1, 0), (0, 2, 1), (0, 3, 0)], [], [(0, 0, 3000), (1, 0, 1023), (2, 0, 9), (3, 30, 30)], [], [], []),
    (7, [(2, 74, 0), (0, 0, 0), (0, 1, 0), (0, 2, 1), (0, 3, 0)], [], [(0, 0, 3000), (1, 0, 1023), (2, 0, 9), (3, 0, 29), (4, 0, 1023), (5, 0, 0)], [(1, 5, 4, 0)], [(7, (0, 1, 0), (0, 2, 0), 4), (3, (0, 4, 0), (1, 0, 1), 5)], []),
    (24, [(2, 74, 0), (0, 0, 0), (0, 1, 0), (0, 2, 0), (0, 3, 0)], [(0, 2, 0), (2, 74, 0)], [(0, 0, 3000), (1, 0, 1023), (2, 0, 9), (3, 0, 29), (4, 0, 1023), (5, 1, 1)], [(1, 5, 4, 0)], [(7, (0, 1, 0), (0, 2, 0), 4), (3, (0, 4, 0), (1, 0, 1), 5)], [])] (by decide +kernel) (ρ0 := (fun s => [x0, x1, x2, x3].getD s 0)) hB eF trivial ⟨rfl, ⟨rfl, ⟨rfl, ⟨rfl, ⟨rfl, trivial⟩⟩⟩⟩⟩ trivial ?_
  refine List.forall_mem_cons.mpr ⟨?_, List.forall_mem_cons.mpr ⟨?_, List.forall_mem_cons.mpr ⟨?_, fun _ h => absurd h List.not_mem_nil⟩⟩⟩
  · intro ρ τ Lc stc hx g1 g2 g3 g4 g5 g6 g7 g8
    have e0 : ρ 0 = x0 := hx 0 (by decide)
    have e1 : ρ 1 = x1 := hx 1 (by decide)
    have e2 : ρ 2 = x2 := hx 2 (by decide)
    have e3 : ρ 3 = x3 := hx 3 (by decide)
    subst e0
    subst e1
    subst e2
    subst e3
    have g7 := g7 (by decide)
    match Lc, stc, g7, g8 with
    | [v0, v1, v2, v3, v4], [], ⟨hv0, hv1, hv2, hv3, hv4, _⟩, _ =>
      cases hv0
      cases hv1
      cases hv2
      cases hv3
      cases hv4
      exact l0 τ ρ  g1 g2 g3 g4 g5 g6
  · intro ρ τ Lc stc hx g1 g2 g3 g4 g5 g6 g7 g8
    have e0 : ρ 0 = x0 := hx 0 (by decide)
    have e1 : ρ 1 = x1 := hx 1 (by decide)
    have e2 : ρ 2 = x2 := hx 2 (by decide)
    have e3 : ρ 3 = x3 := hx 3 (by decide)
    subst e0
    subst e1
    subst e2
    subst e3
    have g7 := g7 (by decide)
    match Lc, stc, g7, g8 with
    | [v0, v1, v2, v3, v4], [], ⟨hv0, hv1, hv2, hv3, hv4, _⟩, _ =>
      cases hv0
      cases hv1
      cases hv2
      cases hv3
      cases hv4
      exact l1 τ ρ  g1 g2 g3 g4 g5 g6
  · intro ρ τ Lc stc hx g1 g2 g3 g4 g5 g6 g7 g8
    have e0 : ρ 0 = x0 := hx 0 (by decide)
    have e1 : ρ 1 = x1 := hx 1 (by decide)
    have e2 : ρ 2 = x2 := hx 2 (by decide)
    have e3 : ρ 3 = x3 := hx 3 (by decide)
    subst e0
    subst e1
    subst e2
    subst e3
    have g7 := g7 (by decide)
    match Lc, stc, g7, g8 with
    | [v0, v1, v2, v3, v4], [w0, w1], ⟨hv0, hv1, hv2, hv3, hv4, _⟩, ⟨hw0, hw1, _⟩ =>
      cases hv0
      cases hv1
      cases hv2
      cases hv3
      cases hv4
      cases hw0
      cases hw1
      exact l2 τ ρ  g1 g2 g3 g4 g5 g6
set_option maxRecDepth 100000 in
theorem rf_a25 {σ : pm_S} {Q : Option Value → pm_S → Prop} (x0 x1 x2 x3 x4 : Int)  (hB : an_GB pm_B σ) (eF : (0 ≤ x0 ∧ x0 ≤ 3000) ∧ (0 ≤ x1 ∧ x1 ≤ 1023) ∧ (0 ≤ x2 ∧ x2 ≤ 9) ∧ (0 ≤ x3 ∧ x3 ≤ 29) ∧ (0 ≤ x4 ∧ x4 ≤ 1) ∧ True)
    (l0 : ∀ (τ : pm_S) (y : Nat → Int), an_GB pm_B τ → FQ [] σ τ → ((0 ≤ x0 ∧ x0 ≤ 3000) ∧ (0 ≤ x1 ∧ x1 ≤ 1023) ∧ (0 ≤ x2 ∧ x2 ≤ 9) ∧ (0 ≤ x3 ∧ x3 ≤ 29) ∧ (0 ≤ x4 ∧ x4 ≤ 0) ∧ True) → (True) → (True) → (True) → Ok 96 15 7 [.ref 74, .int (Int32.ofInt (x0)), .int (Int32.ofInt (x1)), .int (Int32.ofInt (x2 + 1)), .int (Int32.ofInt (x3))] [] τ Q)
    (l1 : ∀ (τ : pm_S) (y : Nat → Int), an_GB pm_B τ → FQ [] σ τ → ((0 ≤ x0 ∧ x0 ≤ 3000) ∧ (0 ≤ x1 ∧ x1 ≤ 1023) ∧ (0 ≤ x2 ∧ x2 ≤ 9) ∧ (0 ≤ x3 ∧ x3 ≤ 29) ∧ (1 ≤ x4 ∧ x4 ≤ 1) ∧ True) → (True) → (True) → (True) → Ok 96 15 28 [.ref 74, .int (Int32.ofInt (x0)), .int (Int32.ofInt (x1)), .int (Int32.ofInt (x2)), .int (Int32.ofInt (x3))] [.ref 74, .int (Int32.ofInt (x0))] τ Q)
    : Ok 96 15 25 [.ref 74, .int (Int32.ofInt (x0)), .int (Int32.ofInt (x1)), .int (Int32.ofInt (x2)), .int (Int32.ofInt (x3))] [.int (Int32.ofInt (x4))] σ Q := by
  refine an_seg (B := pm_B) (F := []) (T := []) (S := []) (fun _ h => absurd h List.not_mem_nil) (k := 96) (d := 14) (cs := [7, 28]) 5 25 5 [(0, 0, 3000), (1, 0, 1023), (2, 0, 9), (3, 0, 29), (4, 0, 1)] [] [(2, 74, 0), (0, 0, 0), (0, 1, 0), (0, 2, 0), (0, 3, 0)] [(0, 4, 0)] [(7, [(2, 74, 0), (0, 0, 0), (0, 1, 0), (0, 2, 1), (0, 3, 0)], [], [(0, 0, 3000), (1, 0, 1023), (2, 0, 9), (3, 0, 29), (4, 0, 0)], [], [], []),
    (28, [(2, 74, 0), (0, 0, 0), (0, 1, 0), (0, 2, 0), (0, 3, 0)], [(2, 74, 0), (0, 0, 0)], [(0, 0, 3000), (1, 0, 1023), (2, 0, 9), (3, 0, 29), (4, 1, 1)], [], [], [])] (by decide +kernel) (ρ0 := (fun s => [x0, x1, x2, x3, x4].getD s 0)) hB eF trivial ⟨rfl, ⟨rfl, ⟨rfl, ⟨rfl, ⟨rfl, trivial⟩⟩⟩⟩⟩ ⟨rfl, trivial⟩ ?_
  refine List.forall_mem_cons.mpr ⟨?_, List.forall_mem_cons.mpr ⟨?_, fun _ h => absurd h List.not_mem_nil⟩⟩
  · intro ρ τ Lc stc hx g1 g2 g3 g4 g5 g6 g7 g8
    have e0 : ρ 0 = x0 := hx 0 (by decide)
    have e1 : ρ 1 = x1 := hx 1 (by decide)
    have e2 : ρ 2 = x2 := hx 2 (by decide)
    have e3 : ρ 3 = x3 := hx 3 (by decide)
    have e4 : ρ 4 = x4 := hx 4 (by decide)
    subst e0
    subst e1
    subst e2
    subst e3
    subst e4
    have g7 := g7 (by decide)
    match Lc, stc, g7, g8 with
    | [v0, v1, v2, v3, v4], [], ⟨hv0, hv1, hv2, hv3, hv4, _⟩, _ =>
      cases hv0
      cases hv1
      cases hv2
      cases hv3
      cases hv4
      exact l0 τ ρ  g1 g2 g3 g4 g5 g6
  · intro ρ τ Lc stc hx g1 g2 g3 g4 g5 g6 g7 g8
    have e0 : ρ 0 = x0 := hx 0 (by decide)
    have e1 : ρ 1 = x1 := hx 1 (by decide)
    have e2 : ρ 2 = x2 := hx 2 (by decide)
    have e3 : ρ 3 = x3 := hx 3 (by decide)
    have e4 : ρ 4 = x4 := hx 4 (by decide)
    subst e0
    subst e1
    subst e2
    subst e3
    subst e4
    have g7 := g7 (by decide)
    match Lc, stc, g7, g8 with
    | [v0, v1, v2, v3, v4], [w0, w1], ⟨hv0, hv1, hv2, hv3, hv4, _⟩, ⟨hw0, hw1, _⟩ =>
      cases hv0
      cases hv1
      cases hv2
      cases hv3
      cases hv4
      cases hw0
      cases hw1
      exact l1 τ ρ  g1 g2 g3 g4 g5 g6
set_option maxRecDepth 100000 in
theorem rf_a29 {σ : pm_S} {Q : Option Value → pm_S → Prop} (x0 x1 x2 x3 x4 : Int)  (hB : an_GB pm_B σ) (eF : (0 ≤ x0 ∧ x0 ≤ 3000) ∧ (0 ≤ x1 ∧ x1 ≤ 1023) ∧ (0 ≤ x2 ∧ x2 ≤ 9) ∧ (0 ≤ x3 ∧ x3 ≤ 29) ∧ (0 ≤ x4 ∧ x4 ≤ 10) ∧ True)
    (l0 : ∀ (τ : pm_S) (y : Nat → Int), an_GB pm_B τ → FQ [] σ τ → ((0 ≤ x0 ∧ x0 ≤ 3000) ∧ (0 ≤ x1 ∧ x1 ≤ 1023) ∧ (0 ≤ x2 ∧ x2 ≤ 9) ∧ (0 ≤ x3 ∧ x3 ≤ 29) ∧ (0 ≤ x4 ∧ x4 ≤ 10) ∧ (0 ≤ y 5 ∧ y 5 ≤ 3010) ∧ True) → (True) → ((an_f 0 (Int32.ofInt (x0)) (Int32.ofInt (x4))).toInt = y 5 ∧ True) → (True) → Ok 96 15 15 [.ref 74, .int (Int32.ofInt (y 5)), .int (Int32.ofInt (x1)), .int (Int32.ofInt (x2)), .int (Int32.ofInt (x3 + 1))] [] τ Q)
    : Ok 96 15 29 [.ref 74, .int (Int32.ofInt (x0)), .int (Int32.ofInt (x1)), .int (Int32.ofInt (x2)), .int (Int32.ofInt (x3))] [.int (Int32.ofInt (x4)), .int (Int32.ofInt (x0))] σ Q := by
  refine an_seg (B := pm_B) (F := []) (T := []) (S := []) (fun _ h => absurd h List.not_mem_nil) (k := 96) (d := 14) (cs := [15]) 6 29 5 [(0, 0, 3000), (1, 0, 1023), (2, 0, 9), (3, 0, 29), (4, 0, 10)] [] [(2, 74, 0), (0, 0, 0), (0, 1, 0), (0, 2, 0), (0, 3, 0)] [(0, 4, 0), (0, 0, 0)] [(15, [(2, 74, 0), (0, 5, 0), (0, 1, 0), (0, 2, 0), (0, 3, 1)], [], [(0, 0, 3000), (1, 0, 1023), (2, 0, 9), (3, 0, 29), (4, 0, 10), (5, 0, 3010)], [], [(0, (0, 0, 0), (0, 4, 0), 5)], [])] (by decide +kernel) (ρ0 := (fun s => [x0, x1, x2, x3, x4].getD s 0)) hB eF trivial ⟨rfl, ⟨rfl, ⟨rfl, ⟨rfl, ⟨rfl, trivial⟩⟩⟩⟩⟩ ⟨rfl, ⟨rfl, trivial⟩⟩ ?_
  refine List.forall_mem_cons.mpr ⟨?_, fun _ h => absurd h List.not_mem_nil⟩
  · intro ρ τ Lc stc hx g1 g2 g3 g4 g5 g6 g7 g8
    have e0 : ρ 0 = x0 := hx 0 (by decide)
    have e1 : ρ 1 = x1 := hx 1 (by decide)
    have e2 : ρ 2 = x2 := hx 2 (by decide)
    have e3 : ρ 3 = x3 := hx 3 (by decide)
    have e4 : ρ 4 = x4 := hx 4 (by decide)
    subst e0
    subst e1
    subst e2
    subst e3
    subst e4
    have g7 := g7 (by decide)
    match Lc, stc, g7, g8 with
    | [v0, v1, v2, v3, v4], [], ⟨hv0, hv1, hv2, hv3, hv4, _⟩, _ =>
      cases hv0
      cases hv1
      cases hv2
      cases hv3
      cases hv4
      exact l0 τ ρ  g1 g2 g3 g4 g5 g6
set_option maxRecDepth 100000 in
theorem rf_a35 {σ : pm_S} {Q : Option Value → pm_S → Prop} (x0 : Int) (v2 : Value) (v3 : Value) (v4 : Value) (hv2 : v2.category = 1) (hv3 : v3.category = 1) (hv4 : v4.category = 1) (hB : an_GB pm_B σ) (eF : (0 ≤ x0 ∧ x0 ≤ 3000) ∧ True)
    (l0 : ∀ (τ : pm_S) (y : Nat → Int), an_GB pm_B τ → FQ [] σ τ → ((0 ≤ x0 ∧ x0 ≤ 3000) ∧ True) → (True) → (True) → (True) → Q (some (.int (Int32.ofInt (x0)))) τ)
    : Ok 96 15 35 [.ref 74, .int (Int32.ofInt (x0)), v2, v3, v4] [] σ Q := by
  refine an_seg (B := pm_B) (F := []) (T := []) (S := []) (fun _ h => absurd h List.not_mem_nil) (k := 96) (d := 14) (cs := []) 4 35 1 [(0, 0, 3000)] [] [(2, 74, 0), (0, 0, 0), (5, 0, 0), (5, 0, 0), (5, 0, 0)] [] [(9999, [], [(0, 0, 0)], [(0, 0, 3000)], [], [], [])] (by decide +kernel) (ρ0 := (fun s => [x0].getD s 0)) hB eF trivial ⟨rfl, ⟨rfl, ⟨hv2, ⟨hv3, ⟨hv4, trivial⟩⟩⟩⟩⟩ trivial ?_
  refine List.forall_mem_cons.mpr ⟨?_, fun _ h => absurd h List.not_mem_nil⟩
  · intro ρ τ Lc stc hx g1 g2 g3 g4 g5 g6 g7 g8
    have e0 : ρ 0 = x0 := hx 0 (by decide)
    subst e0
    match stc, g8 with
    | [_], ⟨h, _⟩ => cases h; exact l0 τ ρ g1 g2 g3 g4 g5 g6
