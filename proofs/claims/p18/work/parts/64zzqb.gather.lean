/-! the open debts as a row, both sides -/
set_option maxRecDepth 100000 in
theorem gc_p0 {σ : pm_S} {Q : Option Value → pm_S → Prop} (x0 : Int) (v3 : Value) (hv3 : v3.category = 1) (hB : an_GB pm_B σ) (eF : (0 ≤ x0 ∧ x0 ≤ 9) ∧ True)
    (l0 : ∀ (τ : pm_S) (y : Nat → Int), an_GB pm_B τ → FQ [(79, 2)] σ τ → ((0 ≤ x0 ∧ x0 ≤ 9) ∧ True) → (True) → (True) → ((τ.1 79 2).toInt = 0 ∧ True) → Ok 69 7 5 [.ref 79, .int (Int32.ofInt (x0)), .int (Int32.ofInt 8), .int (Int32.ofInt 0)] [] τ Q)
    : Ok 69 7 0 [.ref 79, .int (Int32.ofInt (x0)), .int (Int32.ofInt 8), v3] [] σ Q := by
  refine an_seg (B := pm_B) (F := [(79, 2)]) (T := []) (S := []) (fun _ h => absurd h List.not_mem_nil) (k := 69) (d := 6) (cs := [5]) 7 0 1 [(0, 0, 9)] [] [(2, 79, 0), (0, 0, 0), (1, 0, 8), (5, 0, 0)] [] [(5, [(2, 79, 0), (0, 0, 0), (1, 0, 8), (1, 0, 0)], [], [(0, 0, 9)], [], [], [(79, (1, 0, 2), (1, 0, 0))])] (by decide +kernel) (ρ0 := (fun s => [x0].getD s 0)) hB eF trivial ⟨rfl, ⟨rfl, ⟨rfl, ⟨hv3, trivial⟩⟩⟩⟩ trivial ?_
  refine List.forall_mem_cons.mpr ⟨?_, fun _ h => absurd h List.not_mem_nil⟩
  · intro ρ τ Lc stc hx g1 g2 g3 g4 g5 g6 g7 g8
    have e0 : ρ 0 = x0 := hx 0 (by decide)
    subst e0
    have g7 := g7 (by decide)
    match Lc, stc, g7, g8 with
    | [v0, v1, v2, v3], [], ⟨hv0, hv1, hv2, hv3, _⟩, _ =>
      cases hv0
      cases hv1
      cases hv2
      cases hv3
      exact l0 τ ρ  g1 g2 g3 g4 g5 g6
set_option maxRecDepth 100000 in
theorem gc_p5 {σ : pm_S} {Q : Option Value → pm_S → Prop} (x0 x1 x2 : Int)  (hB : an_GB pm_B σ) (eF : (0 ≤ x0 ∧ x0 ≤ 30) ∧ (0 ≤ x1 ∧ x1 ≤ 9) ∧ (0 ≤ x2 ∧ x2 ≤ 30) ∧ True) (eC : (σ.1 13 0).toInt = x2 ∧ True)
    (l0 : ∀ (τ : pm_S) (y : Nat → Int), an_GB pm_B τ → FQ [] σ τ → ((0 ≤ x0 ∧ x0 ≤ 30) ∧ (0 ≤ x1 ∧ x1 ≤ 9) ∧ (0 ≤ x2 ∧ x2 ≤ 30) ∧ True) → (True) → (True) → ((τ.1 13 0).toInt = x2 ∧ True) → Ok 69 7 10 [.ref 79, .int (Int32.ofInt (x1)), .int (Int32.ofInt 8), .int (Int32.ofInt (x0))] [.int (Int32.ofInt (x2)), .int (Int32.ofInt (x0))] τ Q)
    : Ok 69 7 5 [.ref 79, .int (Int32.ofInt (x1)), .int (Int32.ofInt 8), .int (Int32.ofInt (x0))] [] σ Q := by
  refine an_seg (B := pm_B) (F := []) (T := []) (S := []) (fun _ h => absurd h List.not_mem_nil) (k := 69) (d := 6) (cs := [10]) 7 5 3 [(0, 0, 30), (1, 0, 9), (2, 0, 30)] [(13, (1, 0, 0), (0, 2, 0))] [(2, 79, 0), (0, 1, 0), (1, 0, 8), (0, 0, 0)] [] [(10, [(2, 79, 0), (0, 1, 0), (1, 0, 8), (0, 0, 0)], [(0, 2, 0), (0, 0, 0)], [(0, 0, 30), (1, 0, 9), (2, 0, 30)], [], [], [(13, (1, 0, 0), (0, 2, 0))])] (by decide +kernel) (ρ0 := (fun s => [x0, x1, x2].getD s 0)) hB eF eC ⟨rfl, ⟨rfl, ⟨rfl, ⟨rfl, trivial⟩⟩⟩⟩ trivial ?_
  refine List.forall_mem_cons.mpr ⟨?_, fun _ h => absurd h List.not_mem_nil⟩
  · intro ρ τ Lc stc hx g1 g2 g3 g4 g5 g6 g7 g8
    have e0 : ρ 0 = x0 := hx 0 (by decide)
    have e1 : ρ 1 = x1 := hx 1 (by decide)
    have e2 : ρ 2 = x2 := hx 2 (by decide)
    subst e0
    subst e1
    subst e2
    have g7 := g7 (by decide)
    match Lc, stc, g7, g8 with
    | [v0, v1, v2, v3], [w0, w1], ⟨hv0, hv1, hv2, hv3, _⟩, ⟨hw0, hw1, _⟩ =>
      cases hv0
      cases hv1
      cases hv2
      cases hv3
      cases hw0
      cases hw1
      exact l0 τ ρ  g1 g2 g3 g4 g5 g6
set_option maxRecDepth 100000 in
theorem gc_p11 {σ : pm_S} {Q : Option Value → pm_S → Prop} (x0 x1 : Int)  (hB : an_GB pm_B σ) (eF : (0 ≤ x0 ∧ x0 ≤ 29) ∧ (0 ≤ x1 ∧ x1 ≤ 9) ∧ True)
    (l0 : ∀ (τ : pm_S) (y : Nat → Int), an_GB pm_B τ → FQ [] σ τ → ((0 ≤ x0 ∧ x0 ≤ 29) ∧ (0 ≤ x1 ∧ x1 ≤ 9) ∧ True) → (True) → (True) → (True) → Ok 69 7 15 [.ref 79, .int (Int32.ofInt (x1)), .int (Int32.ofInt 8), .int (Int32.ofInt (x0))] [.int (Int32.ofInt (x0)), .ref 13] τ Q)
    : Ok 69 7 11 [.ref 79, .int (Int32.ofInt (x1)), .int (Int32.ofInt 8), .int (Int32.ofInt (x0))] [] σ Q := by
  refine an_seg (B := pm_B) (F := []) (T := []) (S := []) (fun _ h => absurd h List.not_mem_nil) (k := 69) (d := 6) (cs := [15]) 6 11 2 [(0, 0, 29), (1, 0, 9)] [] [(2, 79, 0), (0, 1, 0), (1, 0, 8), (0, 0, 0)] [] [(15, [(2, 79, 0), (0, 1, 0), (1, 0, 8), (0, 0, 0)], [(0, 0, 0), (2, 13, 0)], [(0, 0, 29), (1, 0, 9)], [], [], [])] (by decide +kernel) (ρ0 := (fun s => [x0, x1].getD s 0)) hB eF trivial ⟨rfl, ⟨rfl, ⟨rfl, ⟨rfl, trivial⟩⟩⟩⟩ trivial ?_
  refine List.forall_mem_cons.mpr ⟨?_, fun _ h => absurd h List.not_mem_nil⟩
  · intro ρ τ Lc stc hx g1 g2 g3 g4 g5 g6 g7 g8
    have e0 : ρ 0 = x0 := hx 0 (by decide)
    have e1 : ρ 1 = x1 := hx 1 (by decide)
    subst e0
    subst e1
    have g7 := g7 (by decide)
    match Lc, stc, g7, g8 with
    | [v0, v1, v2, v3], [w0, w1], ⟨hv0, hv1, hv2, hv3, _⟩, ⟨hw0, hw1, _⟩ =>
      cases hv0
      cases hv1
      cases hv2
      cases hv3
      cases hw0
      cases hw1
      exact l0 τ ρ  g1 g2 g3 g4 g5 g6
set_option maxRecDepth 100000 in
theorem gc_p16n {σ : pm_S} {Q : Option Value → pm_S → Prop} (x0 x1 : Int)  (hB : an_GB pm_B σ) (eF : (0 ≤ x0 ∧ x0 ≤ 29) ∧ (0 ≤ x1 ∧ x1 ≤ 9) ∧ True)
    (l0 : ∀ (τ : pm_S) (y : Nat → Int), an_GB pm_B τ → FQ [] σ τ → ((0 ≤ x0 ∧ x0 ≤ 29) ∧ (0 ≤ x1 ∧ x1 ≤ 9) ∧ True) → (True) → (True) → (True) → Ok 69 7 5 [.ref 79, .int (Int32.ofInt (x1)), .int (Int32.ofInt 8), .int (Int32.ofInt (x0 + 1))] [] τ Q)
    : Ok 69 7 16 [.ref 79, .int (Int32.ofInt (x1)), .int (Int32.ofInt 8), .int (Int32.ofInt (x0))] [.int (Int32.ofInt 0)] σ Q := by
  refine an_seg (B := pm_B) (F := []) (T := []) (S := []) (fun _ h => absurd h List.not_mem_nil) (k := 69) (d := 6) (cs := [5]) 5 16 2 [(0, 0, 29), (1, 0, 9)] [] [(2, 79, 0), (0, 1, 0), (1, 0, 8), (0, 0, 0)] [(1, 0, 0)] [(5, [(2, 79, 0), (0, 1, 0), (1, 0, 8), (0, 0, 1)], [], [(0, 0, 29), (1, 0, 9)], [], [], [])] (by decide +kernel) (ρ0 := (fun s => [x0, x1].getD s 0)) hB eF trivial ⟨rfl, ⟨rfl, ⟨rfl, ⟨rfl, trivial⟩⟩⟩⟩ ⟨rfl, trivial⟩ ?_
  refine List.forall_mem_cons.mpr ⟨?_, fun _ h => absurd h List.not_mem_nil⟩
  · intro ρ τ Lc stc hx g1 g2 g3 g4 g5 g6 g7 g8
    have e0 : ρ 0 = x0 := hx 0 (by decide)
    have e1 : ρ 1 = x1 := hx 1 (by decide)
    subst e0
    subst e1
    have g7 := g7 (by decide)
    match Lc, stc, g7, g8 with
    | [v0, v1, v2, v3], [], ⟨hv0, hv1, hv2, hv3, _⟩, _ =>
      cases hv0
      cases hv1
      cases hv2
      cases hv3
      exact l0 τ ρ  g1 g2 g3 g4 g5 g6
set_option maxRecDepth 100000 in
theorem gc_p16 {σ : pm_S} {Q : Option Value → pm_S → Prop} (x0 x1 x2 : Int)  (hB : an_GB pm_B σ) (eF : (0 ≤ x0 ∧ x0 ≤ 29) ∧ (0 ≤ x1 ∧ x1 ≤ 9) ∧ (0 ≤ x2 ∧ x2 ≤ 9) ∧ True) (eC : (σ.1 14 (x0).toNat).toInt = x2 ∧ True)
    (l0 : ∀ (τ : pm_S) (y : Nat → Int), an_GB pm_B τ → FQ [] σ τ → ((0 ≤ x0 ∧ x0 ≤ 29) ∧ (0 ≤ x1 ∧ x1 ≤ 9) ∧ (0 ≤ x2 ∧ x2 ≤ 9) ∧ True) → (x1 ≠ (-1) ∧ True) → (True) → ((τ.1 14 (x0).toNat).toInt = x2 ∧ True) → Ok 69 7 27 [.ref 79, .int (Int32.ofInt (x1)), .int (Int32.ofInt 8), .int (Int32.ofInt (x0))] [.int (Int32.ofInt (x1)), .int (Int32.ofInt (x2))] τ Q)
    : Ok 69 7 16 [.ref 79, .int (Int32.ofInt (x1)), .int (Int32.ofInt 8), .int (Int32.ofInt (x0))] [.int (Int32.ofInt 1)] σ Q := by
  refine an_seg (B := pm_B) (F := []) (T := [14]) (S := []) (fun _ h => absurd h List.not_mem_nil) (k := 69) (d := 6) (cs := [27]) 13 16 3 [(0, 0, 29), (1, 0, 9), (2, 0, 9)] [(14, (0, 0, 0), (0, 2, 0))] [(2, 79, 0), (0, 1, 0), (1, 0, 8), (0, 0, 0)] [(1, 0, 1)] [(27, [(2, 79, 0), (0, 1, 0), (1, 0, 8), (0, 0, 0)], [(0, 1, 0), (0, 2, 0)], [(0, 0, 29), (1, 0, 9), (2, 0, 9)], [(3, 1, 1, (-1))], [], [(14, (0, 0, 0), (0, 2, 0))])] (by decide +kernel) (ρ0 := (fun s => [x0, x1, x2].getD s 0)) hB eF eC ⟨rfl, ⟨rfl, ⟨rfl, ⟨rfl, trivial⟩⟩⟩⟩ ⟨rfl, trivial⟩ ?_
  refine List.forall_mem_cons.mpr ⟨?_, fun _ h => absurd h List.not_mem_nil⟩
  · intro ρ τ Lc stc hx g1 g2 g3 g4 g5 g6 g7 g8
    have e0 : ρ 0 = x0 := hx 0 (by decide)
    have e1 : ρ 1 = x1 := hx 1 (by decide)
    have e2 : ρ 2 = x2 := hx 2 (by decide)
    subst e0
    subst e1
    subst e2
    have g7 := g7 (by decide)
    match Lc, stc, g7, g8 with
    | [v0, v1, v2, v3], [w0, w1], ⟨hv0, hv1, hv2, hv3, _⟩, ⟨hw0, hw1, _⟩ =>
      cases hv0
      cases hv1
      cases hv2
      cases hv3
      cases hw0
      cases hw1
      exact l0 τ ρ  g1 g2 g3 g4 g5 g6
set_option maxRecDepth 100000 in
theorem gc_p52 {σ : pm_S} {Q : Option Value → pm_S → Prop} (x0 x1 : Int)  (hB : an_GB pm_B σ) (eF : (0 ≤ x0 ∧ x0 ≤ 29) ∧ (0 ≤ x1 ∧ x1 ≤ 9) ∧ True)
    (l0 : ∀ (τ : pm_S) (y : Nat → Int), an_GB pm_B τ → FQ [] σ τ → ((0 ≤ x0 ∧ x0 ≤ 29) ∧ (0 ≤ x1 ∧ x1 ≤ 9) ∧ True) → (True) → (True) → (True) → Ok 69 7 5 [.ref 79, .int (Int32.ofInt (x1)), .int (Int32.ofInt 8), .int (Int32.ofInt (x0 + 1))] [] τ Q)
    : Ok 69 7 52 [.ref 79, .int (Int32.ofInt (x1)), .int (Int32.ofInt 8), .int (Int32.ofInt (x0))] [] σ Q := by
  refine an_seg (B := pm_B) (F := []) (T := []) (S := []) (fun _ h => absurd h List.not_mem_nil) (k := 69) (d := 6) (cs := [5]) 4 52 2 [(0, 0, 29), (1, 0, 9)] [] [(2, 79, 0), (0, 1, 0), (1, 0, 8), (0, 0, 0)] [] [(5, [(2, 79, 0), (0, 1, 0), (1, 0, 8), (0, 0, 1)], [], [(0, 0, 29), (1, 0, 9)], [], [], [])] (by decide +kernel) (ρ0 := (fun s => [x0, x1].getD s 0)) hB eF trivial ⟨rfl, ⟨rfl, ⟨rfl, ⟨rfl, trivial⟩⟩⟩⟩ trivial ?_
  refine List.forall_mem_cons.mpr ⟨?_, fun _ h => absurd h List.not_mem_nil⟩
  · intro ρ τ Lc stc hx g1 g2 g3 g4 g5 g6 g7 g8
    have e0 : ρ 0 = x0 := hx 0 (by decide)
    have e1 : ρ 1 = x1 := hx 1 (by decide)
    subst e0
    subst e1
    have g7 := g7 (by decide)
    match Lc, stc, g7, g8 with
    | [v0, v1, v2, v3], [], ⟨hv0, hv1, hv2, hv3, _⟩, _ =>
      cases hv0
      cases hv1
      cases hv2
      cases hv3
      exact l0 τ ρ  g1 g2 g3 g4 g5 g6
set_option maxRecDepth 100000 in
theorem gc_p28 {σ : pm_S} {Q : Option Value → pm_S → Prop} (x0 x1 x2 : Int)  (hB : an_GB pm_B σ) (eF : (0 ≤ x0 ∧ x0 ≤ 29) ∧ (0 ≤ x1 ∧ x1 ≤ 9) ∧ (0 ≤ x2 ∧ x2 ≤ 10) ∧ True) (eC : (σ.1 79 2).toInt = x2 ∧ True)
    (l0 : ∀ (τ : pm_S) (y : Nat → Int), an_GB pm_B τ → FQ [] σ τ → ((0 ≤ x0 ∧ x0 ≤ 29) ∧ (0 ≤ x1 ∧ x1 ≤ 9) ∧ (8 ≤ x2 ∧ x2 ≤ 10) ∧ True) → (True) → (True) → ((τ.1 79 2).toInt = x2 ∧ True) → Q (some (.int (Int32.ofInt 0))) τ)
    (l1 : ∀ (τ : pm_S) (y : Nat → Int), an_GB pm_B τ → FQ [] σ τ → ((0 ≤ x0 ∧ x0 ≤ 29) ∧ (0 ≤ x1 ∧ x1 ≤ 9) ∧ (0 ≤ x2 ∧ x2 ≤ 7) ∧ True) → (True) → (True) → ((τ.1 79 2).toInt = x2 ∧ True) → Ok 69 7 45 [.ref 79, .int (Int32.ofInt (x1)), .int (Int32.ofInt 8), .int (Int32.ofInt (x0))] [.int (Int32.ofInt (x0)), .int (Int32.ofInt (x2)), .ref 80] τ Q)
    : Ok 69 7 28 [.ref 79, .int (Int32.ofInt (x1)), .int (Int32.ofInt 8), .int (Int32.ofInt (x0))] [] σ Q := by
  refine an_seg (B := pm_B) (F := []) (T := []) (S := []) (fun _ h => absurd h List.not_mem_nil) (k := 69) (d := 6) (cs := [45]) 17 28 3 [(0, 0, 29), (1, 0, 9), (2, 0, 10)] [(79, (1, 0, 2), (0, 2, 0))] [(2, 79, 0), (0, 1, 0), (1, 0, 8), (0, 0, 0)] [] [(9999, [], [(1, 0, 0)], [(0, 0, 29), (1, 0, 9), (2, 8, 10)], [], [], [(79, (1, 0, 2), (0, 2, 0))]),
    (45, [(2, 79, 0), (0, 1, 0), (1, 0, 8), (0, 0, 0)], [(0, 0, 0), (0, 2, 0), (2, 80, 0)], [(0, 0, 29), (1, 0, 9), (2, 0, 7)], [], [], [(79, (1, 0, 2), (0, 2, 0))])] (by decide +kernel) (ρ0 := (fun s => [x0, x1, x2].getD s 0)) hB eF eC ⟨rfl, ⟨rfl, ⟨rfl, ⟨rfl, trivial⟩⟩⟩⟩ trivial ?_
  refine List.forall_mem_cons.mpr ⟨?_, List.forall_mem_cons.mpr ⟨?_, fun _ h => absurd h List.not_mem_nil⟩⟩
  · intro ρ τ Lc stc hx g1 g2 g3 g4 g5 g6 g7 g8
    have e0 : ρ 0 = x0 := hx 0 (by decide)
    have e1 : ρ 1 = x1 := hx 1 (by decide)
    have e2 : ρ 2 = x2 := hx 2 (by decide)
    subst e0
    subst e1
    subst e2
    match stc, g8 with
    | [_], ⟨h, _⟩ => cases h; exact l0 τ ρ g1 g2 g3 g4 g5 g6
  · intro ρ τ Lc stc hx g1 g2 g3 g4 g5 g6 g7 g8
    have e0 : ρ 0 = x0 := hx 0 (by decide)
    have e1 : ρ 1 = x1 := hx 1 (by decide)
    have e2 : ρ 2 = x2 := hx 2 (by decide)
    subst e0
    subst e1
    subst e2
    have g7 := g7 (by decide)
    match Lc, stc, g7, g8 with
    | [v0, v1, v2, v3], [w0, w1, w2], ⟨hv0, hv1, hv2, hv3, _⟩, ⟨hw0, hw1, hw2, _⟩ =>
      cases hv0
      cases hv1
      cases hv2
      cases hv3
      cases hw0
      cases hw1
      cases hw2
      exact l1 τ ρ  g1 g2 g3 g4 g5 g6
set_option maxRecDepth 100000 in
theorem gc_p46 {σ : pm_S} {Q : Option Value → pm_S → Prop} (x0 x1 x2 : Int)  (hB : an_GB pm_B σ) (eF : (0 ≤ x0 ∧ x0 ≤ 29) ∧ (0 ≤ x1 ∧ x1 ≤ 9) ∧ (0 ≤ x2 ∧ x2 ≤ 9) ∧ True) (eC : (σ.1 79 2).toInt = x2 ∧ True)
    (l0 : ∀ (τ : pm_S) (y : Nat → Int), an_GB pm_B τ → FQ [(79, 2)] σ τ → ((0 ≤ x0 ∧ x0 ≤ 29) ∧ (0 ≤ x1 ∧ x1 ≤ 9) ∧ (0 ≤ x2 ∧ x2 ≤ 9) ∧ True) → (True) → (True) → ((τ.1 79 2).toInt = x2 + 1 ∧ True) → Ok 69 7 5 [.ref 79, .int (Int32.ofInt (x1)), .int (Int32.ofInt 8), .int (Int32.ofInt (x0 + 1))] [] τ Q)
    : Ok 69 7 46 [.ref 79, .int (Int32.ofInt (x1)), .int (Int32.ofInt 8), .int (Int32.ofInt (x0))] [] σ Q := by
  refine an_seg (B := pm_B) (F := [(79, 2)]) (T := []) (S := []) (fun _ h => absurd h List.not_mem_nil) (k := 69) (d := 6) (cs := [5]) 10 46 3 [(0, 0, 29), (1, 0, 9), (2, 0, 9)] [(79, (1, 0, 2), (0, 2, 0))] [(2, 79, 0), (0, 1, 0), (1, 0, 8), (0, 0, 0)] [] [(5, [(2, 79, 0), (0, 1, 0), (1, 0, 8), (0, 0, 1)], [], [(0, 0, 29), (1, 0, 9), (2, 0, 9)], [], [], [(79, (1, 0, 2), (0, 2, 1))])] (by decide +kernel) (ρ0 := (fun s => [x0, x1, x2].getD s 0)) hB eF eC ⟨rfl, ⟨rfl, ⟨rfl, ⟨rfl, trivial⟩⟩⟩⟩ trivial ?_
  refine List.forall_mem_cons.mpr ⟨?_, fun _ h => absurd h List.not_mem_nil⟩
  · intro ρ τ Lc stc hx g1 g2 g3 g4 g5 g6 g7 g8
    have e0 : ρ 0 = x0 := hx 0 (by decide)
    have e1 : ρ 1 = x1 := hx 1 (by decide)
    have e2 : ρ 2 = x2 := hx 2 (by decide)
    subst e0
    subst e1
    subst e2
    have g7 := g7 (by decide)
    match Lc, stc, g7, g8 with
    | [v0, v1, v2, v3], [], ⟨hv0, hv1, hv2, hv3, _⟩, _ =>
      cases hv0
      cases hv1
      cases hv2
      cases hv3
      exact l0 τ ρ  g1 g2 g3 g4 g5 g6
set_option maxRecDepth 100000 in
theorem gc_p54 {σ : pm_S} {Q : Option Value → pm_S → Prop} (x0 x1 : Int)  (hB : an_GB pm_B σ) (eF : (0 ≤ x0 ∧ x0 ≤ 30) ∧ (0 ≤ x1 ∧ x1 ≤ 9) ∧ True)
    (l0 : ∀ (τ : pm_S) (y : Nat → Int), an_GB pm_B τ → FQ [] σ τ → ((0 ≤ x0 ∧ x0 ≤ 30) ∧ (0 ≤ x1 ∧ x1 ≤ 9) ∧ True) → (True) → (True) → (True) → Q (some (.int (Int32.ofInt 1))) τ)
    : Ok 69 7 54 [.ref 79, .int (Int32.ofInt (x1)), .int (Int32.ofInt 8), .int (Int32.ofInt (x0))] [] σ Q := by
  refine an_seg (B := pm_B) (F := []) (T := []) (S := []) (fun _ h => absurd h List.not_mem_nil) (k := 69) (d := 6) (cs := []) 4 54 2 [(0, 0, 30), (1, 0, 9)] [] [(2, 79, 0), (0, 1, 0), (1, 0, 8), (0, 0, 0)] [] [(9999, [], [(1, 0, 1)], [(0, 0, 30), (1, 0, 9)], [], [], [])] (by decide +kernel) (ρ0 := (fun s => [x0, x1].getD s 0)) hB eF trivial ⟨rfl, ⟨rfl, ⟨rfl, ⟨rfl, trivial⟩⟩⟩⟩ trivial ?_
  refine List.forall_mem_cons.mpr ⟨?_, fun _ h => absurd h List.not_mem_nil⟩
  · intro ρ τ Lc stc hx g1 g2 g3 g4 g5 g6 g7 g8
    have e0 : ρ 0 = x0 := hx 0 (by decide)
    have e1 : ρ 1 = x1 := hx 1 (by decide)
    subst e0
    subst e1
    match stc, g8 with
    | [_], ⟨h, _⟩ => cases h; exact l0 τ ρ g1 g2 g3 g4 g5 g6
set_option maxRecDepth 100000 in
theorem gm_p0 {σ : pm_S} {Q : Option Value → pm_S → Prop} (x0 : Int) (v2 : Value) (hv2 : v2.category = 1) (hB : an_GB pm_B σ) (eF : (0 ≤ x0 ∧ x0 ≤ 9) ∧ True)
    (l0 : ∀ (τ : pm_S) (y : Nat → Int), an_GB pm_B τ → FQ [(93, 55)] σ τ → ((0 ≤ x0 ∧ x0 ≤ 9) ∧ True) → (True) → (True) → ((τ.1 93 55).toInt = 0 ∧ True) → Ok 219 5 5 [.ref 93, .int (Int32.ofInt (x0)), .int (Int32.ofInt 0)] [] τ Q)
    : Ok 219 5 0 [.ref 93, .int (Int32.ofInt (x0)), v2] [] σ Q := by
  refine an_seg (B := pm_B) (F := [(93, 55)]) (T := []) (S := []) (fun _ h => absurd h List.not_mem_nil) (k := 219) (d := 4) (cs := [5]) 7 0 1 [(0, 0, 9)] [] [(2, 93, 0), (0, 0, 0), (5, 0, 0)] [] [(5, [(2, 93, 0), (0, 0, 0), (1, 0, 0)], [], [(0, 0, 9)], [], [], [(93, (1, 0, 55), (1, 0, 0))])] (by decide +kernel) (ρ0 := (fun s => [x0].getD s 0)) hB eF trivial ⟨rfl, ⟨rfl, ⟨hv2, trivial⟩⟩⟩ trivial ?_
  refine List.forall_mem_cons.mpr ⟨?_, fun _ h => absurd h List.not_mem_nil⟩
  · intro ρ τ Lc stc hx g1 g2 g3 g4 g5 g6 g7 g8
    have e0 : ρ 0 = x0 := hx 0 (by decide)
    subst e0
    have g7 := g7 (by decide)
    match Lc, stc, g7, g8 with
    | [v0, v1, v2], [], ⟨hv0, hv1, hv2, _⟩, _ =>
      cases hv0
      cases hv1
      cases hv2
      exact l0 τ ρ  g1 g2 g3 g4 g5 g6
set_option maxRecDepth 100000 in
theorem gm_p5 {σ : pm_S} {Q : Option Value → pm_S → Prop} (x0 x1 x2 : Int)  (hB : an_GB pm_B σ) (eF : (0 ≤ x0 ∧ x0 ≤ 30) ∧ (0 ≤ x1 ∧ x1 ≤ 9) ∧ (0 ≤ x2 ∧ x2 ≤ 30) ∧ True) (eC : (σ.1 93 11).toInt = x2 ∧ True)
    (l0 : ∀ (τ : pm_S) (y : Nat → Int), an_GB pm_B τ → FQ [] σ τ → ((0 ≤ x0 ∧ x0 ≤ 30) ∧ (0 ≤ x1 ∧ x1 ≤ 9) ∧ (0 ≤ x2 ∧ x2 ≤ 30) ∧ True) → (True) → (True) → ((τ.1 93 11).toInt = x2 ∧ True) → Ok 219 5 8 [.ref 93, .int (Int32.ofInt (x1)), .int (Int32.ofInt (x0))] [.int (Int32.ofInt (x2)), .int (Int32.ofInt (x0))] τ Q)
    : Ok 219 5 5 [.ref 93, .int (Int32.ofInt (x1)), .int (Int32.ofInt (x0))] [] σ Q := by
  refine an_seg (B := pm_B) (F := []) (T := []) (S := []) (fun _ h => absurd h List.not_mem_nil) (k := 219) (d := 4) (cs := [8]) 5 5 3 [(0, 0, 30), (1, 0, 9), (2, 0, 30)] [(93, (1, 0, 11), (0, 2, 0))] [(2, 93, 0), (0, 1, 0), (0, 0, 0)] [] [(8, [(2, 93, 0), (0, 1, 0), (0, 0, 0)], [(0, 2, 0), (0, 0, 0)], [(0, 0, 30), (1, 0, 9), (2, 0, 30)], [], [], [(93, (1, 0, 11), (0, 2, 0))])] (by decide +kernel) (ρ0 := (fun s => [x0, x1, x2].getD s 0)) hB eF eC ⟨rfl, ⟨rfl, ⟨rfl, trivial⟩⟩⟩ trivial ?_
  refine List.forall_mem_cons.mpr ⟨?_, fun _ h => absurd h List.not_mem_nil⟩
  · intro ρ τ Lc stc hx g1 g2 g3 g4 g5 g6 g7 g8
    have e0 : ρ 0 = x0 := hx 0 (by decide)
    have e1 : ρ 1 = x1 := hx 1 (by decide)
    have e2 : ρ 2 = x2 := hx 2 (by decide)
    subst e0
    subst e1
    subst e2
    have g7 := g7 (by decide)
    match Lc, stc, g7, g8 with
    | [v0, v1, v2], [w0, w1], ⟨hv0, hv1, hv2, _⟩, ⟨hw0, hw1, _⟩ =>
      cases hv0
      cases hv1
      cases hv2
      cases hw0
      cases hw1
      exact l0 τ ρ  g1 g2 g3 g4 g5 g6
set_option maxRecDepth 100000 in
theorem gm_p9 {σ : pm_S} {Q : Option Value → pm_S → Prop} (x0 x1 x2 x3 : Int)  (hB : an_GB pm_B σ) (eF : (0 ≤ x0 ∧ x0 ≤ 29) ∧ (0 ≤ x1 ∧ x1 ≤ 9) ∧ ((-2147483648) ≤ x2 ∧ x2 ≤ 2147483647) ∧ (0 ≤ x3 ∧ x3 ≤ 9) ∧ True) (eC : (σ.1 107 (x0).toNat).toInt = x2 ∧ (σ.1 101 (x0).toNat).toInt = x3 ∧ True)
    (l0 : ∀ (τ : pm_S) (y : Nat → Int), an_GB pm_B τ → FQ [] σ τ → ((0 ≤ x0 ∧ x0 ≤ 29) ∧ (0 ≤ x1 ∧ x1 ≤ 9) ∧ ((-2147483648) ≤ x2 ∧ x2 ≤ 2147483647) ∧ (0 ≤ x3 ∧ x3 ≤ 9) ∧ True) → (x2 ≠ 0 ∧ True) → (True) → ((τ.1 101 (x0).toNat).toInt = x3 ∧ (τ.1 107 (x0).toNat).toInt = x2 ∧ True) → Ok 219 5 5 [.ref 93, .int (Int32.ofInt (x1)), .int (Int32.ofInt (x0 + 1))] [] τ Q)
    (l1 : ∀ (τ : pm_S) (y : Nat → Int), an_GB pm_B τ → FQ [] σ τ → ((0 ≤ x0 ∧ x0 ≤ 29) ∧ (0 ≤ x1 ∧ x1 ≤ 9) ∧ (0 ≤ x2 ∧ x2 ≤ 0) ∧ (0 ≤ x3 ∧ x3 ≤ 9) ∧ True) → (x1 ≠ (-1) ∧ True) → (True) → ((τ.1 101 (x0).toNat).toInt = x3 ∧ (τ.1 107 (x0).toNat).toInt = x2 ∧ True) → Ok 219 5 21 [.ref 93, .int (Int32.ofInt (x1)), .int (Int32.ofInt (x0))] [.int (Int32.ofInt (x1)), .int (Int32.ofInt (x3))] τ Q)
    : Ok 219 5 9 [.ref 93, .int (Int32.ofInt (x1)), .int (Int32.ofInt (x0))] [] σ Q := by
  refine an_seg (B := pm_B) (F := []) (T := [107, 101]) (S := []) (fun _ h => absurd h List.not_mem_nil) (k := 219) (d := 4) (cs := [21, 5]) 22 9 4 [(0, 0, 29), (1, 0, 9), (2, (-2147483648), 2147483647), (3, 0, 9)] [(107, (0, 0, 0), (0, 2, 0)), (101, (0, 0, 0), (0, 3, 0))] [(2, 93, 0), (0, 1, 0), (0, 0, 0)] [] [(5, [(2, 93, 0), (0, 1, 0), (0, 0, 1)], [], [(0, 0, 29), (1, 0, 9), (2, (-2147483648), 2147483647), (3, 0, 9)], [(3, 2, 2, 0)], [], [(101, (0, 0, 0), (0, 3, 0)), (107, (0, 0, 0), (0, 2, 0))]),
    (21, [(2, 93, 0), (0, 1, 0), (0, 0, 0)], [(0, 1, 0), (0, 3, 0)], [(0, 0, 29), (1, 0, 9), (2, 0, 0), (3, 0, 9)], [(3, 1, 1, (-1))], [], [(101, (0, 0, 0), (0, 3, 0)), (107, (0, 0, 0), (0, 2, 0))])] (by decide +kernel) (ρ0 := (fun s => [x0, x1, x2, x3].getD s 0)) hB eF eC ⟨rfl, ⟨rfl, ⟨rfl, trivial⟩⟩⟩ trivial ?_
  refine List.forall_mem_cons.mpr ⟨?_, List.forall_mem_cons.mpr ⟨?_, fun _ h => absurd h List.not_mem_nil⟩⟩
  · intro ρ τ Lc stc hx g1 g2 g3 g4 g5 g6 g7 g8
    have e0 : ρ 0 = x0 := hx 0 (by decide)
    have e1 : ρ 1 = x1 := hx 1 (by decide)
    have e2 : ρ 2 = x2 := hx 2 (by decide)
    have e3 : ρ 3 = x3 := hx 3 (by decide)
    subst e0
    subst e1
    subst e2
    subst e3
    have g7 := g7 (by decide)
    match Lc, stc, g7, g8 with
    | [v0, v1, v2], [], ⟨hv0, hv1, hv2, _⟩, _ =>
      cases hv0
      cases hv1
      cases hv2
      exact l0 τ ρ  g1 g2 g3 g4 g5 g6
  · intro ρ τ Lc stc hx g1 g2 g3 g4 g5 g6 g7 g8
    have e0 : ρ 0 = x0 := hx 0 (by decide)
    have e1 : ρ 1 = x1 := hx 1 (by decide)
    have e2 : ρ 2 = x2 := hx 2 (by decide)
    have e3 : ρ 3 = x3 := hx 3 (by decide)
    subst e0
    subst e1
    subst e2
    subst e3
    have g7 := g7 (by decide)
    match Lc, stc, g7, g8 with
    | [v0, v1, v2], [w0, w1], ⟨hv0, hv1, hv2, _⟩, ⟨hw0, hw1, _⟩ =>
      cases hv0
      cases hv1
      cases hv2
      cases hw0
      cases hw1
      exact l1 τ ρ  g1 g2 g3 g4 g5 g6
set_option maxRecDepth 100000 in
theorem gm_p22 {σ : pm_S} {Q : Option Value → pm_S → Prop} (x0 x1 : Int)  (hB : an_GB pm_B σ) (eF : (0 ≤ x0 ∧ x0 ≤ 29) ∧ (0 ≤ x1 ∧ x1 ≤ 9) ∧ True)
    (l0 : ∀ (τ : pm_S) (y : Nat → Int), an_GB pm_B τ → FQ [] σ τ → ((0 ≤ x0 ∧ x0 ≤ 29) ∧ (0 ≤ x1 ∧ x1 ≤ 9) ∧ True) → (True) → (True) → (True) → Ok 219 5 5 [.ref 93, .int (Int32.ofInt (x1)), .int (Int32.ofInt (x0 + 1))] [] τ Q)
    : Ok 219 5 22 [.ref 93, .int (Int32.ofInt (x1)), .int (Int32.ofInt (x0))] [] σ Q := by
  refine an_seg (B := pm_B) (F := []) (T := []) (S := []) (fun _ h => absurd h List.not_mem_nil) (k := 219) (d := 4) (cs := [5]) 5 22 2 [(0, 0, 29), (1, 0, 9)] [] [(2, 93, 0), (0, 1, 0), (0, 0, 0)] [] [(5, [(2, 93, 0), (0, 1, 0), (0, 0, 1)], [], [(0, 0, 29), (1, 0, 9)], [], [], [])] (by decide +kernel) (ρ0 := (fun s => [x0, x1].getD s 0)) hB eF trivial ⟨rfl, ⟨rfl, ⟨rfl, trivial⟩⟩⟩ trivial ?_
  refine List.forall_mem_cons.mpr ⟨?_, fun _ h => absurd h List.not_mem_nil⟩
  · intro ρ τ Lc stc hx g1 g2 g3 g4 g5 g6 g7 g8
    have e0 : ρ 0 = x0 := hx 0 (by decide)
    have e1 : ρ 1 = x1 := hx 1 (by decide)
    subst e0
    subst e1
    have g7 := g7 (by decide)
    match Lc, stc, g7, g8 with
    | [v0, v1, v2], [], ⟨hv0, hv1, hv2, _⟩, _ =>
      cases hv0
      cases hv1
      cases hv2
      exact l0 τ ρ  g1 g2 g3 g4 g5 g6
set_option maxRecDepth 100000 in
theorem gm_p23 {σ : pm_S} {Q : Option Value → pm_S → Prop} (x0 x1 x2 : Int)  (hB : an_GB pm_B σ) (eF : (0 ≤ x0 ∧ x0 ≤ 29) ∧ (0 ≤ x1 ∧ x1 ≤ 9) ∧ (0 ≤ x2 ∧ x2 ≤ 29) ∧ True) (eC : (σ.1 93 55).toInt = x2 ∧ True)
    (l0 : ∀ (τ : pm_S) (y : Nat → Int), an_GB pm_B τ → FQ [] σ τ → ((0 ≤ x0 ∧ x0 ≤ 29) ∧ (0 ≤ x1 ∧ x1 ≤ 9) ∧ (0 ≤ x2 ∧ x2 ≤ 29) ∧ True) → (True) → (True) → ((τ.1 93 55).toInt = x2 ∧ True) → Ok 219 5 28 [.ref 93, .int (Int32.ofInt (x1)), .int (Int32.ofInt (x0))] [.int (Int32.ofInt (x0)), .int (Int32.ofInt (x2)), .ref 125] τ Q)
    : Ok 219 5 23 [.ref 93, .int (Int32.ofInt (x1)), .int (Int32.ofInt (x0))] [] σ Q := by
  refine an_seg (B := pm_B) (F := []) (T := []) (S := []) (fun _ h => absurd h List.not_mem_nil) (k := 219) (d := 4) (cs := [28]) 7 23 3 [(0, 0, 29), (1, 0, 9), (2, 0, 29)] [(93, (1, 0, 55), (0, 2, 0))] [(2, 93, 0), (0, 1, 0), (0, 0, 0)] [] [(28, [(2, 93, 0), (0, 1, 0), (0, 0, 0)], [(0, 0, 0), (0, 2, 0), (2, 125, 0)], [(0, 0, 29), (1, 0, 9), (2, 0, 29)], [], [], [(93, (1, 0, 55), (0, 2, 0))])] (by decide +kernel) (ρ0 := (fun s => [x0, x1, x2].getD s 0)) hB eF eC ⟨rfl, ⟨rfl, ⟨rfl, trivial⟩⟩⟩ trivial ?_
  refine List.forall_mem_cons.mpr ⟨?_, fun _ h => absurd h List.not_mem_nil⟩
  · intro ρ τ Lc stc hx g1 g2 g3 g4 g5 g6 g7 g8
    have e0 : ρ 0 = x0 := hx 0 (by decide)
    have e1 : ρ 1 = x1 := hx 1 (by decide)
    have e2 : ρ 2 = x2 := hx 2 (by decide)
    subst e0
    subst e1
    subst e2
    have g7 := g7 (by decide)
    match Lc, stc, g7, g8 with
    | [v0, v1, v2], [w0, w1, w2], ⟨hv0, hv1, hv2, _⟩, ⟨hw0, hw1, hw2, _⟩ =>
      cases hv0
      cases hv1
      cases hv2
      cases hw0
      cases hw1
      cases hw2
      exact l0 τ ρ  g1 g2 g3 g4 g5 g6
set_option maxRecDepth 100000 in
theorem gm_p29 {σ : pm_S} {Q : Option Value → pm_S → Prop} (x0 x1 x2 : Int)  (hB : an_GB pm_B σ) (eF : (0 ≤ x0 ∧ x0 ≤ 29) ∧ (0 ≤ x1 ∧ x1 ≤ 9) ∧ (0 ≤ x2 ∧ x2 ≤ 29) ∧ True) (eC : (σ.1 93 55).toInt = x2 ∧ True)
    (l0 : ∀ (τ : pm_S) (y : Nat → Int), an_GB pm_B τ → FQ [(93, 55)] σ τ → ((0 ≤ x0 ∧ x0 ≤ 29) ∧ (0 ≤ x1 ∧ x1 ≤ 9) ∧ (0 ≤ x2 ∧ x2 ≤ 29) ∧ True) → (True) → (True) → ((τ.1 93 55).toInt = x2 + 1 ∧ True) → Ok 219 5 5 [.ref 93, .int (Int32.ofInt (x1)), .int (Int32.ofInt (x0 + 1))] [] τ Q)
    : Ok 219 5 29 [.ref 93, .int (Int32.ofInt (x1)), .int (Int32.ofInt (x0))] [] σ Q := by
  refine an_seg (B := pm_B) (F := [(93, 55)]) (T := []) (S := []) (fun _ h => absurd h List.not_mem_nil) (k := 219) (d := 4) (cs := [5]) 10 29 3 [(0, 0, 29), (1, 0, 9), (2, 0, 29)] [(93, (1, 0, 55), (0, 2, 0))] [(2, 93, 0), (0, 1, 0), (0, 0, 0)] [] [(5, [(2, 93, 0), (0, 1, 0), (0, 0, 1)], [], [(0, 0, 29), (1, 0, 9), (2, 0, 29)], [], [], [(93, (1, 0, 55), (0, 2, 1))])] (by decide +kernel) (ρ0 := (fun s => [x0, x1, x2].getD s 0)) hB eF eC ⟨rfl, ⟨rfl, ⟨rfl, trivial⟩⟩⟩ trivial ?_
  refine List.forall_mem_cons.mpr ⟨?_, fun _ h => absurd h List.not_mem_nil⟩
  · intro ρ τ Lc stc hx g1 g2 g3 g4 g5 g6 g7 g8
    have e0 : ρ 0 = x0 := hx 0 (by decide)
    have e1 : ρ 1 = x1 := hx 1 (by decide)
    have e2 : ρ 2 = x2 := hx 2 (by decide)
    subst e0
    subst e1
    subst e2
    have g7 := g7 (by decide)
    match Lc, stc, g7, g8 with
    | [v0, v1, v2], [], ⟨hv0, hv1, hv2, _⟩, _ =>
      cases hv0
      cases hv1
      cases hv2
      exact l0 τ ρ  g1 g2 g3 g4 g5 g6
set_option maxRecDepth 100000 in
theorem gm_p37 {σ : pm_S} {Q : Option Value → pm_S → Prop} (x0 x1 : Int)  (hB : an_GB pm_B σ) (eF : (0 ≤ x0 ∧ x0 ≤ 30) ∧ (0 ≤ x1 ∧ x1 ≤ 9) ∧ True)
    (l0 : ∀ (τ : pm_S) (y : Nat → Int), an_GB pm_B τ → FQ [] σ τ → ((0 ≤ x0 ∧ x0 ≤ 30) ∧ (0 ≤ x1 ∧ x1 ≤ 9) ∧ True) → (True) → (True) → (True) → Q none τ)
    : Ok 219 5 37 [.ref 93, .int (Int32.ofInt (x1)), .int (Int32.ofInt (x0))] [] σ Q := by
  refine an_seg (B := pm_B) (F := []) (T := []) (S := []) (fun _ h => absurd h List.not_mem_nil) (k := 219) (d := 4) (cs := []) 3 37 2 [(0, 0, 30), (1, 0, 9)] [] [(2, 93, 0), (0, 1, 0), (0, 0, 0)] [] [(9999, [], [], [(0, 0, 30), (1, 0, 9)], [], [], [])] (by decide +kernel) (ρ0 := (fun s => [x0, x1].getD s 0)) hB eF trivial ⟨rfl, ⟨rfl, ⟨rfl, trivial⟩⟩⟩ trivial ?_
  refine List.forall_mem_cons.mpr ⟨?_, fun _ h => absurd h List.not_mem_nil⟩
  · intro ρ τ Lc stc hx g1 g2 g3 g4 g5 g6 g7 g8
    have e0 : ρ 0 = x0 := hx 0 (by decide)
    have e1 : ρ 1 = x1 := hx 1 (by decide)
    subst e0
    subst e1
    match stc, g8 with
    | [], _ => exact l0 τ ρ g1 g2 g3 g4 g5 g6
def opL (P : Nat → Bool) : Nat → List Nat
  | 0 => []
  | n + 1 => if P n = true then opL P n ++ [n] else opL P n
theorem opL_y {P : Nat → Bool} {n : Nat} (h : P n = true) : opL P (n + 1) = opL P n ++ [n] := if_pos h
theorem opL_n {P : Nat → Bool} {n : Nat} (h : ¬ P n = true) : opL P (n + 1) = opL P n := if_neg h
theorem opL_le (P : Nat → Bool) : ∀ n, (opL P n).length ≤ n
  | 0 => Nat.le_refl _
  | n + 1 => by
    have := opL_le P n
    by_cases h : P n = true
    · rw [opL_y h, List.length_append]
      show _ + 1 ≤ _
      omega
    · rw [opL_n h]
      omega
theorem opL_mono (P : Nat → Bool) (n : Nat) : ∀ k, (opL P n).length ≤ (opL P (n + k)).length
  | 0 => Nat.le_refl _
  | k + 1 => by
    have ih := opL_mono P n k
    show _ ≤ (opL P (n + k + 1)).length
    by_cases h : P (n + k) = true
    · rw [opL_y h, List.length_append]
      omega
    · rw [opL_n h]
      exact ih
theorem opL_m {P : Nat → Bool} : ∀ {n x : Nat}, x ∈ opL P n → x < n ∧ P x = true
  | 0, x, h => absurd h List.not_mem_nil
  | n + 1, x, h => by
    by_cases c : P n = true
    · rw [opL_y c, List.mem_append, List.mem_singleton] at h
      rcases h with h | h
      · exact ⟨Nat.lt_succ_of_lt (opL_m h).1, (opL_m h).2⟩
      · rw [h]
        exact ⟨Nat.lt_succ_self n, c⟩
    · rw [opL_n c] at h
      exact ⟨Nat.lt_succ_of_lt (opL_m h).1, (opL_m h).2⟩
theorem opL_e {P P' : Nat → Bool} : ∀ n, (∀ i, i < n → P i = P' i) → opL P n = opL P' n
  | 0, _ => rfl
  | n + 1, h => by
    show (if P n = true then opL P n ++ [n] else opL P n) = (if P' n = true then opL P' n ++ [n] else opL P' n)
    rw [opL_e n (fun i hi => h i (by omega)), h n (by omega)]
/-- a row that holds a list -/
def gaR (r : Nat → Int32) (l : List Nat) : Prop := ∀ j, j < l.length → (r j).toInt = ((l.getD j 0 : Nat) : Int)
theorem gaR_s {r r' : Nat → Int32} {l : List Nat} {x : Nat} (h : gaR r l) (hx : x ≤ 29) (hr : ∀ j, r' j = if j = l.length then Int32.ofInt (x : Int) else r j) : gaR r' (l ++ [x]) := fun j hj => by
  rw [List.length_append] at hj
  have hj : j < l.length + 1 := hj
  rw [hr j]
  by_cases e : j = l.length
  · rw [if_pos e, ti_of (by omega) (by omega), e, List.getD_eq_getElem?_getD, List.getElem?_append_right (Nat.le_refl _), Nat.sub_self]
    rfl
  · rw [if_neg e, h j (by omega), List.getD_eq_getElem?_getD, List.getD_eq_getElem?_getD, List.getElem?_append_left (by omega)]
abbrev FGa : List (Nat × Nat) := [(79, 2), (80, 9999)]
set_option maxRecDepth 20000 in
theorem x_gal {σ : pm_S} (p : Int) (hp : 0 ≤ p ∧ p ≤ 9) {D : Nat} (hD : D ≤ 30) (eD : sI σ 13 0 = (D : Int)) {P : Nat → Bool} (hP : P = (fun d => decide (σ.1 20 d = 0) && decide (sI σ 14 d = p))) : ∀ (k n : Nat) (τ : pm_S), n + k = D → an_GB pm_B τ → FQ FGa σ τ → (opL P n).length ≤ 8 → sI τ 79 2 = (((opL P n).length : Nat) : Int) → gaR (τ.1 80) (opL P n) → Ok 69 7 5 [.ref 79, .int (Int32.ofInt p), .int (Int32.ofInt 8), .int (Int32.ofInt (n : Int))] [] τ (fun r τ => an_GB pm_B τ ∧ FQ FGa σ τ ∧ (((opL P D).length ≤ 8 ∧ r = some (.int (Int32.ofInt 1)) ∧ sI τ 79 2 = (((opL P D).length : Nat) : Int) ∧ gaR (τ.1 80) (opL P D)) ∨ (9 ≤ (opL P D).length ∧ r = some (.int (Int32.ofInt 0))))) := by
  intro k
  induction k with
  | zero =>
    intro n τ hn hB F hl e2 e80
    refine gc_p5 n p D hB ⟨by omega, hp, by omega, trivial⟩ ⟨(congrArg Int32.toInt (F 13 0 rfl)).trans eD, trivial⟩ ?_
    intro τ1 y1 hB1 F1 _ _ _ _
    refine Ok.ic rfl rfl (by omega) (by omega) (by omega) (by omega) (fun h => ?_) (fun h => ?_)
    · refine gc_p54 n p hB1 ⟨by omega, hp, trivial⟩ ?_
      intro τ2 y2 hB2 F2 _ _ _ _
      have H : FQ [] τ τ2 := FQ.tr F1 F2
      have en : n = D := by omega
      refine ⟨hB2, FQ.tr F (FQ.up (G := []) rfl H), Or.inl ⟨by rw [← en]; exact hl, rfl, ?_, ?_⟩⟩
      · rw [show sI τ2 79 2 = sI τ 79 2 from congrArg Int32.toInt (H 79 2 rfl), e2, en]
      · rw [row_fq H (P := 80) rfl, ← en]
        exact e80
    · have h : (n : Int) < (D : Int) := h
      exfalso
      omega
  | succ k ih =>
    intro n τ hn hB F hl e2 e80
    have en : ((n : Int)).toNat = n := by omega
    refine gc_p5 n p D hB ⟨by omega, hp, by omega, trivial⟩ ⟨(congrArg Int32.toInt (F 13 0 rfl)).trans eD, trivial⟩ ?_
    intro τ1 y1 hB1 F1 _ _ _ _
    refine Ok.ic rfl rfl (by omega) (by omega) (by omega) (by omega) (fun h => ?_) (fun h => ?_)
    · have h : (D : Int) ≤ (n : Int) := h
      exfalso
      omega
    refine gc_p11 n p hB1 ⟨by omega, hp, trivial⟩ ?_
    intro τ2 y2 hB2 F2 _ _ _ _
    have H2 : FQ [] τ τ2 := FQ.tr F1 F2
    have G2 : FQ FGa σ τ2 := FQ.tr F (FQ.up (G := []) rfl H2)
    refine Ok.cv rfl rfl rfl rfl rfl rfl rfl ?_
    refine (x_opD n D hD (by omega) ((congrArg Int32.toInt (G2 13 0 rfl)).trans eD) hB2).use (by decide) (fun r τ3 q => ?_)
    obtain ⟨rfl, hB3, F3⟩ := q
    have H3 : FQ [] τ τ3 := FQ.tr H2 F3
    have G3 : FQ FGa σ τ3 := FQ.tr G2 (FQ.up (G := []) rfl F3)
    rw [show τ2.1 20 n = σ.1 20 n from G2 20 n rfl]
    have e3 : sI τ3 79 2 = (((opL P n).length : Nat) : Int) := (congrArg Int32.toInt (H3 79 2 rfl)).trans e2
    by_cases c : σ.1 20 n = 0
    · have z : b01 (decide (σ.1 20 n = 0)) = .int (Int32.ofInt 1) := by
        rw [decide_eq_true c]
        rfl
      rw [z]
      have bw : 0 ≤ sI τ3 14 n ∧ sI τ3 14 n ≤ 9 := hB3 14 n (show n < 30 by omega)
      have ew : sI τ3 14 n = sI σ 14 n := congrArg Int32.toInt (G3 14 n rfl)
      refine gc_p16 n p (sI τ3 14 n) hB3 ⟨by omega, hp, bw, trivial⟩ ⟨by rw [en], trivial⟩ ?_
      intro τa ya hBa Fa _ _ _ _
      have Ha : FQ [] τ τa := FQ.tr H3 Fa
      refine Ok.ic rfl rfl (by omega) (by omega) (by omega) (by omega) (fun g => ?_) (fun g => ?_)
      · have g : sI τ3 14 n ≠ p := g
        have c' : ¬ P n = true := by
          rw [hP]
          exact (fun z => g (ew.trans (of_decide_eq_true (Bool.and_eq_true_iff.mp z).2)))
        refine gc_p52 n p hBa ⟨by omega, hp, trivial⟩ ?_
        intro τ4 y4 hB4 F4 _ _ _ _
        have H4 : FQ [] τ τ4 := FQ.tr Ha F4
        rw [show (n : Int) + 1 = ((n + 1 : Nat) : Int) by omega]
        refine ih (n + 1) τ4 (by omega) hB4 (FQ.tr F (FQ.up (G := []) rfl H4)) (by rw [opL_n c']; exact hl) ?_ ?_
        · rw [opL_n c']
          exact (congrArg Int32.toInt (H4 79 2 rfl)).trans e2
        · rw [opL_n c', row_fq H4 (P := 80) rfl]
          exact e80
      · have g : sI τ3 14 n = p := g
        have cy : P n = true := by
          rw [hP]
          exact (Bool.and_eq_true_iff.mpr ⟨decide_eq_true c, decide_eq_true (ew.symm.trans g)⟩)
        refine gc_p28 n p (((opL P n).length : Nat) : Int) hBa ⟨by omega, hp, by omega, trivial⟩ ⟨(congrArg Int32.toInt (Ha 79 2 rfl)).trans e2, trivial⟩ ?_ ?_
        · intro τ4 y4 hB4 F4 f4 _ _ _
          have f := f4.2.2.1
          have H4 : FQ [] τ τ4 := FQ.tr Ha F4
          have ln : (opL P (n + 1)).length = (opL P n).length + 1 := by
            rw [opL_y cy, List.length_append]
            rfl
          have mn := opL_mono P (n + 1) k
          rw [show n + 1 + k = D by omega] at mn
          exact ⟨hB4, FQ.tr F (FQ.up (G := []) rfl H4), Or.inr ⟨by omega, rfl⟩⟩
        · intro τ4 y4 hB4 F4 f4 _ _ _
          have f := f4.2.2.1
          have H4 : FQ [] τ τ4 := FQ.tr Ha F4
          have G4 : FQ FGa σ τ4 := FQ.tr F (FQ.up (G := []) rfl H4)
          refine Ok.ast (n := 10) rfl rfl rfl (by decide) (by omega) (by omega) ?_
          have nl : (((opL P n).length : Nat) : Int).toNat = (opL P n).length := by omega
          rw [nl]
          have hB5 : an_GB pm_B (put τ4 80 (opL P n).length (Int32.ofInt (n : Int))) := put_GB hB4 (by
            show (0 : Int) ≤ (Int32.ofInt (n : Int)).toInt ∧ (Int32.ofInt (n : Int)).toInt ≤ 29
            rw [ti_of (by omega) (by omega)]
            omega)
          have F5 : FQ [(80, 9999)] τ4 (put τ4 80 (opL P n).length (Int32.ofInt (n : Int))) := FQ.put rfl
          have v5 : ∀ j, (put τ4 80 (opL P n).length (Int32.ofInt (n : Int))).1 80 j = if j = (opL P n).length then Int32.ofInt (n : Int) else τ4.1 80 j := fun j => by
            rw [put_get]
            by_cases e : j = (opL P n).length
            · rw [if_pos ⟨rfl, e⟩, if_pos e]
            · rw [if_neg (fun z => e z.2), if_neg e]
          generalize put τ4 80 (opL P n).length (Int32.ofInt (n : Int)) = τ5 at hB5 F5 v5 ⊢
          refine gc_p46 n p (((opL P n).length : Nat) : Int) hB5 ⟨by omega, hp, by omega, trivial⟩ ⟨(congrArg Int32.toInt ((F5 79 2 rfl).trans (H4 79 2 rfl))).trans e2, trivial⟩ ?_
          intro τ6 y6 hB6 F6 _ _ _ c6
          rw [show (n : Int) + 1 = ((n + 1 : Nat) : Int) by omega]
          have G6 : FQ FGa σ τ6 := FQ.tr (FQ.tr G4 (FQ.up (G := [(80, 9999)]) rfl F5)) (FQ.up (G := [(79, 2)]) rfl F6)
          have ln : (opL P (n + 1)).length = (opL P n).length + 1 := by
            rw [opL_y cy, List.length_append]
            rfl
          refine ih (n + 1) τ6 (by omega) hB6 G6 (by omega) ?_ ?_
          · rw [ln]
            exact (c6.1).trans (by omega)
          · rw [opL_y cy]
            refine gaR_s e80 (by omega) (fun j => ?_)
            rw [F6 80 j rfl, v5 j, row_fq H4 (P := 80) rfl]
    · have z : b01 (decide (σ.1 20 n = 0)) = .int (Int32.ofInt 0) := by
        rw [decide_eq_false c]
        rfl
      rw [z]
      have c' : ¬ P n = true := by
        rw [hP]
        exact (fun z => c (of_decide_eq_true (Bool.and_eq_true_iff.mp z).1))
      refine gc_p16n n p hB3 ⟨by omega, hp, trivial⟩ ?_
      intro τ4 y4 hB4 F4 _ _ _ _
      have H4 : FQ [] τ τ4 := FQ.tr H3 F4
      rw [show (n : Int) + 1 = ((n + 1 : Nat) : Int) by omega]
      refine ih (n + 1) τ4 (by omega) hB4 (FQ.tr G3 (FQ.up (G := []) rfl F4)) (by rw [opL_n c']; exact hl) ?_ ?_
      · rw [opL_n c']
        exact (congrArg Int32.toInt (H4 79 2 rfl)).trans e2
      · rw [opL_n c', row_fq H4 (P := 80) rfl]
        exact e80
theorem x_gat {σ : pm_S} (p : Int) (hp : 0 ≤ p ∧ p ≤ 9) {D : Nat} (hD : D ≤ 30) (eD : sI σ 13 0 = (D : Int)) {P : Nat → Bool} (hP : P = (fun d => decide (σ.1 20 d = 0) && decide (sI σ 14 d = p))) (hB : an_GB pm_B σ) : Sp 69 7 [.ref 79, .int (Int32.ofInt p), .int (Int32.ofInt 8)] σ (fun r τ => an_GB pm_B τ ∧ FQ FGa σ τ ∧ (((opL P D).length ≤ 8 ∧ r = some (.int (Int32.ofInt 1)) ∧ sI τ 79 2 = (((opL P D).length : Nat) : Int) ∧ gaR (τ.1 80) (opL P D)) ∨ (9 ≤ (opL P D).length ∧ r = some (.int (Int32.ofInt 0))))) := by
  refine Sp.at rfl rfl ?_
  refine gc_p0 p _ rfl hB ⟨hp, trivial⟩ ?_
  intro τ1 y1 hB1 F1 _ _ _ c
  exact x_gal p hp hD eD hP D 0 τ1 (Nat.zero_add _) hB1 (FQ.up (G := [(79, 2)]) rfl F1) (Nat.zero_le _) c.1 (fun j hj => absurd hj (Nat.not_lt_zero _))
abbrev FGm2 : List (Nat × Nat) := [(93, 55), (125, 9999)]
set_option maxRecDepth 20000 in
theorem x_tkg {σ : pm_S} (p : Int) (hp : 0 ≤ p ∧ p ≤ 9) {D : Nat} (hD : D ≤ 30) (eD : sI σ 93 11 = (D : Int)) {P : Nat → Bool} (hP : P = (fun d => decide (σ.1 107 d = 0) && decide (sI σ 101 d = p))) : ∀ (k n : Nat) (τ : pm_S), n + k = D → an_GB pm_B τ → FQ FGm2 σ τ → sI τ 93 55 = (((opL P n).length : Nat) : Int) → gaR (τ.1 125) (opL P n) → Ok 219 5 5 [.ref 93, .int (Int32.ofInt p), .int (Int32.ofInt (n : Int))] [] τ (fun r τ => r = none ∧ an_GB pm_B τ ∧ FQ FGm2 σ τ ∧ cI τ 55 = (((opL P D).length : Nat) : Int) ∧ gaR (τ.1 125) (opL P D)) := by
  intro k
  induction k with
  | zero =>
    intro n τ hn hB F e2 e80
    refine gm_p5 n p D hB ⟨by omega, hp, by omega, trivial⟩ ⟨(congrArg Int32.toInt (F 93 11 rfl)).trans eD, trivial⟩ ?_
    intro τ1 y1 hB1 F1 _ _ _ _
    refine Ok.ic rfl rfl (by omega) (by omega) (by omega) (by omega) (fun h => ?_) (fun h => ?_)
    · refine gm_p37 n p hB1 ⟨by omega, hp, trivial⟩ ?_
      intro τ2 y2 hB2 F2 _ _ _ _
      have H : FQ [] τ τ2 := FQ.tr F1 F2
      have en : n = D := by omega
      refine ⟨rfl, hB2, FQ.tr F (FQ.up (G := []) rfl H), ?_, ?_⟩
      · rw [← en]
        exact (congrArg Int32.toInt (H 93 55 rfl)).trans e2
      · rw [row_fq H (P := 125) rfl, ← en]
        exact e80
    · have h : (n : Int) < (D : Int) := h
      exfalso
      omega
  | succ k ih =>
    intro n τ hn hB F e2 e80
    have en : ((n : Int)).toNat = n := by omega
    have cl := opL_le P n
    refine gm_p5 n p D hB ⟨by omega, hp, by omega, trivial⟩ ⟨(congrArg Int32.toInt (F 93 11 rfl)).trans eD, trivial⟩ ?_
    intro τ1 y1 hB1 F1 _ _ _ _
    refine Ok.ic rfl rfl (by omega) (by omega) (by omega) (by omega) (fun h => ?_) (fun h => ?_)
    · have h : (D : Int) ≤ (n : Int) := h
      exfalso
      omega
    have e7 : sI τ1 107 n = sI σ 107 n := congrArg Int32.toInt ((F1 107 n rfl).trans (F 107 n rfl))
    have bw : 0 ≤ sI τ1 101 n ∧ sI τ1 101 n ≤ 9 := hB1 101 n (show n < 30 by omega)
    have ew : sI τ1 101 n = sI σ 101 n := congrArg Int32.toInt ((F1 101 n rfl).trans (F 101 n rfl))
    have skip : ∀ τ4 : pm_S, an_GB pm_B τ4 → FQ [] τ τ4 → ¬ P n = true → Ok 219 5 5 [.ref 93, .int (Int32.ofInt p), .int (Int32.ofInt ((n : Int) + 1))] [] τ4 (fun r τ => r = none ∧ an_GB pm_B τ ∧ FQ FGm2 σ τ ∧ cI τ 55 = (((opL P D).length : Nat) : Int) ∧ gaR (τ.1 125) (opL P D)) := fun τ4 hB4 H4 c' => by
      rw [show (n : Int) + 1 = ((n + 1 : Nat) : Int) by omega]
      refine ih (n + 1) τ4 (by omega) hB4 (FQ.tr F (FQ.up (G := []) rfl H4)) ?_ ?_
      · rw [opL_n c']
        exact (congrArg Int32.toInt (H4 93 55 rfl)).trans e2
      · rw [opL_n c', row_fq H4 (P := 125) rfl]
        exact e80
    refine gm_p9 n p (sI τ1 107 n) (sI τ1 101 n) hB1 ⟨by omega, hp, ai_rng _, bw, trivial⟩ ⟨by rw [en], by rw [en], trivial⟩ ?_ ?_
    · intro τ2 y2 hB2 F2 _ rl _ _
      have r := rl.1
      refine skip τ2 hB2 (FQ.tr F1 F2) ?_
      rw [hP]
      exact (fun z => r (by rw [e7]; show (σ.1 107 n).toInt = 0; rw [of_decide_eq_true (Bool.and_eq_true_iff.mp z).1]; rfl))
    · intro τ2 y2 hB2 F2 f4 _ _ _
      have f := f4.2.2.1
      have H2 : FQ [] τ τ2 := FQ.tr F1 F2
      refine Ok.ic rfl rfl (by omega) (by omega) (by omega) (by omega) (fun g => ?_) (fun g => ?_)
      · have g : sI τ1 101 n = p := g
        have cy : P n = true := by
          rw [hP]
          refine Bool.and_eq_true_iff.mpr ⟨decide_eq_true (Int32.toInt_inj.mp ?_), decide_eq_true (ew.symm.trans g)⟩
          show sI σ 107 n = 0
          omega
        refine gm_p23 n p (((opL P n).length : Nat) : Int) hB2 ⟨by omega, hp, by omega, trivial⟩ ⟨(congrArg Int32.toInt (H2 93 55 rfl)).trans e2, trivial⟩ ?_
        intro τ4 y4 hB4 F4 _ _ _ _
        have H4 : FQ [] τ τ4 := FQ.tr H2 F4
        have G4 : FQ FGm2 σ τ4 := FQ.tr F (FQ.up (G := []) rfl H4)
        refine Ok.ast (n := 30) rfl rfl rfl (by decide) (by omega) (by omega) ?_
        have nl : (((opL P n).length : Nat) : Int).toNat = (opL P n).length := by omega
        rw [nl]
        have hB5 : an_GB pm_B (put τ4 125 (opL P n).length (Int32.ofInt (n : Int))) := put_GB hB4 (by
          show (0 : Int) ≤ (Int32.ofInt (n : Int)).toInt ∧ (Int32.ofInt (n : Int)).toInt ≤ 29
          rw [ti_of (by omega) (by omega)]
          omega)
        have F5 : FQ [(125, 9999)] τ4 (put τ4 125 (opL P n).length (Int32.ofInt (n : Int))) := FQ.put rfl
        have v5 : ∀ j, (put τ4 125 (opL P n).length (Int32.ofInt (n : Int))).1 125 j = if j = (opL P n).length then Int32.ofInt (n : Int) else τ4.1 125 j := fun j => by
          rw [put_get]
          by_cases e : j = (opL P n).length
          · rw [if_pos ⟨rfl, e⟩, if_pos e]
          · rw [if_neg (fun z => e z.2), if_neg e]
        generalize put τ4 125 (opL P n).length (Int32.ofInt (n : Int)) = τ5 at hB5 F5 v5 ⊢
        refine gm_p29 n p (((opL P n).length : Nat) : Int) hB5 ⟨by omega, hp, by omega, trivial⟩ ⟨(congrArg Int32.toInt ((F5 93 55 rfl).trans (H4 93 55 rfl))).trans e2, trivial⟩ ?_
        intro τ6 y6 hB6 F6 _ _ _ c6
        rw [show (n : Int) + 1 = ((n + 1 : Nat) : Int) by omega]
        have G6 : FQ FGm2 σ τ6 := FQ.tr (FQ.tr G4 (FQ.up (G := [(125, 9999)]) rfl F5)) (FQ.up (G := [(93, 55)]) rfl F6)
        have ln : (opL P (n + 1)).length = (opL P n).length + 1 := by
          rw [opL_y cy, List.length_append]
          rfl
        refine ih (n + 1) τ6 (by omega) hB6 G6 ?_ ?_
        · rw [ln]
          exact (c6.1).trans (by omega)
        · rw [opL_y cy]
          refine gaR_s e80 (by omega) (fun j => ?_)
          rw [F6 125 j rfl, v5 j, row_fq H4 (P := 125) rfl]
      · have g : sI τ1 101 n ≠ p := g
        refine gm_p22 n p hB2 ⟨by omega, hp, trivial⟩ ?_
        intro τ4 y4 hB4 F4 _ _ _ _
        refine skip τ4 hB4 (FQ.tr H2 F4) ?_
        rw [hP]
        exact (fun z => g (ew.trans (of_decide_eq_true (Bool.and_eq_true_iff.mp z).2)))
theorem x_tkO {σ : pm_S} (p : Int) (hp : 0 ≤ p ∧ p ≤ 9) {D : Nat} (hD : D ≤ 30) (eD : sI σ 93 11 = (D : Int)) {P : Nat → Bool} (hP : P = (fun d => decide (σ.1 107 d = 0) && decide (sI σ 101 d = p))) (hB : an_GB pm_B σ) : Sp 219 5 [.ref 93, .int (Int32.ofInt p)] σ (fun r τ => r = none ∧ an_GB pm_B τ ∧ FQ FGm2 σ τ ∧ cI τ 55 = (((opL P D).length : Nat) : Int) ∧ gaR (τ.1 125) (opL P D)) := by
  refine Sp.at rfl rfl ?_
  refine gm_p0 p _ rfl hB ⟨hp, trivial⟩ ?_
  intro τ1 y1 hB1 F1 _ _ _ c
  exact x_tkg p hp hD eD hP D 0 τ1 (Nat.zero_add _) hB1 (FQ.up (G := [(93, 55)]) rfl F1) c.1 (fun j hj => absurd hj (Nat.not_lt_zero _))
