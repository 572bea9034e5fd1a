/-! look: what one is told of the whole, both sides -/
set_option maxRecDepth 100000 in
theorem zk_c0 {σ : pm_S} {Q : Option Value → pm_S → Prop} (v1 : Value) (v2 : Value) (hv1 : v1.category = 1) (hv2 : v2.category = 1) (hB : an_GB pm_B σ)
    (l0 : ∀ (τ : pm_S) (y : Nat → Int), an_GB pm_B τ → FQ [] σ τ → (True) → (True) → (True) → (True) → Ok 5 5 4 [.ref 13, .int (Int32.ofInt 0), .int (Int32.ofInt 0)] [] τ Q)
    : Ok 5 5 0 [.ref 13, v1, v2] [] σ Q := by
  refine an_seg (B := pm_B) (F := []) (T := []) (S := []) (fun _ h => absurd h List.not_mem_nil) (k := 5) (d := 4) (cs := [4]) 6 0 0 [] [] [(2, 13, 0), (5, 0, 0), (5, 0, 0)] [] [(4, [(2, 13, 0), (1, 0, 0), (1, 0, 0)], [], [], [], [], [])] (by decide +kernel) (ρ0 := (fun s => [].getD s 0)) hB trivial trivial ⟨rfl, ⟨hv1, ⟨hv2, trivial⟩⟩⟩ trivial ?_
  refine List.forall_mem_cons.mpr ⟨?_, fun _ h => absurd h List.not_mem_nil⟩
  · intro ρ τ Lc stc hx g1 g2 g3 g4 g5 g6 g7 g8
    have g7 := g7 (by decide)
    match Lc, stc, g7, g8 with
    | [v0, v1, v2], [], ⟨hv0, hv1, hv2, _⟩, _ =>
      cases hv0
      cases hv1
      cases hv2
      exact l0 τ ρ  g1 g2 g3 g4 g5 g6
set_option maxRecDepth 100000 in
theorem zk_c4 {σ : pm_S} {Q : Option Value → pm_S → Prop} (x0 x1 x2 : Int)  (hB : an_GB pm_B σ) (eF : (0 ≤ x0 ∧ x0 ≤ 30) ∧ (0 ≤ x1 ∧ x1 ≤ 30) ∧ (0 ≤ x2 ∧ x2 ≤ 30) ∧ True) (eC : (σ.1 13 0).toInt = x2 ∧ True)
    (l0 : ∀ (τ : pm_S) (y : Nat → Int), an_GB pm_B τ → FQ [] σ τ → ((0 ≤ x0 ∧ x0 ≤ 30) ∧ (0 ≤ x1 ∧ x1 ≤ 30) ∧ (0 ≤ x2 ∧ x2 ≤ 30) ∧ True) → (True) → (True) → ((τ.1 13 0).toInt = x2 ∧ True) → Ok 5 5 7 [.ref 13, .int (Int32.ofInt (x0)), .int (Int32.ofInt (x1))] [.int (Int32.ofInt (x2)), .int (Int32.ofInt (x1))] τ Q)
    : Ok 5 5 4 [.ref 13, .int (Int32.ofInt (x0)), .int (Int32.ofInt (x1))] [] σ Q := by
  refine an_seg (B := pm_B) (F := []) (T := []) (S := []) (fun _ h => absurd h List.not_mem_nil) (k := 5) (d := 4) (cs := [7]) 5 4 3 [(0, 0, 30), (1, 0, 30), (2, 0, 30)] [(13, (1, 0, 0), (0, 2, 0))] [(2, 13, 0), (0, 0, 0), (0, 1, 0)] [] [(7, [(2, 13, 0), (0, 0, 0), (0, 1, 0)], [(0, 2, 0), (0, 1, 0)], [(0, 0, 30), (1, 0, 30), (2, 0, 30)], [], [], [(13, (1, 0, 0), (0, 2, 0))])] (by decide +kernel) (ρ0 := (fun s => [x0, x1, x2].getD s 0)) hB eF eC ⟨rfl, ⟨rfl, ⟨rfl, trivial⟩⟩⟩ trivial ?_
  refine List.forall_mem_cons.mpr ⟨?_, fun _ h => absurd h List.not_mem_nil⟩
  · intro ρ τ Lc stc hx g1 g2 g3 g4 g5 g6 g7 g8
    have e0 : ρ 0 = x0 := hx 0 (by decide)
    have e1 : ρ 1 = x1 := hx 1 (by decide)
    have e2 : ρ 2 = x2 := hx 2 (by decide)
    subst e0
    subst e1
    subst e2
    have g7 := g7 (by decide)
    match Lc, stc, g7, g8 with
    | [v0, v1, v2], [w0, w1], ⟨hv0, hv1, hv2, _⟩, ⟨hw0, hw1, _⟩ =>
      cases hv0
      cases hv1
      cases hv2
      cases hw0
      cases hw1
      exact l0 τ ρ  g1 g2 g3 g4 g5 g6
set_option maxRecDepth 100000 in
theorem zk_c8 {σ : pm_S} {Q : Option Value → pm_S → Prop} (x0 x1 : Int)  (hB : an_GB pm_B σ) (eF : (0 ≤ x0 ∧ x0 ≤ 29) ∧ (0 ≤ x1 ∧ x1 ≤ 29) ∧ True)
    (l0 : ∀ (τ : pm_S) (y : Nat → Int), an_GB pm_B τ → FQ [] σ τ → ((0 ≤ x0 ∧ x0 ≤ 29) ∧ (0 ≤ x1 ∧ x1 ≤ 29) ∧ True) → (True) → (True) → (True) → Ok 5 5 11 [.ref 13, .int (Int32.ofInt (x0)), .int (Int32.ofInt (x1))] [.int (Int32.ofInt (x1)), .ref 13, .int (Int32.ofInt (x0))] τ Q)
    : Ok 5 5 8 [.ref 13, .int (Int32.ofInt (x0)), .int (Int32.ofInt (x1))] [] σ Q := by
  refine an_seg (B := pm_B) (F := []) (T := []) (S := []) (fun _ h => absurd h List.not_mem_nil) (k := 5) (d := 4) (cs := [11]) 5 8 2 [(0, 0, 29), (1, 0, 29)] [] [(2, 13, 0), (0, 0, 0), (0, 1, 0)] [] [(11, [(2, 13, 0), (0, 0, 0), (0, 1, 0)], [(0, 1, 0), (2, 13, 0), (0, 0, 0)], [(0, 0, 29), (1, 0, 29)], [], [], [])] (by decide +kernel) (ρ0 := (fun s => [x0, x1].getD s 0)) hB eF trivial ⟨rfl, ⟨rfl, ⟨rfl, trivial⟩⟩⟩ trivial ?_
  refine List.forall_mem_cons.mpr ⟨?_, fun _ h => absurd h List.not_mem_nil⟩
  · intro ρ τ Lc stc hx g1 g2 g3 g4 g5 g6 g7 g8
    have e0 : ρ 0 = x0 := hx 0 (by decide)
    have e1 : ρ 1 = x1 := hx 1 (by decide)
    subst e0
    subst e1
    have g7 := g7 (by decide)
    match Lc, stc, g7, g8 with
    | [v0, v1, v2], [w0, w1, w2], ⟨hv0, hv1, hv2, _⟩, ⟨hw0, hw1, hw2, _⟩ =>
      cases hv0
      cases hv1
      cases hv2
      cases hw0
      cases hw1
      cases hw2
      exact l0 τ ρ  g1 g2 g3 g4 g5 g6
set_option maxRecDepth 100000 in
theorem zk_c12n {σ : pm_S} {Q : Option Value → pm_S → Prop} (x0 x1 : Int)  (hB : an_GB pm_B σ) (eF : (0 ≤ x0 ∧ x0 ≤ 29) ∧ (0 ≤ x1 ∧ x1 ≤ 29) ∧ True)
    (l0 : ∀ (τ : pm_S) (y : Nat → Int), an_GB pm_B τ → FQ [] σ τ → ((0 ≤ x0 ∧ x0 ≤ 29) ∧ (0 ≤ x1 ∧ x1 ≤ 29) ∧ True) → (True) → (True) → (True) → Ok 5 5 4 [.ref 13, .int (Int32.ofInt (x0)), .int (Int32.ofInt (x1 + 1))] [] τ Q)
    : Ok 5 5 12 [.ref 13, .int (Int32.ofInt (x0)), .int (Int32.ofInt (x1))] [.int (Int32.ofInt 0), .int (Int32.ofInt (x0))] σ Q := by
  refine an_seg (B := pm_B) (F := []) (T := []) (S := []) (fun _ h => absurd h List.not_mem_nil) (k := 5) (d := 4) (cs := [4]) 8 12 2 [(0, 0, 29), (1, 0, 29)] [] [(2, 13, 0), (0, 0, 0), (0, 1, 0)] [(1, 0, 0), (0, 0, 0)] [(4, [(2, 13, 0), (0, 0, 0), (0, 1, 1)], [], [(0, 0, 29), (1, 0, 29)], [], [], [])] (by decide +kernel) (ρ0 := (fun s => [x0, x1].getD s 0)) hB eF trivial ⟨rfl, ⟨rfl, ⟨rfl, trivial⟩⟩⟩ ⟨rfl, ⟨rfl, trivial⟩⟩ ?_
  refine List.forall_mem_cons.mpr ⟨?_, fun _ h => absurd h List.not_mem_nil⟩
  · intro ρ τ Lc stc hx g1 g2 g3 g4 g5 g6 g7 g8
    have e0 : ρ 0 = x0 := hx 0 (by decide)
    have e1 : ρ 1 = x1 := hx 1 (by decide)
    subst e0
    subst e1
    have g7 := g7 (by decide)
    match Lc, stc, g7, g8 with
    | [v0, v1, v2], [], ⟨hv0, hv1, hv2, _⟩, _ =>
      cases hv0
      cases hv1
      cases hv2
      exact l0 τ ρ  g1 g2 g3 g4 g5 g6
set_option maxRecDepth 100000 in
theorem zk_c12 {σ : pm_S} {Q : Option Value → pm_S → Prop} (x0 x1 : Int)  (hB : an_GB pm_B σ) (eF : (0 ≤ x0 ∧ x0 ≤ 29) ∧ (0 ≤ x1 ∧ x1 ≤ 29) ∧ True)
    (l0 : ∀ (τ : pm_S) (y : Nat → Int), an_GB pm_B τ → FQ [] σ τ → ((0 ≤ x0 ∧ x0 ≤ 29) ∧ (0 ≤ x1 ∧ x1 ≤ 29) ∧ True) → (True) → (True) → (True) → Ok 5 5 4 [.ref 13, .int (Int32.ofInt (x0 + 1)), .int (Int32.ofInt (x1 + 1))] [] τ Q)
    : Ok 5 5 12 [.ref 13, .int (Int32.ofInt (x0)), .int (Int32.ofInt (x1))] [.int (Int32.ofInt 1), .int (Int32.ofInt (x0))] σ Q := by
  refine an_seg (B := pm_B) (F := []) (T := []) (S := []) (fun _ h => absurd h List.not_mem_nil) (k := 5) (d := 4) (cs := [4]) 9 12 2 [(0, 0, 29), (1, 0, 29)] [] [(2, 13, 0), (0, 0, 0), (0, 1, 0)] [(1, 0, 1), (0, 0, 0)] [(4, [(2, 13, 0), (0, 0, 1), (0, 1, 1)], [], [(0, 0, 29), (1, 0, 29)], [], [], [])] (by decide +kernel) (ρ0 := (fun s => [x0, x1].getD s 0)) hB eF trivial ⟨rfl, ⟨rfl, ⟨rfl, trivial⟩⟩⟩ ⟨rfl, ⟨rfl, trivial⟩⟩ ?_
  refine List.forall_mem_cons.mpr ⟨?_, fun _ h => absurd h List.not_mem_nil⟩
  · intro ρ τ Lc stc hx g1 g2 g3 g4 g5 g6 g7 g8
    have e0 : ρ 0 = x0 := hx 0 (by decide)
    have e1 : ρ 1 = x1 := hx 1 (by decide)
    subst e0
    subst e1
    have g7 := g7 (by decide)
    match Lc, stc, g7, g8 with
    | [v0, v1, v2], [], ⟨hv0, hv1, hv2, _⟩, _ =>
      cases hv0
      cases hv1
      cases hv2
      exact l0 τ ρ  g1 g2 g3 g4 g5 g6
set_option maxRecDepth 100000 in
theorem zk_c20 {σ : pm_S} {Q : Option Value → pm_S → Prop} (x0 x1 : Int)  (hB : an_GB pm_B σ) (eF : (0 ≤ x0 ∧ x0 ≤ 30) ∧ (0 ≤ x1 ∧ x1 ≤ 30) ∧ True)
    (l0 : ∀ (τ : pm_S) (y : Nat → Int), an_GB pm_B τ → FQ [] σ τ → ((0 ≤ x0 ∧ x0 ≤ 30) ∧ (0 ≤ x1 ∧ x1 ≤ 30) ∧ True) → (True) → (True) → (True) → Q (some (.int (Int32.ofInt (x0)))) τ)
    : Ok 5 5 20 [.ref 13, .int (Int32.ofInt (x0)), .int (Int32.ofInt (x1))] [] σ Q := by
  refine an_seg (B := pm_B) (F := []) (T := []) (S := []) (fun _ h => absurd h List.not_mem_nil) (k := 5) (d := 4) (cs := []) 4 20 2 [(0, 0, 30), (1, 0, 30)] [] [(2, 13, 0), (0, 0, 0), (0, 1, 0)] [] [(9999, [], [(0, 0, 0)], [(0, 0, 30), (1, 0, 30)], [], [], [])] (by decide +kernel) (ρ0 := (fun s => [x0, x1].getD s 0)) hB eF trivial ⟨rfl, ⟨rfl, ⟨rfl, trivial⟩⟩⟩ trivial ?_
  refine List.forall_mem_cons.mpr ⟨?_, fun _ h => absurd h List.not_mem_nil⟩
  · intro ρ τ Lc stc hx g1 g2 g3 g4 g5 g6 g7 g8
    have e0 : ρ 0 = x0 := hx 0 (by decide)
    have e1 : ρ 1 = x1 := hx 1 (by decide)
    subst e0
    subst e1
    match stc, g8 with
    | [_], ⟨h, _⟩ => cases h; exact l0 τ ρ g1 g2 g3 g4 g5 g6
set_option maxRecDepth 100000 in
theorem zk_m0 {σ : pm_S} {Q : Option Value → pm_S → Prop} (v2 : Value) (hv2 : v2.category = 1) (hB : an_GB pm_B σ)
    (l0 : ∀ (τ : pm_S) (y : Nat → Int), an_GB pm_B τ → FQ [(93, 55)] σ τ → (True) → (True) → (True) → ((τ.1 93 55).toInt = 0 ∧ True) → Ok 219 5 5 [.ref 93, .int (Int32.ofInt (-1)), .int (Int32.ofInt 0)] [] τ Q)
    : Ok 219 5 0 [.ref 93, .int (Int32.ofInt (-1)), v2] [] σ Q := by
  refine an_seg (B := pm_B) (F := [(93, 55)]) (T := []) (S := []) (fun _ h => absurd h List.not_mem_nil) (k := 219) (d := 4) (cs := [5]) 7 0 0 [] [] [(2, 93, 0), (1, 0, (-1)), (5, 0, 0)] [] [(5, [(2, 93, 0), (1, 0, (-1)), (1, 0, 0)], [], [], [], [], [(93, (1, 0, 55), (1, 0, 0))])] (by decide +kernel) (ρ0 := (fun s => [].getD s 0)) hB trivial trivial ⟨rfl, ⟨(by exact rfl), ⟨hv2, trivial⟩⟩⟩ trivial ?_
  refine List.forall_mem_cons.mpr ⟨?_, fun _ h => absurd h List.not_mem_nil⟩
  · intro ρ τ Lc stc hx g1 g2 g3 g4 g5 g6 g7 g8
    have g7 := g7 (by decide)
    match Lc, stc, g7, g8 with
    | [v0, v1, v2], [], ⟨hv0, hv1, hv2, _⟩, _ =>
      cases hv0
      cases hv1
      cases hv2
      exact l0 τ ρ  g1 g2 g3 g4 g5 g6
set_option maxRecDepth 100000 in
theorem zk_m5 {σ : pm_S} {Q : Option Value → pm_S → Prop} (x0 x1 : Int)  (hB : an_GB pm_B σ) (eF : (0 ≤ x0 ∧ x0 ≤ 30) ∧ (0 ≤ x1 ∧ x1 ≤ 30) ∧ True) (eC : (σ.1 93 11).toInt = x1 ∧ True)
    (l0 : ∀ (τ : pm_S) (y : Nat → Int), an_GB pm_B τ → FQ [] σ τ → ((0 ≤ x0 ∧ x0 ≤ 30) ∧ (0 ≤ x1 ∧ x1 ≤ 30) ∧ True) → (True) → (True) → ((τ.1 93 11).toInt = x1 ∧ True) → Ok 219 5 8 [.ref 93, .int (Int32.ofInt (-1)), .int (Int32.ofInt (x0))] [.int (Int32.ofInt (x1)), .int (Int32.ofInt (x0))] τ Q)
    : Ok 219 5 5 [.ref 93, .int (Int32.ofInt (-1)), .int (Int32.ofInt (x0))] [] σ Q := by
  refine an_seg (B := pm_B) (F := []) (T := []) (S := []) (fun _ h => absurd h List.not_mem_nil) (k := 219) (d := 4) (cs := [8]) 5 5 2 [(0, 0, 30), (1, 0, 30)] [(93, (1, 0, 11), (0, 1, 0))] [(2, 93, 0), (1, 0, (-1)), (0, 0, 0)] [] [(8, [(2, 93, 0), (1, 0, (-1)), (0, 0, 0)], [(0, 1, 0), (0, 0, 0)], [(0, 0, 30), (1, 0, 30)], [], [], [(93, (1, 0, 11), (0, 1, 0))])] (by decide +kernel) (ρ0 := (fun s => [x0, x1].getD s 0)) hB eF eC ⟨rfl, ⟨(by exact rfl), ⟨rfl, trivial⟩⟩⟩ trivial ?_
  refine List.forall_mem_cons.mpr ⟨?_, fun _ h => absurd h List.not_mem_nil⟩
  · intro ρ τ Lc stc hx g1 g2 g3 g4 g5 g6 g7 g8
    have e0 : ρ 0 = x0 := hx 0 (by decide)
    have e1 : ρ 1 = x1 := hx 1 (by decide)
    subst e0
    subst e1
    have g7 := g7 (by decide)
    match Lc, stc, g7, g8 with
    | [v0, v1, v2], [w0, w1], ⟨hv0, hv1, hv2, _⟩, ⟨hw0, hw1, _⟩ =>
      cases hv0
      cases hv1
      cases hv2
      cases hw0
      cases hw1
      exact l0 τ ρ  g1 g2 g3 g4 g5 g6
set_option maxRecDepth 100000 in
theorem zk_m9 {σ : pm_S} {Q : Option Value → pm_S → Prop} (x0 x1 x2 : Int)  (hB : an_GB pm_B σ) (eF : (0 ≤ x0 ∧ x0 ≤ 29) ∧ ((-2147483648) ≤ x1 ∧ x1 ≤ 2147483647) ∧ (0 ≤ x2 ∧ x2 ≤ 29) ∧ True) (eC : (σ.1 107 (x0).toNat).toInt = x1 ∧ (σ.1 93 55).toInt = x2 ∧ True)
    (l0 : ∀ (τ : pm_S) (y : Nat → Int), an_GB pm_B τ → FQ [(93, 55), (125, 9999)] σ τ → ((0 ≤ x0 ∧ x0 ≤ 29) ∧ ((-2147483648) ≤ x1 ∧ x1 ≤ 2147483647) ∧ (0 ≤ x2 ∧ x2 ≤ 29) ∧ True) → (x1 ≠ 0 ∧ True) → (True) → ((τ.1 93 55).toInt = x2 ∧ True) → Ok 219 5 5 [.ref 93, .int (Int32.ofInt (-1)), .int (Int32.ofInt (x0 + 1))] [] τ Q)
    (l1 : ∀ (τ : pm_S) (y : Nat → Int), an_GB pm_B τ → FQ [(93, 55), (125, 9999)] σ τ → ((0 ≤ x0 ∧ x0 ≤ 29) ∧ (0 ≤ x1 ∧ x1 ≤ 0) ∧ (0 ≤ x2 ∧ x2 ≤ 29) ∧ True) → (True) → (True) → ((τ.1 93 55).toInt = x2 + 1 ∧ True) → Ok 219 5 5 [.ref 93, .int (Int32.ofInt (-1)), .int (Int32.ofInt (x0 + 1))] [] τ Q)
    : Ok 219 5 9 [.ref 93, .int (Int32.ofInt (-1)), .int (Int32.ofInt (x0))] [] σ Q := by
  refine an_seg (B := pm_B) (F := [(93, 55), (125, 9999)]) (T := [107]) (S := []) (fun _ h => absurd h List.not_mem_nil) (k := 219) (d := 4) (cs := [5]) 31 9 3 [(0, 0, 29), (1, (-2147483648), 2147483647), (2, 0, 29)] [(107, (0, 0, 0), (0, 1, 0)), (93, (1, 0, 55), (0, 2, 0))] [(2, 93, 0), (1, 0, (-1)), (0, 0, 0)] [] [(5, [(2, 93, 0), (1, 0, (-1)), (0, 0, 1)], [], [(0, 0, 29), (1, (-2147483648), 2147483647), (2, 0, 29)], [(3, 1, 1, 0)], [], [(93, (1, 0, 55), (0, 2, 0))]),
    (5, [(2, 93, 0), (1, 0, (-1)), (0, 0, 1)], [], [(0, 0, 29), (1, 0, 0), (2, 0, 29)], [], [], [(93, (1, 0, 55), (0, 2, 1))])] (by decide +kernel) (ρ0 := (fun s => [x0, x1, x2].getD s 0)) hB eF eC ⟨rfl, ⟨(by exact rfl), ⟨rfl, trivial⟩⟩⟩ trivial ?_
  refine List.forall_mem_cons.mpr ⟨?_, List.forall_mem_cons.mpr ⟨?_, fun _ h => absurd h List.not_mem_nil⟩⟩
  · intro ρ τ Lc stc hx g1 g2 g3 g4 g5 g6 g7 g8
    have e0 : ρ 0 = x0 := hx 0 (by decide)
    have e1 : ρ 1 = x1 := hx 1 (by decide)
    have e2 : ρ 2 = x2 := hx 2 (by decide)
    subst e0
    subst e1
    subst e2
    have g7 := g7 (by decide)
    match Lc, stc, g7, g8 with
    | [v0, v1, v2], [], ⟨hv0, hv1, hv2, _⟩, _ =>
      cases hv0
      cases hv1
      cases hv2
      exact l0 τ ρ  g1 g2 g3 g4 g5 g6
  · intro ρ τ Lc stc hx g1 g2 g3 g4 g5 g6 g7 g8
    have e0 : ρ 0 = x0 := hx 0 (by decide)
    have e1 : ρ 1 = x1 := hx 1 (by decide)
    have e2 : ρ 2 = x2 := hx 2 (by decide)
    subst e0
    subst e1
    subst e2
    have g7 := g7 (by decide)
    match Lc, stc, g7, g8 with
    | [v0, v1, v2], [], ⟨hv0, hv1, hv2, _⟩, _ =>
      cases hv0
      cases hv1
      cases hv2
      exact l1 τ ρ  g1 g2 g3 g4 g5 g6
set_option maxRecDepth 100000 in
theorem zk_m37 {σ : pm_S} {Q : Option Value → pm_S → Prop} (x0 : Int)  (hB : an_GB pm_B σ) (eF : (0 ≤ x0 ∧ x0 ≤ 30) ∧ True)
    (l0 : ∀ (τ : pm_S) (y : Nat → Int), an_GB pm_B τ → FQ [] σ τ → ((0 ≤ x0 ∧ x0 ≤ 30) ∧ True) → (True) → (True) → (True) → Q none τ)
    : Ok 219 5 37 [.ref 93, .int (Int32.ofInt (-1)), .int (Int32.ofInt (x0))] [] σ Q := by
  refine an_seg (B := pm_B) (F := []) (T := []) (S := []) (fun _ h => absurd h List.not_mem_nil) (k := 219) (d := 4) (cs := []) 3 37 1 [(0, 0, 30)] [] [(2, 93, 0), (1, 0, (-1)), (0, 0, 0)] [] [(9999, [], [], [(0, 0, 30)], [], [], [])] (by decide +kernel) (ρ0 := (fun s => [x0].getD s 0)) hB eF trivial ⟨rfl, ⟨(by exact rfl), ⟨rfl, trivial⟩⟩⟩ trivial ?_
  refine List.forall_mem_cons.mpr ⟨?_, fun _ h => absurd h List.not_mem_nil⟩
  · intro ρ τ Lc stc hx g1 g2 g3 g4 g5 g6 g7 g8
    have e0 : ρ 0 = x0 := hx 0 (by decide)
    subst e0
    match stc, g8 with
    | [], _ => exact l0 τ ρ g1 g2 g3 g4 g5 g6
set_option maxRecDepth 100000 in
theorem zk_la {σ : pm_S} {Q : Option Value → pm_S → Prop} (x0 x1 x2 x3 x4 x5 x6 x7 x8 x9 : Int)  (hB : an_GB pm_B σ) (eF : ((-2147483648) ≤ x0 ∧ x0 ≤ 19) ∧ (0 ≤ x1 ∧ x1 ≤ 10) ∧ (0 ≤ x2 ∧ x2 ≤ 10) ∧ (0 ≤ x3 ∧ x3 ≤ 30) ∧ (0 ≤ x4 ∧ x4 ≤ 9999) ∧ ((-2147483648) ≤ x5 ∧ x5 ≤ 2147483647) ∧ ((-2147483648) ≤ x6 ∧ x6 ≤ 2147483647) ∧ (0 ≤ x7 ∧ x7 ≤ 30) ∧ (0 ≤ x8 ∧ x8 ≤ 16) ∧ (0 ≤ x9 ∧ x9 ≤ 1) ∧ True) (eC : (σ.1 3 0).toInt = x1 ∧ (σ.1 7 0).toInt = x2 ∧ (σ.1 13 0).toInt = x3 ∧ (σ.1 1 1).toInt = x4 ∧ (σ.1 1 2).toInt = x5 ∧ (σ.1 1 0).toInt = x6 ∧ (σ.1 21 0).toInt = x7 ∧ (σ.1 31 0).toInt = x8 ∧ (σ.1 1 3).toInt = x9 ∧ True)
    (l0 : ∀ (τ : pm_S) (y : Nat → Int), an_GB pm_B τ → FQ [] σ τ → (((-2147483648) ≤ x0 ∧ x0 ≤ 19) ∧ (0 ≤ x1 ∧ x1 ≤ 10) ∧ (0 ≤ x2 ∧ x2 ≤ 10) ∧ (0 ≤ x3 ∧ x3 ≤ 30) ∧ (0 ≤ x4 ∧ x4 ≤ 9999) ∧ ((-2147483648) ≤ x5 ∧ x5 ≤ 2147483647) ∧ ((-2147483648) ≤ x6 ∧ x6 ≤ 2147483647) ∧ (0 ≤ x7 ∧ x7 ≤ 30) ∧ (0 ≤ x8 ∧ x8 ≤ 16) ∧ (0 ≤ x9 ∧ x9 ≤ 1) ∧ True) → (x0 ≠ 9 ∧ x0 ≠ 8 ∧ x0 ≠ 7 ∧ x0 ≠ 6 ∧ x0 ≠ 5 ∧ x0 ≠ 4 ∧ x0 ≠ 3 ∧ x0 ≠ 2 ∧ x0 ≠ 1 ∧ x0 ≠ 0 ∧ True) → (True) → ((τ.1 1 0).toInt = x6 ∧ (τ.1 1 1).toInt = x4 ∧ (τ.1 1 2).toInt = x5 ∧ (τ.1 1 3).toInt = x9 ∧ (τ.1 3 0).toInt = x1 ∧ (τ.1 7 0).toInt = x2 ∧ (τ.1 13 0).toInt = x3 ∧ (τ.1 21 0).toInt = x7 ∧ (τ.1 31 0).toInt = x8 ∧ True) → Q (some (.int (Int32.ofInt (-1)))) τ)
    (l1 : ∀ (τ : pm_S) (y : Nat → Int), an_GB pm_B τ → FQ [] σ τ → ((9 ≤ x0 ∧ x0 ≤ 9) ∧ (0 ≤ x1 ∧ x1 ≤ 10) ∧ (0 ≤ x2 ∧ x2 ≤ 10) ∧ (0 ≤ x3 ∧ x3 ≤ 30) ∧ (0 ≤ x4 ∧ x4 ≤ 9999) ∧ ((-2147483648) ≤ x5 ∧ x5 ≤ 2147483647) ∧ ((-2147483648) ≤ x6 ∧ x6 ≤ 2147483647) ∧ (0 ≤ x7 ∧ x7 ≤ 30) ∧ (0 ≤ x8 ∧ x8 ≤ 16) ∧ (0 ≤ x9 ∧ x9 ≤ 0) ∧ True) → (x0 ≠ 8 ∧ x0 ≠ 7 ∧ x0 ≠ 6 ∧ x0 ≠ 5 ∧ x0 ≠ 4 ∧ x0 ≠ 3 ∧ x0 ≠ 2 ∧ x0 ≠ 1 ∧ x0 ≠ 0 ∧ True) → (True) → ((τ.1 1 0).toInt = x6 ∧ (τ.1 1 1).toInt = x4 ∧ (τ.1 1 2).toInt = x5 ∧ (τ.1 1 3).toInt = x9 ∧ (τ.1 3 0).toInt = x1 ∧ (τ.1 7 0).toInt = x2 ∧ (τ.1 13 0).toInt = x3 ∧ (τ.1 21 0).toInt = x7 ∧ (τ.1 31 0).toInt = x8 ∧ True) → Q (some (.int (Int32.ofInt 0))) τ)
    (l2 : ∀ (τ : pm_S) (y : Nat → Int), an_GB pm_B τ → FQ [] σ τ → ((9 ≤ x0 ∧ x0 ≤ 9) ∧ (0 ≤ x1 ∧ x1 ≤ 10) ∧ (0 ≤ x2 ∧ x2 ≤ 10) ∧ (0 ≤ x3 ∧ x3 ≤ 30) ∧ (0 ≤ x4 ∧ x4 ≤ 9999) ∧ ((-2147483648) ≤ x5 ∧ x5 ≤ 2147483647) ∧ ((-2147483648) ≤ x6 ∧ x6 ≤ 2147483647) ∧ (0 ≤ x7 ∧ x7 ≤ 30) ∧ (0 ≤ x8 ∧ x8 ≤ 16) ∧ (1 ≤ x9 ∧ x9 ≤ 1) ∧ True) → (x0 ≠ 8 ∧ x0 ≠ 7 ∧ x0 ≠ 6 ∧ x0 ≠ 5 ∧ x0 ≠ 4 ∧ x0 ≠ 3 ∧ x0 ≠ 2 ∧ x0 ≠ 1 ∧ x0 ≠ 0 ∧ True) → (True) → ((τ.1 1 0).toInt = x6 ∧ (τ.1 1 1).toInt = x4 ∧ (τ.1 1 2).toInt = x5 ∧ (τ.1 1 3).toInt = x9 ∧ (τ.1 3 0).toInt = x1 ∧ (τ.1 7 0).toInt = x2 ∧ (τ.1 13 0).toInt = x3 ∧ (τ.1 21 0).toInt = x7 ∧ (τ.1 31 0).toInt = x8 ∧ True) → Q (some (.int (Int32.ofInt 1))) τ)
    (l3 : ∀ (τ : pm_S) (y : Nat → Int), an_GB pm_B τ → FQ [] σ τ → ((8 ≤ x0 ∧ x0 ≤ 8) ∧ (0 ≤ x1 ∧ x1 ≤ 10) ∧ (0 ≤ x2 ∧ x2 ≤ 10) ∧ (0 ≤ x3 ∧ x3 ≤ 30) ∧ (0 ≤ x4 ∧ x4 ≤ 9999) ∧ ((-2147483648) ≤ x5 ∧ x5 ≤ 2147483647) ∧ ((-2147483648) ≤ x6 ∧ x6 ≤ 2147483647) ∧ (0 ≤ x7 ∧ x7 ≤ 30) ∧ (0 ≤ x8 ∧ x8 ≤ 16) ∧ (0 ≤ x9 ∧ x9 ≤ 1) ∧ True) → (x0 ≠ 7 ∧ x0 ≠ 6 ∧ x0 ≠ 5 ∧ x0 ≠ 4 ∧ x0 ≠ 3 ∧ x0 ≠ 2 ∧ x0 ≠ 1 ∧ x0 ≠ 0 ∧ True) → (True) → ((τ.1 1 0).toInt = x6 ∧ (τ.1 1 1).toInt = x4 ∧ (τ.1 1 2).toInt = x5 ∧ (τ.1 1 3).toInt = x9 ∧ (τ.1 3 0).toInt = x1 ∧ (τ.1 7 0).toInt = x2 ∧ (τ.1 13 0).toInt = x3 ∧ (τ.1 21 0).toInt = x7 ∧ (τ.1 31 0).toInt = x8 ∧ True) → Q (some (.int (Int32.ofInt (x8)))) τ)
    (l4 : ∀ (τ : pm_S) (y : Nat → Int), an_GB pm_B τ → FQ [] σ τ → ((7 ≤ x0 ∧ x0 ≤ 7) ∧ (0 ≤ x1 ∧ x1 ≤ 10) ∧ (0 ≤ x2 ∧ x2 ≤ 10) ∧ (0 ≤ x3 ∧ x3 ≤ 30) ∧ (0 ≤ x4 ∧ x4 ≤ 9999) ∧ ((-2147483648) ≤ x5 ∧ x5 ≤ 2147483647) ∧ ((-2147483648) ≤ x6 ∧ x6 ≤ 2147483647) ∧ (0 ≤ x7 ∧ x7 ≤ 30) ∧ (0 ≤ x8 ∧ x8 ≤ 16) ∧ (0 ≤ x9 ∧ x9 ≤ 1) ∧ True) → (x0 ≠ 6 ∧ x0 ≠ 5 ∧ x0 ≠ 4 ∧ x0 ≠ 3 ∧ x0 ≠ 2 ∧ x0 ≠ 1 ∧ x0 ≠ 0 ∧ True) → (True) → ((τ.1 1 0).toInt = x6 ∧ (τ.1 1 1).toInt = x4 ∧ (τ.1 1 2).toInt = x5 ∧ (τ.1 1 3).toInt = x9 ∧ (τ.1 3 0).toInt = x1 ∧ (τ.1 7 0).toInt = x2 ∧ (τ.1 13 0).toInt = x3 ∧ (τ.1 21 0).toInt = x7 ∧ (τ.1 31 0).toInt = x8 ∧ True) → Q (some (.int (Int32.ofInt (x7)))) τ)
    (l5 : ∀ (τ : pm_S) (y : Nat → Int), an_GB pm_B τ → FQ [] σ τ → ((6 ≤ x0 ∧ x0 ≤ 6) ∧ (0 ≤ x1 ∧ x1 ≤ 10) ∧ (0 ≤ x2 ∧ x2 ≤ 10) ∧ (0 ≤ x3 ∧ x3 ≤ 30) ∧ (0 ≤ x4 ∧ x4 ≤ 9999) ∧ ((-2147483648) ≤ x5 ∧ x5 ≤ 2147483647) ∧ ((-2147483648) ≤ x6 ∧ x6 ≤ 2147483647) ∧ (0 ≤ x7 ∧ x7 ≤ 30) ∧ (0 ≤ x8 ∧ x8 ≤ 16) ∧ (0 ≤ x9 ∧ x9 ≤ 1) ∧ True) → (x0 ≠ 5 ∧ x0 ≠ 4 ∧ x0 ≠ 3 ∧ x0 ≠ 2 ∧ x0 ≠ 1 ∧ x0 ≠ 0 ∧ True) → (True) → ((τ.1 1 0).toInt = x6 ∧ (τ.1 1 1).toInt = x4 ∧ (τ.1 1 2).toInt = x5 ∧ (τ.1 1 3).toInt = x9 ∧ (τ.1 3 0).toInt = x1 ∧ (τ.1 7 0).toInt = x2 ∧ (τ.1 13 0).toInt = x3 ∧ (τ.1 21 0).toInt = x7 ∧ (τ.1 31 0).toInt = x8 ∧ True) → Q (some (.int (Int32.ofInt (x6)))) τ)
    (l6 : ∀ (τ : pm_S) (y : Nat → Int), an_GB pm_B τ → FQ [] σ τ → ((5 ≤ x0 ∧ x0 ≤ 5) ∧ (0 ≤ x1 ∧ x1 ≤ 10) ∧ (0 ≤ x2 ∧ x2 ≤ 10) ∧ (0 ≤ x3 ∧ x3 ≤ 30) ∧ (0 ≤ x4 ∧ x4 ≤ 9999) ∧ ((-2147483648) ≤ x5 ∧ x5 ≤ 2147483647) ∧ ((-2147483648) ≤ x6 ∧ x6 ≤ 2147483647) ∧ (0 ≤ x7 ∧ x7 ≤ 30) ∧ (0 ≤ x8 ∧ x8 ≤ 16) ∧ (0 ≤ x9 ∧ x9 ≤ 1) ∧ True) → (x0 ≠ 4 ∧ x0 ≠ 3 ∧ x0 ≠ 2 ∧ x0 ≠ 1 ∧ x0 ≠ 0 ∧ True) → (True) → ((τ.1 1 0).toInt = x6 ∧ (τ.1 1 1).toInt = x4 ∧ (τ.1 1 2).toInt = x5 ∧ (τ.1 1 3).toInt = x9 ∧ (τ.1 3 0).toInt = x1 ∧ (τ.1 7 0).toInt = x2 ∧ (τ.1 13 0).toInt = x3 ∧ (τ.1 21 0).toInt = x7 ∧ (τ.1 31 0).toInt = x8 ∧ True) → Q (some (.int (Int32.ofInt (x5)))) τ)
    (l7 : ∀ (τ : pm_S) (y : Nat → Int), an_GB pm_B τ → FQ [] σ τ → ((4 ≤ x0 ∧ x0 ≤ 4) ∧ (0 ≤ x1 ∧ x1 ≤ 10) ∧ (0 ≤ x2 ∧ x2 ≤ 10) ∧ (0 ≤ x3 ∧ x3 ≤ 30) ∧ (0 ≤ x4 ∧ x4 ≤ 9999) ∧ ((-2147483648) ≤ x5 ∧ x5 ≤ 2147483647) ∧ ((-2147483648) ≤ x6 ∧ x6 ≤ 2147483647) ∧ (0 ≤ x7 ∧ x7 ≤ 30) ∧ (0 ≤ x8 ∧ x8 ≤ 16) ∧ (0 ≤ x9 ∧ x9 ≤ 1) ∧ True) → (x0 ≠ 3 ∧ x0 ≠ 2 ∧ x0 ≠ 1 ∧ x0 ≠ 0 ∧ True) → (True) → ((τ.1 1 0).toInt = x6 ∧ (τ.1 1 1).toInt = x4 ∧ (τ.1 1 2).toInt = x5 ∧ (τ.1 1 3).toInt = x9 ∧ (τ.1 3 0).toInt = x1 ∧ (τ.1 7 0).toInt = x2 ∧ (τ.1 13 0).toInt = x3 ∧ (τ.1 21 0).toInt = x7 ∧ (τ.1 31 0).toInt = x8 ∧ True) → Q (some (.int (Int32.ofInt (x4)))) τ)
    (l8 : ∀ (τ : pm_S) (y : Nat → Int), an_GB pm_B τ → FQ [] σ τ → ((3 ≤ x0 ∧ x0 ≤ 3) ∧ (0 ≤ x1 ∧ x1 ≤ 10) ∧ (0 ≤ x2 ∧ x2 ≤ 10) ∧ (0 ≤ x3 ∧ x3 ≤ 30) ∧ (0 ≤ x4 ∧ x4 ≤ 9999) ∧ ((-2147483648) ≤ x5 ∧ x5 ≤ 2147483647) ∧ ((-2147483648) ≤ x6 ∧ x6 ≤ 2147483647) ∧ (0 ≤ x7 ∧ x7 ≤ 30) ∧ (0 ≤ x8 ∧ x8 ≤ 16) ∧ (0 ≤ x9 ∧ x9 ≤ 1) ∧ True) → (x0 ≠ 2 ∧ x0 ≠ 1 ∧ x0 ≠ 0 ∧ True) → (True) → ((τ.1 1 0).toInt = x6 ∧ (τ.1 1 1).toInt = x4 ∧ (τ.1 1 2).toInt = x5 ∧ (τ.1 1 3).toInt = x9 ∧ (τ.1 3 0).toInt = x1 ∧ (τ.1 7 0).toInt = x2 ∧ (τ.1 13 0).toInt = x3 ∧ (τ.1 21 0).toInt = x7 ∧ (τ.1 31 0).toInt = x8 ∧ True) → Ok 152 22 20 [.ref 0, .int (Int32.ofInt (x0))] [.ref 13] τ Q)
    (l9 : ∀ (τ : pm_S) (y : Nat → Int), an_GB pm_B τ → FQ [] σ τ → ((2 ≤ x0 ∧ x0 ≤ 2) ∧ (0 ≤ x1 ∧ x1 ≤ 10) ∧ (0 ≤ x2 ∧ x2 ≤ 10) ∧ (0 ≤ x3 ∧ x3 ≤ 30) ∧ (0 ≤ x4 ∧ x4 ≤ 9999) ∧ ((-2147483648) ≤ x5 ∧ x5 ≤ 2147483647) ∧ ((-2147483648) ≤ x6 ∧ x6 ≤ 2147483647) ∧ (0 ≤ x7 ∧ x7 ≤ 30) ∧ (0 ≤ x8 ∧ x8 ≤ 16) ∧ (0 ≤ x9 ∧ x9 ≤ 1) ∧ True) → (x0 ≠ 1 ∧ x0 ≠ 0 ∧ True) → (True) → ((τ.1 1 0).toInt = x6 ∧ (τ.1 1 1).toInt = x4 ∧ (τ.1 1 2).toInt = x5 ∧ (τ.1 1 3).toInt = x9 ∧ (τ.1 3 0).toInt = x1 ∧ (τ.1 7 0).toInt = x2 ∧ (τ.1 13 0).toInt = x3 ∧ (τ.1 21 0).toInt = x7 ∧ (τ.1 31 0).toInt = x8 ∧ True) → Q (some (.int (Int32.ofInt (x3)))) τ)
    (l10 : ∀ (τ : pm_S) (y : Nat → Int), an_GB pm_B τ → FQ [] σ τ → ((1 ≤ x0 ∧ x0 ≤ 1) ∧ (0 ≤ x1 ∧ x1 ≤ 10) ∧ (0 ≤ x2 ∧ x2 ≤ 10) ∧ (0 ≤ x3 ∧ x3 ≤ 30) ∧ (0 ≤ x4 ∧ x4 ≤ 9999) ∧ ((-2147483648) ≤ x5 ∧ x5 ≤ 2147483647) ∧ ((-2147483648) ≤ x6 ∧ x6 ≤ 2147483647) ∧ (0 ≤ x7 ∧ x7 ≤ 30) ∧ (0 ≤ x8 ∧ x8 ≤ 16) ∧ (0 ≤ x9 ∧ x9 ≤ 1) ∧ True) → (x0 ≠ 0 ∧ True) → (True) → ((τ.1 1 0).toInt = x6 ∧ (τ.1 1 1).toInt = x4 ∧ (τ.1 1 2).toInt = x5 ∧ (τ.1 1 3).toInt = x9 ∧ (τ.1 3 0).toInt = x1 ∧ (τ.1 7 0).toInt = x2 ∧ (τ.1 13 0).toInt = x3 ∧ (τ.1 21 0).toInt = x7 ∧ (τ.1 31 0).toInt = x8 ∧ True) → Q (some (.int (Int32.ofInt (x2)))) τ)
    (l11 : ∀ (τ : pm_S) (y : Nat → Int), an_GB pm_B τ → FQ [] σ τ → ((0 ≤ x0 ∧ x0 ≤ 0) ∧ (0 ≤ x1 ∧ x1 ≤ 10) ∧ (0 ≤ x2 ∧ x2 ≤ 10) ∧ (0 ≤ x3 ∧ x3 ≤ 30) ∧ (0 ≤ x4 ∧ x4 ≤ 9999) ∧ ((-2147483648) ≤ x5 ∧ x5 ≤ 2147483647) ∧ ((-2147483648) ≤ x6 ∧ x6 ≤ 2147483647) ∧ (0 ≤ x7 ∧ x7 ≤ 30) ∧ (0 ≤ x8 ∧ x8 ≤ 16) ∧ (0 ≤ x9 ∧ x9 ≤ 1) ∧ True) → (True) → (True) → ((τ.1 1 0).toInt = x6 ∧ (τ.1 1 1).toInt = x4 ∧ (τ.1 1 2).toInt = x5 ∧ (τ.1 1 3).toInt = x9 ∧ (τ.1 3 0).toInt = x1 ∧ (τ.1 7 0).toInt = x2 ∧ (τ.1 13 0).toInt = x3 ∧ (τ.1 21 0).toInt = x7 ∧ (τ.1 31 0).toInt = x8 ∧ True) → Q (some (.int (Int32.ofInt (x1)))) τ)
    : Ok 152 22 0 [.ref 0, .int (Int32.ofInt (x0))] [] σ Q := by
  refine an_seg (B := pm_B) (F := []) (T := []) (S := []) (fun _ h => absurd h List.not_mem_nil) (k := 152) (d := 21) (cs := [20]) 13 0 10 [(0, (-2147483648), 19), (1, 0, 10), (2, 0, 10), (3, 0, 30), (4, 0, 9999), (5, (-2147483648), 2147483647), (6, (-2147483648), 2147483647), (7, 0, 30), (8, 0, 16), (9, 0, 1)] [(3, (1, 0, 0), (0, 1, 0)), (7, (1, 0, 0), (0, 2, 0)), (13, (1, 0, 0), (0, 3, 0)), (1, (1, 0, 1), (0, 4, 0)), (1, (1, 0, 2), (0, 5, 0)), (1, (1, 0, 0), (0, 6, 0)), (21, (1, 0, 0), (0, 7, 0)), (31, (1, 0, 0), (0, 8, 0)), (1, (1, 0, 3), (0, 9, 0))] [(2, 0, 0), (0, 0, 0)] [] [(9999, [], [(1, 0, (-1))], [(0, (-2147483648), 19), (1, 0, 10), (2, 0, 10), (3, 0, 30), (4, 0, 9999), (5, (-2147483648), 2147483647), (6, (-2147483648), 2147483647), (7, 0, 30), (8, 0, 16), (9, 0, 1)], [(3, 0, 0, 9), (3, 0, 0, 8), (3, 0, 0, 7), (3, 0, 0, 6), (3, 0, 0, 5), (3, 0, 0, 4), (3, 0, 0, 3), (3, 0, 0, 2), (3, 0, 0, 1), (3, 0, 0, 0)], [], [(1, (1, 0, 0), (0, 6, 0)), (1, (1, 0, 1), (0, 4, 0)), (1, (1, 0, 2), (0, 5, 0)), (1, (1, 0, 3), (0, 9, 0)), (3, (1, 0, 0), (0, 1, 0)), (7, (1, 0, 0), (0, 2, 0)), (13, (1, 0, 0), (0, 3, 0)), (21, (1, 0, 0), (0, 7, 0)), (31, (1, 0, 0), (0, 8, 0))]),
    (9999, [], [(1, 0, 0)], [(0, 9, 9), (1, 0, 10), (2, 0, 10), (3, 0, 30), (4, 0, 9999), (5, (-2147483648), 2147483647), (6, (-2147483648), 2147483647), (7, 0, 30), (8, 0, 16), (9, 0, 0)], [(3, 0, 0, 8), (3, 0, 0, 7), (3, 0, 0, 6), (3, 0, 0, 5), (3, 0, 0, 4), (3, 0, 0, 3), (3, 0, 0, 2), (3, 0, 0, 1), (3, 0, 0, 0)], [], [(1, (1, 0, 0), (0, 6, 0)), (1, (1, 0, 1), (0, 4, 0)), (1, (1, 0, 2), (0, 5, 0)), (1, (1, 0, 3), (0, 9, 0)), (3, (1, 0, 0), (0, 1, 0)), (7, (1, 0, 0), (0, 2, 0)), (13, (1, 0, 0), (0, 3, 0)), (21, (1, 0, 0), (0, 7, 0)), (31, (1, 0, 0), (0, 8, 0))]),
    (9999, [], [(1, 0, 1)], [(0, 9, 9), (1, 0, 10), (2, 0, 10), (3, 0, 30), (4, 0, 9999), (5, (-2147483648), 2147483647), (6, (-2147483648), 2147483647), (7, 0, 30), (8, 0, 16), (9, 1, 1)], [(3, 0, 0, 8), (3, 0, 0, 7), (3, 0, 0, 6), (3, 0, 0, 5), (3, 0, 0, 4), (3, 0, 0, 3), (3, 0, 0, 2), (3, 0, 0, 1), (3, 0, 0, 0)], [], [(1, (1, 0, 0), (0, 6, 0)), (1, (1, 0, 1), (0, 4, 0)), (1, (1, 0, 2), (0, 5, 0)), (1, (1, 0, 3), (0, 9, 0)), (3, (1, 0, 0), (0, 1, 0)), (7, (1, 0, 0), (0, 2, 0)), (13, (1, 0, 0), (0, 3, 0)), (21, (1, 0, 0), (0, 7, 0)), (31, (1, 0, 0), (0, 8, 0))]),
    (9999, [], [(0, 8, 0)], [(0, 8, 8), (1, 0, 10), (2, 0, 10), (3, 0, 30), (4, 0, 9999), (5, (-2147483648), 2147483647), (6, (-2147483648), 2147483647), (7, 0, 30), (8, 0, 16), (9, 0, 1)], [(3, 0, 0, 7), (3, 0, 0, 6), (3, 0, 0, 5), (3, 0, 0, 4), (3, 0, 0, 3), (3, 0, 0, 2), (3, 0, 0, 1), (3, 0, 0, 0)], [], [(1, (1, 0, 0), (0, 6, 0)), (1, (1, 0, 1), (0, 4, 0)), (1, (1, 0, 2), (0, 5, 0)), (1, (1, 0, 3), (0, 9, 0)), (3, (1, 0, 0), (0, 1, 0)), (7, (1, 0, 0), (0, 2, 0)), (13, (1, 0, 0), (0, 3, 0)), (21, (1, 0, 0), (0, 7, 0)), (31, (1, 0, 0), (0, 8, 0))]),
    (9999, [], [(0, 7, 0)], [(0, 7, 7), (1, 0, 10), (2, 0, 10), (3, 0, 30), (4, 0, 9999), (5, (-2147483648), 2147483647), (6, (-2147483648), 2147483647), (7, 0, 30), (8, 0, 16), (9, 0, 1)], [(3, 0, 0, 6), (3, 0, 0, 5), (3, 0, 0, 4), (3, 0, 0, 3), (3, 0, 0, 2), (3, 0, 0, 1), (3, 0, 0, 0)], [], [(1, (1, 0, 0), (0, 6, 0)), (1, (1, 0, 1), (0, 4, 0)), (1, (1, 0, 2), (0, 5, 0)), (1, (1, 0, 3), (0, 9, 0)), (3, (1, 0, 0), (0, 1, 0)), (7, (1, 0, 0), (0, 2, 0)), (13, (1, 0, 0), (0, 3, 0)), (21, (1, 0, 0), (0, 7, 0)), (31, (1, 0, 0), (0, 8, 0))]),
    (9999, [], [(0, 6, 0)], [(0, 6, 6), (1, 0, 10), (2, 0, 10), (3, 0, 30), (4, 0, 9999), (5, (-2147483648), 2147483647), (6, (-2147483648), 2147483647), (7, 0, 30), (8, 0, 16), (9, 0, 1)], [(3, 0, 0, 5), (3, 0, 0, 4), (3, 0, 0, 3), (3, 0, 0, 2), (3, 0, 0, 1), (3, 0, 0, 0)], [], [(1, (1, 0, 0), (0, 6, 0)), (1, (1, 0, 1), (0, 4, 0)), (1, (1, 0, 2), (0, 5, 0)), (1, (1, 0, 3), (0, 9, 0)), (3, (1, 0, 0), (0, 1, 0)), (7, (1, 0, 0), (0, 2, 0)), (13, (1, 0, 0), (0, 3, 0)), (21, (1, 0, 0), (0, 7, 0)), (31, (1, 0, 0), (0, 8, 0))]),
    (9999, [], [(0, 5, 0)], [(0, 5, 5), (1, 0, 10), (2, 0, 10), (3, 0, 30), (4, 0, 9999), (5, (-2147483648), 2147483647), (6, (-2147483648), 2147483647), (7, 0, 30), (8, 0, 16), (9, 0, 1)], [(3, 0, 0, 4), (3, 0, 0, 3), (3, 0, 0, 2), (3, 0, 0, 1), (3, 0, 0, 0)], [], [(1, (1, 0, 0), (0, 6, 0)), (1, (1, 0, 1), (0, 4, 0)), (1, (1, 0, 2), (0, 5, 0)), (1, (1, 0, 3), (0, 9, 0)), (3, (1, 0, 0), (0, 1, 0)), (7, (1, 0, 0), (0, 2, 0)), (13, (1, 0, 0), (0, 3, 0)), (21, (1, 0, 0), (0, 7, 0)), (31, (1, 0, 0), (0, 8, 0))]),
    (9999, [], [(0, 4, 0)], [(0, 4, 4), (1, 0, 10), (2, 0, 10), (3, 0, 30), (4, 0, 9999), (5, (-2147483648), 2147483647), (6, (-2147483648), 2147483647), (7, 0, 30), (8, 0, 16), (9, 0, 1)], [(3, 0, 0, 3), (3, 0, 0, 2), (3, 0, 0, 1), (3, 0, 0, 0)], [], [(1, (1, 0, 0), (0, 6, 0)), (1, (1, 0, 1), (0, 4, 0)), (1, (1, 0, 2), (0, 5, 0)), (1, (1, 0, 3), (0, 9, 0)), (3, (1, 0, 0), (0, 1, 0)), (7, (1, 0, 0), (0, 2, 0)), (13, (1, 0, 0), (0, 3, 0)), (21, (1, 0, 0), (0, 7, 0)), (31, (1, 0, 0), (0, 8, 0))]),
    (20, [(2, 0, 0), (0, 0, 0)], [(2, 13, 0)], [(0, 3, 3), (1, 0, 10), (2, 0, 10), (3, 0, 30), (4, 0, 9999), (5, (-2147483648), 2147483647), (6, (-2147483648), 2147483647), (7, 0, 30), (8, 0, 16), (9, 0, 1)], [(3, 0, 0, 2), (3, 0, 0, 1), (3, 0, 0, 0)], [], [(1, (1, 0, 0), (0, 6, 0)), (1, (1, 0, 1), (0, 4, 0)), (1, (1, 0, 2), (0, 5, 0)), (1, (1, 0, 3), (0, 9, 0)), (3, (1, 0, 0), (0, 1, 0)), (7, (1, 0, 0), (0, 2, 0)), (13, (1, 0, 0), (0, 3, 0)), (21, (1, 0, 0), (0, 7, 0)), (31, (1, 0, 0), (0, 8, 0))]),
    (9999, [], [(0, 3, 0)], [(0, 2, 2), (1, 0, 10), (2, 0, 10), (3, 0, 30), (4, 0, 9999), (5, (-2147483648), 2147483647), (6, (-2147483648), 2147483647), (7, 0, 30), (8, 0, 16), (9, 0, 1)], [(3, 0, 0, 1), (3, 0, 0, 0)], [], [(1, (1, 0, 0), (0, 6, 0)), (1, (1, 0, 1), (0, 4, 0)), (1, (1, 0, 2), (0, 5, 0)), (1, (1, 0, 3), (0, 9, 0)), (3, (1, 0, 0), (0, 1, 0)), (7, (1, 0, 0), (0, 2, 0)), (13, (1, 0, 0), (0, 3, 0)), (21, (1, 0, 0), (0, 7, 0)), (31, (1, 0, 0), (0, 8, 0))]),
    (9999, [], [(0, 2, 0)], [(0, 1, 1), (1, 0, 10), (2, 0, 10), (3, 0, 30), (4, 0, 9999), (5, (-2147483648), 2147483647), (6, (-2147483648), 2147483647), (7, 0, 30), (8, 0, 16), (9, 0, 1)], [(3, 0, 0, 0)], [], [(1, (1, 0, 0), (0, 6, 0)), (1, (1, 0, 1), (0, 4, 0)), (1, (1, 0, 2), (0, 5, 0)), (1, (1, 0, 3), (0, 9, 0)), (3, (1, 0, 0), (0, 1, 0)), (7, (1, 0, 0), (0, 2, 0)), (13, (1, 0, 0), (0, 3, 0)), (21, (1, 0, 0), (0, 7, 0)), (31, (1, 0, 0), (0, 8, 0))]),
    (9999, [], [(0, 1, 0)], [(0, 0, 0), (1, 0, 10), (2, 0, 10), (3, 0, 30), (4, 0, 9999), (5, (-2147483648), 2147483647), (6, (-2147483648), 2147483647), (7, 0, 30), (8, 0, 16), (9, 0, 1)], [], [], [(1, (1, 0, 0), (0, 6, 0)), (1, (1, 0, 1), (0, 4, 0)), (1, (1, 0, 2), (0, 5, 0)), (1, (1, 0, 3), (0, 9, 0)), (3, (1, 0, 0), (0, 1, 0)), (7, (1, 0, 0), (0, 2, 0)), (13, (1, 0, 0), (0, 3, 0)), (21, (1, 0, 0), (0, 7, 0)), (31, (1, 0, 0), (0, 8, 0))])] (by decide +kernel) (ρ0 := (fun s => [x0, x1, x2, x3, x4, x5, x6, x7, x8, x9].getD s 0)) hB eF eC ⟨rfl, ⟨rfl, trivial⟩⟩ trivial ?_
  refine List.forall_mem_cons.mpr ⟨?_, List.forall_mem_cons.mpr ⟨?_, List.forall_mem_cons.mpr ⟨?_, List.forall_mem_cons.mpr ⟨?_, List.forall_mem_cons.mpr ⟨?_, List.forall_mem_cons.mpr ⟨?_, List.forall_mem_cons.mpr ⟨?_, List.forall_mem_cons.mpr ⟨?_, List.forall_mem_cons.mpr ⟨?_, List.forall_mem_cons.mpr ⟨?_, List.forall_mem_cons.mpr ⟨?_, List.forall_mem_cons.mpr ⟨?_, fun _ h => absurd h List.not_mem_nil⟩⟩⟩⟩⟩⟩⟩⟩⟩⟩⟩⟩
  · intro ρ τ Lc stc hx g1 g2 g3 g4 g5 g6 g7 g8
    have e0 : ρ 0 = x0 := hx 0 (by decide)
    have e1 : ρ 1 = x1 := hx 1 (by decide)
    have e2 : ρ 2 = x2 := hx 2 (by decide)
    have e3 : ρ 3 = x3 := hx 3 (by decide)
    have e4 : ρ 4 = x4 := hx 4 (by decide)
    have e5 : ρ 5 = x5 := hx 5 (by decide)
    have e6 : ρ 6 = x6 := hx 6 (by decide)
    have e7 : ρ 7 = x7 := hx 7 (by decide)
    have e8 : ρ 8 = x8 := hx 8 (by decide)
    have e9 : ρ 9 = x9 := hx 9 (by decide)
    subst e0
    subst e1
    subst e2
    subst e3
    subst e4
    subst e5
    subst e6
    subst e7
    subst e8
    subst e9
    match stc, g8 with
    | [_], ⟨h, _⟩ => cases h; exact l0 τ ρ g1 g2 g3 g4 g5 g6
  · intro ρ τ Lc stc hx g1 g2 g3 g4 g5 g6 g7 g8
    have e0 : ρ 0 = x0 := hx 0 (by decide)
    have e1 : ρ 1 = x1 := hx 1 (by decide)
    have e2 : ρ 2 = x2 := hx 2 (by decide)
    have e3 : ρ 3 = x3 := hx 3 (by decide)
    have e4 : ρ 4 = x4 := hx 4 (by decide)
    have e5 : ρ 5 = x5 := hx 5 (by decide)
    have e6 : ρ 6 = x6 := hx 6 (by decide)
    have e7 : ρ 7 = x7 := hx 7 (by decide)
    have e8 : ρ 8 = x8 := hx 8 (by decide)
    have e9 : ρ 9 = x9 := hx 9 (by decide)
    subst e0
    subst e1
    subst e2
    subst e3
    subst e4
    subst e5
    subst e6
    subst e7
    subst e8
    subst e9
    match stc, g8 with
    | [_], ⟨h, _⟩ => cases h; exact l1 τ ρ g1 g2 g3 g4 g5 g6
  · intro ρ τ Lc stc hx g1 g2 g3 g4 g5 g6 g7 g8
    have e0 : ρ 0 = x0 := hx 0 (by decide)
    have e1 : ρ 1 = x1 := hx 1 (by decide)
    have e2 : ρ 2 = x2 := hx 2 (by decide)
    have e3 : ρ 3 = x3 := hx 3 (by decide)
    have e4 : ρ 4 = x4 := hx 4 (by decide)
    have e5 : ρ 5 = x5 := hx 5 (by decide)
    have e6 : ρ 6 = x6 := hx 6 (by decide)
    have e7 : ρ 7 = x7 := hx 7 (by decide)
    have e8 : ρ 8 = x8 := hx 8 (by decide)
    have e9 : ρ 9 = x9 := hx 9 (by decide)
    subst e0
    subst e1
    subst e2
    subst e3
    subst e4
    subst e5
    subst e6
    subst e7
    subst e8
    subst e9
    match stc, g8 with
    | [_], ⟨h, _⟩ => cases h; exact l2 τ ρ g1 g2 g3 g4 g5 g6
  · intro ρ τ Lc stc hx g1 g2 g3 g4 g5 g6 g7 g8
    have e0 : ρ 0 = x0 := hx 0 (by decide)
    have e1 : ρ 1 = x1 := hx 1 (by decide)
    have e2 : ρ 2 = x2 := hx 2 (by decide)
    have e3 : ρ 3 = x3 := hx 3 (by decide)
    have e4 : ρ 4 = x4 := hx 4 (by decide)
    have e5 : ρ 5 = x5 := hx 5 (by decide)
    have e6 : ρ 6 = x6 := hx 6 (by decide)
    have e7 : ρ 7 = x7 := hx 7 (by decide)
    have e8 : ρ 8 = x8 := hx 8 (by decide)
    have e9 : ρ 9 = x9 := hx 9 (by decide)
    subst e0
    subst e1
    subst e2
    subst e3
    subst e4
    subst e5
    subst e6
    subst e7
    subst e8
    subst e9
    match stc, g8 with
    | [_], ⟨h, _⟩ => cases h; exact l3 τ ρ g1 g2 g3 g4 g5 g6
  · intro ρ τ Lc stc hx g1 g2 g3 g4 g5 g6 g7 g8
    have e0 : ρ 0 = x0 := hx 0 (by decide)
    have e1 : ρ 1 = x1 := hx 1 (by decide)
    have e2 : ρ 2 = x2 := hx 2 (by decide)
    have e3 : ρ 3 = x3 := hx 3 (by decide)
    have e4 : ρ 4 = x4 := hx 4 (by decide)
    have e5 : ρ 5 = x5 := hx 5 (by decide)
    have e6 : ρ 6 = x6 := hx 6 (by decide)
    have e7 : ρ 7 = x7 := hx 7 (by decide)
    have e8 : ρ 8 = x8 := hx 8 (by decide)
    have e9 : ρ 9 = x9 := hx 9 (by decide)
    subst e0
    subst e1
    subst e2
    subst e3
    subst e4
    subst e5
    subst e6
    subst e7
    subst e8
    subst e9
    match stc, g8 with
    | [_], ⟨h, _⟩ => cases h; exact l4 τ ρ g1 g2 g3 g4 g5 g6
  · intro ρ τ Lc stc hx g1 g2 g3 g4 g5 g6 g7 g8
    have e0 : ρ 0 = x0 := hx 0 (by decide)
    have e1 : ρ 1 = x1 := hx 1 (by decide)
    have e2 : ρ 2 = x2 := hx 2 (by decide)
    have e3 : ρ 3 = x3 := hx 3 (by decide)
    have e4 : ρ 4 = x4 := hx 4 (by decide)
    have e5 : ρ 5 = x5 := hx 5 (by decide)
    have e6 : ρ 6 = x6 := hx 6 (by decide)
    have e7 : ρ 7 = x7 := hx 7 (by decide)
    have e8 : ρ 8 = x8 := hx 8 (by decide)
    have e9 : ρ 9 = x9 := hx 9 (by decide)
    subst e0
    subst e1
    subst e2
    subst e3
    subst e4
    subst e5
    subst e6
    subst e7
    subst e8
    subst e9
    match stc, g8 with
    | [_], ⟨h, _⟩ => cases h; exact l5 τ ρ g1 g2 g3 g4 g5 g6
  · intro ρ τ Lc stc hx g1 g2 g3 g4 g5 g6 g7 g8
    have e0 : ρ 0 = x0 := hx 0 (by decide)
    have e1 : ρ 1 = x1 := hx 1 (by decide)
    have e2 : ρ 2 = x2 := hx 2 (by decide)
    have e3 : ρ 3 = x3 := hx 3 (by decide)
    have e4 : ρ 4 = x4 := hx 4 (by decide)
    have e5 : ρ 5 = x5 := hx 5 (by decide)
    have e6 : ρ 6 = x6 := hx 6 (by decide)
    have e7 : ρ 7 = x7 := hx 7 (by decide)
    have e8 : ρ 8 = x8 := hx 8 (by decide)
    have e9 : ρ 9 = x9 := hx 9 (by decide)
    subst e0
    subst e1
    subst e2
    subst e3
    subst e4
    subst e5
    subst e6
    subst e7
    subst e8
    subst e9
    match stc, g8 with
    | [_], ⟨h, _⟩ => cases h; exact l6 τ ρ g1 g2 g3 g4 g5 g6
  · intro ρ τ Lc stc hx g1 g2 g3 g4 g5 g6 g7 g8
    have e0 : ρ 0 = x0 := hx 0 (by decide)
    have e1 : ρ 1 = x1 := hx 1 (by decide)
    have e2 : ρ 2 = x2 := hx 2 (by decide)
    have e3 : ρ 3 = x3 := hx 3 (by decide)
    have e4 : ρ 4 = x4 := hx 4 (by decide)
    have e5 : ρ 5 = x5 := hx 5 (by decide)
    have e6 : ρ 6 = x6 := hx 6 (by decide)
    have e7 : ρ 7 = x7 := hx 7 (by decide)
    have e8 : ρ 8 = x8 := hx 8 (by decide)
    have e9 : ρ 9 = x9 := hx 9 (by decide)
    subst e0
    subst e1
    subst e2
    subst e3
    subst e4
    subst e5
    subst e6
    subst e7
    subst e8
    subst e9
    match stc, g8 with
    | [_], ⟨h, _⟩ => cases h; exact l7 τ ρ g1 g2 g3 g4 g5 g6
  · intro ρ τ Lc stc hx g1 g2 g3 g4 g5 g6 g7 g8
    have e0 : ρ 0 = x0 := hx 0 (by decide)
    have e1 : ρ 1 = x1 := hx 1 (by decide)
    have e2 : ρ 2 = x2 := hx 2 (by decide)
    have e3 : ρ 3 = x3 := hx 3 (by decide)
    have e4 : ρ 4 = x4 := hx 4 (by decide)
    have e5 : ρ 5 = x5 := hx 5 (by decide)
    have e6 : ρ 6 = x6 := hx 6 (by decide)
    have e7 : ρ 7 = x7 := hx 7 (by decide)
    have e8 : ρ 8 = x8 := hx 8 (by decide)
    have e9 : ρ 9 = x9 := hx 9 (by decide)
    subst e0
    subst e1
    subst e2
    subst e3
    subst e4
    subst e5
    subst e6
    subst e7
    subst e8
    subst e9
    have g7 := g7 (by decide)
    match Lc, stc, g7, g8 with
    | [v0, v1], [w0], ⟨hv0, hv1, _⟩, ⟨hw0, _⟩ =>
      cases hv0
      cases hv1
      cases hw0
      exact l8 τ ρ  g1 g2 g3 g4 g5 g6
  · intro ρ τ Lc stc hx g1 g2 g3 g4 g5 g6 g7 g8
    have e0 : ρ 0 = x0 := hx 0 (by decide)
    have e1 : ρ 1 = x1 := hx 1 (by decide)
    have e2 : ρ 2 = x2 := hx 2 (by decide)
    have e3 : ρ 3 = x3 := hx 3 (by decide)
    have e4 : ρ 4 = x4 := hx 4 (by decide)
    have e5 : ρ 5 = x5 := hx 5 (by decide)
    have e6 : ρ 6 = x6 := hx 6 (by decide)
    have e7 : ρ 7 = x7 := hx 7 (by decide)
    have e8 : ρ 8 = x8 := hx 8 (by decide)
    have e9 : ρ 9 = x9 := hx 9 (by decide)
    subst e0
    subst e1
    subst e2
    subst e3
    subst e4
    subst e5
    subst e6
    subst e7
    subst e8
    subst e9
    match stc, g8 with
    | [_], ⟨h, _⟩ => cases h; exact l9 τ ρ g1 g2 g3 g4 g5 g6
  · intro ρ τ Lc stc hx g1 g2 g3 g4 g5 g6 g7 g8
    have e0 : ρ 0 = x0 := hx 0 (by decide)
    have e1 : ρ 1 = x1 := hx 1 (by decide)
    have e2 : ρ 2 = x2 := hx 2 (by decide)
    have e3 : ρ 3 = x3 := hx 3 (by decide)
    have e4 : ρ 4 = x4 := hx 4 (by decide)
    have e5 : ρ 5 = x5 := hx 5 (by decide)
    have e6 : ρ 6 = x6 := hx 6 (by decide)
    have e7 : ρ 7 = x7 := hx 7 (by decide)
    have e8 : ρ 8 = x8 := hx 8 (by decide)
    have e9 : ρ 9 = x9 := hx 9 (by decide)
    subst e0
    subst e1
    subst e2
    subst e3
    subst e4
    subst e5
    subst e6
    subst e7
    subst e8
    subst e9
    match stc, g8 with
    | [_], ⟨h, _⟩ => cases h; exact l10 τ ρ g1 g2 g3 g4 g5 g6
  · intro ρ τ Lc stc hx g1 g2 g3 g4 g5 g6 g7 g8
    have e0 : ρ 0 = x0 := hx 0 (by decide)
    have e1 : ρ 1 = x1 := hx 1 (by decide)
    have e2 : ρ 2 = x2 := hx 2 (by decide)
    have e3 : ρ 3 = x3 := hx 3 (by decide)
    have e4 : ρ 4 = x4 := hx 4 (by decide)
    have e5 : ρ 5 = x5 := hx 5 (by decide)
    have e6 : ρ 6 = x6 := hx 6 (by decide)
    have e7 : ρ 7 = x7 := hx 7 (by decide)
    have e8 : ρ 8 = x8 := hx 8 (by decide)
    have e9 : ρ 9 = x9 := hx 9 (by decide)
    subst e0
    subst e1
    subst e2
    subst e3
    subst e4
    subst e5
    subst e6
    subst e7
    subst e8
    subst e9
    match stc, g8 with
    | [_], ⟨h, _⟩ => cases h; exact l11 τ ρ g1 g2 g3 g4 g5 g6
set_option maxRecDepth 100000 in
theorem zk_lp {σ : pm_S} {Q : Option Value → pm_S → Prop} (x0 x1 x2 x3 x4 x5 x6 x7 x8 x9 : Int)  (hB : an_GB pm_B σ) (eF : (24 ≤ x0 ∧ x0 ≤ 2147483647) ∧ (0 ≤ x1 ∧ x1 ≤ 10) ∧ (0 ≤ x2 ∧ x2 ≤ 10) ∧ (0 ≤ x3 ∧ x3 ≤ 30) ∧ (0 ≤ x4 ∧ x4 ≤ 9999) ∧ ((-2147483648) ≤ x5 ∧ x5 ≤ 2147483647) ∧ ((-2147483648) ≤ x6 ∧ x6 ≤ 2147483647) ∧ (0 ≤ x7 ∧ x7 ≤ 30) ∧ (0 ≤ x8 ∧ x8 ≤ 16) ∧ (0 ≤ x9 ∧ x9 ≤ 1) ∧ True) (eC : (σ.1 3 0).toInt = x1 ∧ (σ.1 7 0).toInt = x2 ∧ (σ.1 13 0).toInt = x3 ∧ (σ.1 1 1).toInt = x4 ∧ (σ.1 1 2).toInt = x5 ∧ (σ.1 1 0).toInt = x6 ∧ (σ.1 21 0).toInt = x7 ∧ (σ.1 31 0).toInt = x8 ∧ (σ.1 1 3).toInt = x9 ∧ True)
    (l0 : ∀ (τ : pm_S) (y : Nat → Int), an_GB pm_B τ → FQ [] σ τ → ((24 ≤ x0 ∧ x0 ≤ 2147483647) ∧ (0 ≤ x1 ∧ x1 ≤ 10) ∧ (0 ≤ x2 ∧ x2 ≤ 10) ∧ (0 ≤ x3 ∧ x3 ≤ 30) ∧ (0 ≤ x4 ∧ x4 ≤ 9999) ∧ ((-2147483648) ≤ x5 ∧ x5 ≤ 2147483647) ∧ ((-2147483648) ≤ x6 ∧ x6 ≤ 2147483647) ∧ (0 ≤ x7 ∧ x7 ≤ 30) ∧ (0 ≤ x8 ∧ x8 ≤ 16) ∧ (0 ≤ x9 ∧ x9 ≤ 1) ∧ True) → (x0 ≠ 9 ∧ x0 ≠ 8 ∧ x0 ≠ 7 ∧ x0 ≠ 6 ∧ x0 ≠ 5 ∧ x0 ≠ 4 ∧ x0 ≠ 3 ∧ x0 ≠ 2 ∧ x0 ≠ 1 ∧ x0 ≠ 0 ∧ True) → (True) → ((τ.1 1 0).toInt = x6 ∧ (τ.1 1 1).toInt = x4 ∧ (τ.1 1 2).toInt = x5 ∧ (τ.1 1 3).toInt = x9 ∧ (τ.1 3 0).toInt = x1 ∧ (τ.1 7 0).toInt = x2 ∧ (τ.1 13 0).toInt = x3 ∧ (τ.1 21 0).toInt = x7 ∧ (τ.1 31 0).toInt = x8 ∧ True) → Q (some (.int (Int32.ofInt (-1)))) τ)
    : Ok 152 22 0 [.ref 0, .int (Int32.ofInt (x0))] [] σ Q := by
  refine an_seg (B := pm_B) (F := []) (T := []) (S := []) (fun _ h => absurd h List.not_mem_nil) (k := 152) (d := 21) (cs := [20]) 16 0 10 [(0, 24, 2147483647), (1, 0, 10), (2, 0, 10), (3, 0, 30), (4, 0, 9999), (5, (-2147483648), 2147483647), (6, (-2147483648), 2147483647), (7, 0, 30), (8, 0, 16), (9, 0, 1)] [(3, (1, 0, 0), (0, 1, 0)), (7, (1, 0, 0), (0, 2, 0)), (13, (1, 0, 0), (0, 3, 0)), (1, (1, 0, 1), (0, 4, 0)), (1, (1, 0, 2), (0, 5, 0)), (1, (1, 0, 0), (0, 6, 0)), (21, (1, 0, 0), (0, 7, 0)), (31, (1, 0, 0), (0, 8, 0)), (1, (1, 0, 3), (0, 9, 0))] [(2, 0, 0), (0, 0, 0)] [] [(9999, [], [(1, 0, (-1))], [(0, 24, 2147483647), (1, 0, 10), (2, 0, 10), (3, 0, 30), (4, 0, 9999), (5, (-2147483648), 2147483647), (6, (-2147483648), 2147483647), (7, 0, 30), (8, 0, 16), (9, 0, 1)], [(3, 0, 0, 9), (3, 0, 0, 8), (3, 0, 0, 7), (3, 0, 0, 6), (3, 0, 0, 5), (3, 0, 0, 4), (3, 0, 0, 3), (3, 0, 0, 2), (3, 0, 0, 1), (3, 0, 0, 0)], [], [(1, (1, 0, 0), (0, 6, 0)), (1, (1, 0, 1), (0, 4, 0)), (1, (1, 0, 2), (0, 5, 0)), (1, (1, 0, 3), (0, 9, 0)), (3, (1, 0, 0), (0, 1, 0)), (7, (1, 0, 0), (0, 2, 0)), (13, (1, 0, 0), (0, 3, 0)), (21, (1, 0, 0), (0, 7, 0)), (31, (1, 0, 0), (0, 8, 0))])] (by decide +kernel) (ρ0 := (fun s => [x0, x1, x2, x3, x4, x5, x6, x7, x8, x9].getD s 0)) hB eF eC ⟨rfl, ⟨rfl, trivial⟩⟩ trivial ?_
  refine List.forall_mem_cons.mpr ⟨?_, fun _ h => absurd h List.not_mem_nil⟩
  · intro ρ τ Lc stc hx g1 g2 g3 g4 g5 g6 g7 g8
    have e0 : ρ 0 = x0 := hx 0 (by decide)
    have e1 : ρ 1 = x1 := hx 1 (by decide)
    have e2 : ρ 2 = x2 := hx 2 (by decide)
    have e3 : ρ 3 = x3 := hx 3 (by decide)
    have e4 : ρ 4 = x4 := hx 4 (by decide)
    have e5 : ρ 5 = x5 := hx 5 (by decide)
    have e6 : ρ 6 = x6 := hx 6 (by decide)
    have e7 : ρ 7 = x7 := hx 7 (by decide)
    have e8 : ρ 8 = x8 := hx 8 (by decide)
    have e9 : ρ 9 = x9 := hx 9 (by decide)
    subst e0
    subst e1
    subst e2
    subst e3
    subst e4
    subst e5
    subst e6
    subst e7
    subst e8
    subst e9
    match stc, g8 with
    | [_], ⟨h, _⟩ => cases h; exact l0 τ ρ g1 g2 g3 g4 g5 g6
set_option maxRecDepth 100000 in
theorem zk_l0 {σ : pm_S} {Q : Option Value → pm_S → Prop} (x0 : Int)  (hB : an_GB pm_B σ) (eF : (0 ≤ x0 ∧ x0 ≤ 100) ∧ True) (eC : (σ.1 2 0).toInt = x0 ∧ True)
    (l0 : ∀ (τ : pm_S) (y : Nat → Int), an_GB pm_B τ → FQ [] σ τ → ((0 ≤ x0 ∧ x0 ≤ 100) ∧ True) → (True) → (True) → ((τ.1 2 0).toInt = x0 ∧ True) → Q (some (.int (Int32.ofInt (x0)))) τ)
    : Ok 152 22 0 [.ref 0, .int (Int32.ofInt 20)] [] σ Q := by
  refine an_seg (B := pm_B) (F := []) (T := [2]) (S := []) (fun _ h => absurd h List.not_mem_nil) (k := 152) (d := 21) (cs := [20]) 22 0 1 [(0, 0, 100)] [(2, (1, 0, 0), (0, 0, 0))] [(2, 0, 0), (1, 0, 20)] [] [(9999, [], [(0, 0, 0)], [(0, 0, 100)], [], [], [(2, (1, 0, 0), (0, 0, 0))])] (by decide +kernel) (ρ0 := (fun s => [x0].getD s 0)) hB eF eC ⟨rfl, ⟨rfl, trivial⟩⟩ trivial ?_
  refine List.forall_mem_cons.mpr ⟨?_, fun _ h => absurd h List.not_mem_nil⟩
  · intro ρ τ Lc stc hx g1 g2 g3 g4 g5 g6 g7 g8
    have e0 : ρ 0 = x0 := hx 0 (by decide)
    subst e0
    match stc, g8 with
    | [_], ⟨h, _⟩ => cases h; exact l0 τ ρ g1 g2 g3 g4 g5 g6
set_option maxRecDepth 100000 in
theorem zk_l1 {σ : pm_S} {Q : Option Value → pm_S → Prop} (x0 : Int)  (hB : an_GB pm_B σ) (eF : (0 ≤ x0 ∧ x0 ≤ 99) ∧ True) (eC : (σ.1 2 1).toInt = x0 ∧ True)
    (l0 : ∀ (τ : pm_S) (y : Nat → Int), an_GB pm_B τ → FQ [] σ τ → ((0 ≤ x0 ∧ x0 ≤ 99) ∧ True) → (True) → (True) → ((τ.1 2 1).toInt = x0 ∧ True) → Q (some (.int (Int32.ofInt (x0)))) τ)
    : Ok 152 22 0 [.ref 0, .int (Int32.ofInt 21)] [] σ Q := by
  refine an_seg (B := pm_B) (F := []) (T := [2]) (S := []) (fun _ h => absurd h List.not_mem_nil) (k := 152) (d := 21) (cs := [20]) 22 0 1 [(0, 0, 99)] [(2, (1, 0, 1), (0, 0, 0))] [(2, 0, 0), (1, 0, 21)] [] [(9999, [], [(0, 0, 0)], [(0, 0, 99)], [], [], [(2, (1, 0, 1), (0, 0, 0))])] (by decide +kernel) (ρ0 := (fun s => [x0].getD s 0)) hB eF eC ⟨rfl, ⟨rfl, trivial⟩⟩ trivial ?_
  refine List.forall_mem_cons.mpr ⟨?_, fun _ h => absurd h List.not_mem_nil⟩
  · intro ρ τ Lc stc hx g1 g2 g3 g4 g5 g6 g7 g8
    have e0 : ρ 0 = x0 := hx 0 (by decide)
    subst e0
    match stc, g8 with
    | [_], ⟨h, _⟩ => cases h; exact l0 τ ρ g1 g2 g3 g4 g5 g6
set_option maxRecDepth 100000 in
theorem zk_l2 {σ : pm_S} {Q : Option Value → pm_S → Prop} (x0 : Int)  (hB : an_GB pm_B σ) (eF : (0 ≤ x0 ∧ x0 ≤ 1) ∧ True) (eC : (σ.1 2 2).toInt = x0 ∧ True)
    (l0 : ∀ (τ : pm_S) (y : Nat → Int), an_GB pm_B τ → FQ [] σ τ → ((0 ≤ x0 ∧ x0 ≤ 1) ∧ True) → (True) → (True) → ((τ.1 2 2).toInt = x0 ∧ True) → Q (some (.int (Int32.ofInt (x0)))) τ)
    : Ok 152 22 0 [.ref 0, .int (Int32.ofInt 22)] [] σ Q := by
  refine an_seg (B := pm_B) (F := []) (T := [2]) (S := []) (fun _ h => absurd h List.not_mem_nil) (k := 152) (d := 21) (cs := [20]) 22 0 1 [(0, 0, 1)] [(2, (1, 0, 2), (0, 0, 0))] [(2, 0, 0), (1, 0, 22)] [] [(9999, [], [(0, 0, 0)], [(0, 0, 1)], [], [], [(2, (1, 0, 2), (0, 0, 0))])] (by decide +kernel) (ρ0 := (fun s => [x0].getD s 0)) hB eF eC ⟨rfl, ⟨rfl, trivial⟩⟩ trivial ?_
  refine List.forall_mem_cons.mpr ⟨?_, fun _ h => absurd h List.not_mem_nil⟩
  · intro ρ τ Lc stc hx g1 g2 g3 g4 g5 g6 g7 g8
    have e0 : ρ 0 = x0 := hx 0 (by decide)
    subst e0
    match stc, g8 with
    | [_], ⟨h, _⟩ => cases h; exact l0 τ ρ g1 g2 g3 g4 g5 g6
set_option maxRecDepth 100000 in
theorem zk_l3 {σ : pm_S} {Q : Option Value → pm_S → Prop} (x0 : Int)  (hB : an_GB pm_B σ) (eF : (1 ≤ x0 ∧ x0 ≤ 52) ∧ True) (eC : (σ.1 2 3).toInt = x0 ∧ True)
    (l0 : ∀ (τ : pm_S) (y : Nat → Int), an_GB pm_B τ → FQ [] σ τ → ((1 ≤ x0 ∧ x0 ≤ 52) ∧ True) → (True) → (True) → ((τ.1 2 3).toInt = x0 ∧ True) → Q (some (.int (Int32.ofInt (x0)))) τ)
    : Ok 152 22 0 [.ref 0, .int (Int32.ofInt 23)] [] σ Q := by
  refine an_seg (B := pm_B) (F := []) (T := [2]) (S := []) (fun _ h => absurd h List.not_mem_nil) (k := 152) (d := 21) (cs := [20]) 22 0 1 [(0, 1, 52)] [(2, (1, 0, 3), (0, 0, 0))] [(2, 0, 0), (1, 0, 23)] [] [(9999, [], [(0, 0, 0)], [(0, 1, 52)], [], [], [(2, (1, 0, 3), (0, 0, 0))])] (by decide +kernel) (ρ0 := (fun s => [x0].getD s 0)) hB eF eC ⟨rfl, ⟨rfl, trivial⟩⟩ trivial ?_
  refine List.forall_mem_cons.mpr ⟨?_, fun _ h => absurd h List.not_mem_nil⟩
  · intro ρ τ Lc stc hx g1 g2 g3 g4 g5 g6 g7 g8
    have e0 : ρ 0 = x0 := hx 0 (by decide)
    subst e0
    match stc, g8 with
    | [_], ⟨h, _⟩ => cases h; exact l0 τ ρ g1 g2 g3 g4 g5 g6
set_option maxRecDepth 100000 in
theorem zk_l21 {σ : pm_S} {Q : Option Value → pm_S → Prop} (x0 x1 : Int)  (hB : an_GB pm_B σ) (eF : ((-2147483648) ≤ x0 ∧ x0 ≤ 19) ∧ (0 ≤ x1 ∧ x1 ≤ 30) ∧ True)
    (l0 : ∀ (τ : pm_S) (y : Nat → Int), an_GB pm_B τ → FQ [] σ τ → (((-2147483648) ≤ x0 ∧ x0 ≤ 19) ∧ (0 ≤ x1 ∧ x1 ≤ 30) ∧ True) → (True) → (True) → (True) → Q (some (.int (Int32.ofInt (x1)))) τ)
    : Ok 152 22 21 [.ref 0, .int (Int32.ofInt (x0))] [.int (Int32.ofInt (x1))] σ Q := by
  refine an_seg (B := pm_B) (F := []) (T := []) (S := []) (fun _ h => absurd h List.not_mem_nil) (k := 152) (d := 21) (cs := []) 3 21 2 [(0, (-2147483648), 19), (1, 0, 30)] [] [(2, 0, 0), (0, 0, 0)] [(0, 1, 0)] [(9999, [], [(0, 1, 0)], [(0, (-2147483648), 19), (1, 0, 30)], [], [], [])] (by decide +kernel) (ρ0 := (fun s => [x0, x1].getD s 0)) hB eF trivial ⟨rfl, ⟨rfl, trivial⟩⟩ ⟨rfl, trivial⟩ ?_
  refine List.forall_mem_cons.mpr ⟨?_, fun _ h => absurd h List.not_mem_nil⟩
  · intro ρ τ Lc stc hx g1 g2 g3 g4 g5 g6 g7 g8
    have e0 : ρ 0 = x0 := hx 0 (by decide)
    have e1 : ρ 1 = x1 := hx 1 (by decide)
    subst e0
    subst e1
    match stc, g8 with
    | [_], ⟨h, _⟩ => cases h; exact l0 τ ρ g1 g2 g3 g4 g5 g6
set_option maxRecDepth 100000 in
theorem zk_na {σ : pm_S} {Q : Option Value → pm_S → Prop} (x0 x1 x2 x3 x4 x5 x6 x7 x8 x9 : Int)  (hB : an_GB pm_B σ) (eF : ((-2147483648) ≤ x0 ∧ x0 ≤ 19) ∧ (0 ≤ x1 ∧ x1 ≤ 10) ∧ (0 ≤ x2 ∧ x2 ≤ 10) ∧ (0 ≤ x3 ∧ x3 ≤ 30) ∧ (0 ≤ x4 ∧ x4 ≤ 9999) ∧ ((-2147483648) ≤ x5 ∧ x5 ≤ 2147483647) ∧ ((-2147483648) ≤ x6 ∧ x6 ≤ 2147483647) ∧ (0 ≤ x7 ∧ x7 ≤ 30) ∧ (0 ≤ x8 ∧ x8 ≤ 16) ∧ (0 ≤ x9 ∧ x9 ≤ 1) ∧ True) (eC : (σ.1 93 2).toInt = x1 ∧ (σ.1 93 5).toInt = x2 ∧ (σ.1 93 11).toInt = x3 ∧ (σ.1 93 19).toInt = x4 ∧ (σ.1 93 20).toInt = x5 ∧ (σ.1 93 1).toInt = x6 ∧ (σ.1 93 23).toInt = x7 ∧ (σ.1 93 36).toInt = x8 ∧ (σ.1 93 21).toInt = x9 ∧ True)
    (l0 : ∀ (τ : pm_S) (y : Nat → Int), an_GB pm_B τ → FQ [(93, 0)] σ τ → (((-2147483648) ≤ x0 ∧ x0 ≤ 19) ∧ (0 ≤ x1 ∧ x1 ≤ 10) ∧ (0 ≤ x2 ∧ x2 ≤ 10) ∧ (0 ≤ x3 ∧ x3 ≤ 30) ∧ (0 ≤ x4 ∧ x4 ≤ 9999) ∧ ((-2147483648) ≤ x5 ∧ x5 ≤ 2147483647) ∧ ((-2147483648) ≤ x6 ∧ x6 ≤ 2147483647) ∧ (0 ≤ x7 ∧ x7 ≤ 30) ∧ (0 ≤ x8 ∧ x8 ≤ 16) ∧ (0 ≤ x9 ∧ x9 ≤ 1) ∧ True) → (x0 ≠ 9 ∧ x0 ≠ 8 ∧ x0 ≠ 7 ∧ x0 ≠ 6 ∧ x0 ≠ 5 ∧ x0 ≠ 4 ∧ x0 ≠ 3 ∧ x0 ≠ 2 ∧ x0 ≠ 1 ∧ x0 ≠ 0 ∧ True) → (True) → ((τ.1 93 0).toInt = 0 ∧ (τ.1 93 1).toInt = x6 ∧ (τ.1 93 2).toInt = x1 ∧ (τ.1 93 5).toInt = x2 ∧ (τ.1 93 11).toInt = x3 ∧ (τ.1 93 19).toInt = x4 ∧ (τ.1 93 20).toInt = x5 ∧ (τ.1 93 21).toInt = x9 ∧ (τ.1 93 23).toInt = x7 ∧ (τ.1 93 36).toInt = x8 ∧ True) → Q (some (.int (Int32.ofInt (-1)))) τ)
    (l1 : ∀ (τ : pm_S) (y : Nat → Int), an_GB pm_B τ → FQ [(93, 0)] σ τ → ((9 ≤ x0 ∧ x0 ≤ 9) ∧ (0 ≤ x1 ∧ x1 ≤ 10) ∧ (0 ≤ x2 ∧ x2 ≤ 10) ∧ (0 ≤ x3 ∧ x3 ≤ 30) ∧ (0 ≤ x4 ∧ x4 ≤ 9999) ∧ ((-2147483648) ≤ x5 ∧ x5 ≤ 2147483647) ∧ ((-2147483648) ≤ x6 ∧ x6 ≤ 2147483647) ∧ (0 ≤ x7 ∧ x7 ≤ 30) ∧ (0 ≤ x8 ∧ x8 ≤ 16) ∧ (0 ≤ x9 ∧ x9 ≤ 1) ∧ True) → (x0 ≠ 8 ∧ x0 ≠ 7 ∧ x0 ≠ 6 ∧ x0 ≠ 5 ∧ x0 ≠ 4 ∧ x0 ≠ 3 ∧ x0 ≠ 2 ∧ x0 ≠ 1 ∧ x0 ≠ 0 ∧ True) → (True) → ((τ.1 93 0).toInt = 0 ∧ (τ.1 93 1).toInt = x6 ∧ (τ.1 93 2).toInt = x1 ∧ (τ.1 93 5).toInt = x2 ∧ (τ.1 93 11).toInt = x3 ∧ (τ.1 93 19).toInt = x4 ∧ (τ.1 93 20).toInt = x5 ∧ (τ.1 93 21).toInt = x9 ∧ (τ.1 93 23).toInt = x7 ∧ (τ.1 93 36).toInt = x8 ∧ True) → Q (some (.int (Int32.ofInt (x9)))) τ)
    (l2 : ∀ (τ : pm_S) (y : Nat → Int), an_GB pm_B τ → FQ [(93, 0)] σ τ → ((8 ≤ x0 ∧ x0 ≤ 8) ∧ (0 ≤ x1 ∧ x1 ≤ 10) ∧ (0 ≤ x2 ∧ x2 ≤ 10) ∧ (0 ≤ x3 ∧ x3 ≤ 30) ∧ (0 ≤ x4 ∧ x4 ≤ 9999) ∧ ((-2147483648) ≤ x5 ∧ x5 ≤ 2147483647) ∧ ((-2147483648) ≤ x6 ∧ x6 ≤ 2147483647) ∧ (0 ≤ x7 ∧ x7 ≤ 30) ∧ (0 ≤ x8 ∧ x8 ≤ 16) ∧ (0 ≤ x9 ∧ x9 ≤ 1) ∧ True) → (x0 ≠ 7 ∧ x0 ≠ 6 ∧ x0 ≠ 5 ∧ x0 ≠ 4 ∧ x0 ≠ 3 ∧ x0 ≠ 2 ∧ x0 ≠ 1 ∧ x0 ≠ 0 ∧ True) → (True) → ((τ.1 93 0).toInt = 0 ∧ (τ.1 93 1).toInt = x6 ∧ (τ.1 93 2).toInt = x1 ∧ (τ.1 93 5).toInt = x2 ∧ (τ.1 93 11).toInt = x3 ∧ (τ.1 93 19).toInt = x4 ∧ (τ.1 93 20).toInt = x5 ∧ (τ.1 93 21).toInt = x9 ∧ (τ.1 93 23).toInt = x7 ∧ (τ.1 93 36).toInt = x8 ∧ True) → Q (some (.int (Int32.ofInt (x8)))) τ)
    (l3 : ∀ (τ : pm_S) (y : Nat → Int), an_GB pm_B τ → FQ [(93, 0)] σ τ → ((7 ≤ x0 ∧ x0 ≤ 7) ∧ (0 ≤ x1 ∧ x1 ≤ 10) ∧ (0 ≤ x2 ∧ x2 ≤ 10) ∧ (0 ≤ x3 ∧ x3 ≤ 30) ∧ (0 ≤ x4 ∧ x4 ≤ 9999) ∧ ((-2147483648) ≤ x5 ∧ x5 ≤ 2147483647) ∧ ((-2147483648) ≤ x6 ∧ x6 ≤ 2147483647) ∧ (0 ≤ x7 ∧ x7 ≤ 30) ∧ (0 ≤ x8 ∧ x8 ≤ 16) ∧ (0 ≤ x9 ∧ x9 ≤ 1) ∧ True) → (x0 ≠ 6 ∧ x0 ≠ 5 ∧ x0 ≠ 4 ∧ x0 ≠ 3 ∧ x0 ≠ 2 ∧ x0 ≠ 1 ∧ x0 ≠ 0 ∧ True) → (True) → ((τ.1 93 0).toInt = 0 ∧ (τ.1 93 1).toInt = x6 ∧ (τ.1 93 2).toInt = x1 ∧ (τ.1 93 5).toInt = x2 ∧ (τ.1 93 11).toInt = x3 ∧ (τ.1 93 19).toInt = x4 ∧ (τ.1 93 20).toInt = x5 ∧ (τ.1 93 21).toInt = x9 ∧ (τ.1 93 23).toInt = x7 ∧ (τ.1 93 36).toInt = x8 ∧ True) → Q (some (.int (Int32.ofInt (x7)))) τ)
    (l4 : ∀ (τ : pm_S) (y : Nat → Int), an_GB pm_B τ → FQ [(93, 0)] σ τ → ((6 ≤ x0 ∧ x0 ≤ 6) ∧ (0 ≤ x1 ∧ x1 ≤ 10) ∧ (0 ≤ x2 ∧ x2 ≤ 10) ∧ (0 ≤ x3 ∧ x3 ≤ 30) ∧ (0 ≤ x4 ∧ x4 ≤ 9999) ∧ ((-2147483648) ≤ x5 ∧ x5 ≤ 2147483647) ∧ ((-2147483648) ≤ x6 ∧ x6 ≤ 2147483647) ∧ (0 ≤ x7 ∧ x7 ≤ 30) ∧ (0 ≤ x8 ∧ x8 ≤ 16) ∧ (0 ≤ x9 ∧ x9 ≤ 1) ∧ True) → (x0 ≠ 5 ∧ x0 ≠ 4 ∧ x0 ≠ 3 ∧ x0 ≠ 2 ∧ x0 ≠ 1 ∧ x0 ≠ 0 ∧ True) → (True) → ((τ.1 93 0).toInt = 0 ∧ (τ.1 93 1).toInt = x6 ∧ (τ.1 93 2).toInt = x1 ∧ (τ.1 93 5).toInt = x2 ∧ (τ.1 93 11).toInt = x3 ∧ (τ.1 93 19).toInt = x4 ∧ (τ.1 93 20).toInt = x5 ∧ (τ.1 93 21).toInt = x9 ∧ (τ.1 93 23).toInt = x7 ∧ (τ.1 93 36).toInt = x8 ∧ True) → Q (some (.int (Int32.ofInt (x6)))) τ)
    (l5 : ∀ (τ : pm_S) (y : Nat → Int), an_GB pm_B τ → FQ [(93, 0)] σ τ → ((5 ≤ x0 ∧ x0 ≤ 5) ∧ (0 ≤ x1 ∧ x1 ≤ 10) ∧ (0 ≤ x2 ∧ x2 ≤ 10) ∧ (0 ≤ x3 ∧ x3 ≤ 30) ∧ (0 ≤ x4 ∧ x4 ≤ 9999) ∧ ((-2147483648) ≤ x5 ∧ x5 ≤ 2147483647) ∧ ((-2147483648) ≤ x6 ∧ x6 ≤ 2147483647) ∧ (0 ≤ x7 ∧ x7 ≤ 30) ∧ (0 ≤ x8 ∧ x8 ≤ 16) ∧ (0 ≤ x9 ∧ x9 ≤ 1) ∧ True) → (x0 ≠ 4 ∧ x0 ≠ 3 ∧ x0 ≠ 2 ∧ x0 ≠ 1 ∧ x0 ≠ 0 ∧ True) → (True) → ((τ.1 93 0).toInt = 0 ∧ (τ.1 93 1).toInt = x6 ∧ (τ.1 93 2).toInt = x1 ∧ (τ.1 93 5).toInt = x2 ∧ (τ.1 93 11).toInt = x3 ∧ (τ.1 93 19).toInt = x4 ∧ (τ.1 93 20).toInt = x5 ∧ (τ.1 93 21).toInt = x9 ∧ (τ.1 93 23).toInt = x7 ∧ (τ.1 93 36).toInt = x8 ∧ True) → Q (some (.int (Int32.ofInt (x5)))) τ)
    (l6 : ∀ (τ : pm_S) (y : Nat → Int), an_GB pm_B τ → FQ [(93, 0)] σ τ → ((4 ≤ x0 ∧ x0 ≤ 4) ∧ (0 ≤ x1 ∧ x1 ≤ 10) ∧ (0 ≤ x2 ∧ x2 ≤ 10) ∧ (0 ≤ x3 ∧ x3 ≤ 30) ∧ (0 ≤ x4 ∧ x4 ≤ 9999) ∧ ((-2147483648) ≤ x5 ∧ x5 ≤ 2147483647) ∧ ((-2147483648) ≤ x6 ∧ x6 ≤ 2147483647) ∧ (0 ≤ x7 ∧ x7 ≤ 30) ∧ (0 ≤ x8 ∧ x8 ≤ 16) ∧ (0 ≤ x9 ∧ x9 ≤ 1) ∧ True) → (x0 ≠ 3 ∧ x0 ≠ 2 ∧ x0 ≠ 1 ∧ x0 ≠ 0 ∧ True) → (True) → ((τ.1 93 0).toInt = 0 ∧ (τ.1 93 1).toInt = x6 ∧ (τ.1 93 2).toInt = x1 ∧ (τ.1 93 5).toInt = x2 ∧ (τ.1 93 11).toInt = x3 ∧ (τ.1 93 19).toInt = x4 ∧ (τ.1 93 20).toInt = x5 ∧ (τ.1 93 21).toInt = x9 ∧ (τ.1 93 23).toInt = x7 ∧ (τ.1 93 36).toInt = x8 ∧ True) → Q (some (.int (Int32.ofInt (x4)))) τ)
    (l7 : ∀ (τ : pm_S) (y : Nat → Int), an_GB pm_B τ → FQ [(93, 0)] σ τ → ((3 ≤ x0 ∧ x0 ≤ 3) ∧ (0 ≤ x1 ∧ x1 ≤ 10) ∧ (0 ≤ x2 ∧ x2 ≤ 10) ∧ (0 ≤ x3 ∧ x3 ≤ 30) ∧ (0 ≤ x4 ∧ x4 ≤ 9999) ∧ ((-2147483648) ≤ x5 ∧ x5 ≤ 2147483647) ∧ ((-2147483648) ≤ x6 ∧ x6 ≤ 2147483647) ∧ (0 ≤ x7 ∧ x7 ≤ 30) ∧ (0 ≤ x8 ∧ x8 ≤ 16) ∧ (0 ≤ x9 ∧ x9 ≤ 1) ∧ True) → (x0 ≠ 2 ∧ x0 ≠ 1 ∧ x0 ≠ 0 ∧ True) → (True) → ((τ.1 93 0).toInt = 0 ∧ (τ.1 93 1).toInt = x6 ∧ (τ.1 93 2).toInt = x1 ∧ (τ.1 93 5).toInt = x2 ∧ (τ.1 93 11).toInt = x3 ∧ (τ.1 93 19).toInt = x4 ∧ (τ.1 93 20).toInt = x5 ∧ (τ.1 93 21).toInt = x9 ∧ (τ.1 93 23).toInt = x7 ∧ (τ.1 93 36).toInt = x8 ∧ True) → Ok 246 22 25 [.ref 93, .int (Int32.ofInt (x0))] [.int (Int32.ofInt (-1)), .ref 93] τ Q)
    (l8 : ∀ (τ : pm_S) (y : Nat → Int), an_GB pm_B τ → FQ [(93, 0)] σ τ → ((2 ≤ x0 ∧ x0 ≤ 2) ∧ (0 ≤ x1 ∧ x1 ≤ 10) ∧ (0 ≤ x2 ∧ x2 ≤ 10) ∧ (0 ≤ x3 ∧ x3 ≤ 30) ∧ (0 ≤ x4 ∧ x4 ≤ 9999) ∧ ((-2147483648) ≤ x5 ∧ x5 ≤ 2147483647) ∧ ((-2147483648) ≤ x6 ∧ x6 ≤ 2147483647) ∧ (0 ≤ x7 ∧ x7 ≤ 30) ∧ (0 ≤ x8 ∧ x8 ≤ 16) ∧ (0 ≤ x9 ∧ x9 ≤ 1) ∧ True) → (x0 ≠ 1 ∧ x0 ≠ 0 ∧ True) → (True) → ((τ.1 93 0).toInt = 0 ∧ (τ.1 93 1).toInt = x6 ∧ (τ.1 93 2).toInt = x1 ∧ (τ.1 93 5).toInt = x2 ∧ (τ.1 93 11).toInt = x3 ∧ (τ.1 93 19).toInt = x4 ∧ (τ.1 93 20).toInt = x5 ∧ (τ.1 93 21).toInt = x9 ∧ (τ.1 93 23).toInt = x7 ∧ (τ.1 93 36).toInt = x8 ∧ True) → Q (some (.int (Int32.ofInt (x3)))) τ)
    (l9 : ∀ (τ : pm_S) (y : Nat → Int), an_GB pm_B τ → FQ [(93, 0)] σ τ → ((1 ≤ x0 ∧ x0 ≤ 1) ∧ (0 ≤ x1 ∧ x1 ≤ 10) ∧ (0 ≤ x2 ∧ x2 ≤ 10) ∧ (0 ≤ x3 ∧ x3 ≤ 30) ∧ (0 ≤ x4 ∧ x4 ≤ 9999) ∧ ((-2147483648) ≤ x5 ∧ x5 ≤ 2147483647) ∧ ((-2147483648) ≤ x6 ∧ x6 ≤ 2147483647) ∧ (0 ≤ x7 ∧ x7 ≤ 30) ∧ (0 ≤ x8 ∧ x8 ≤ 16) ∧ (0 ≤ x9 ∧ x9 ≤ 1) ∧ True) → (x0 ≠ 0 ∧ True) → (True) → ((τ.1 93 0).toInt = 0 ∧ (τ.1 93 1).toInt = x6 ∧ (τ.1 93 2).toInt = x1 ∧ (τ.1 93 5).toInt = x2 ∧ (τ.1 93 11).toInt = x3 ∧ (τ.1 93 19).toInt = x4 ∧ (τ.1 93 20).toInt = x5 ∧ (τ.1 93 21).toInt = x9 ∧ (τ.1 93 23).toInt = x7 ∧ (τ.1 93 36).toInt = x8 ∧ True) → Q (some (.int (Int32.ofInt (x2)))) τ)
    (l10 : ∀ (τ : pm_S) (y : Nat → Int), an_GB pm_B τ → FQ [(93, 0)] σ τ → ((0 ≤ x0 ∧ x0 ≤ 0) ∧ (0 ≤ x1 ∧ x1 ≤ 10) ∧ (0 ≤ x2 ∧ x2 ≤ 10) ∧ (0 ≤ x3 ∧ x3 ≤ 30) ∧ (0 ≤ x4 ∧ x4 ≤ 9999) ∧ ((-2147483648) ≤ x5 ∧ x5 ≤ 2147483647) ∧ ((-2147483648) ≤ x6 ∧ x6 ≤ 2147483647) ∧ (0 ≤ x7 ∧ x7 ≤ 30) ∧ (0 ≤ x8 ∧ x8 ≤ 16) ∧ (0 ≤ x9 ∧ x9 ≤ 1) ∧ True) → (True) → (True) → ((τ.1 93 0).toInt = 0 ∧ (τ.1 93 1).toInt = x6 ∧ (τ.1 93 2).toInt = x1 ∧ (τ.1 93 5).toInt = x2 ∧ (τ.1 93 11).toInt = x3 ∧ (τ.1 93 19).toInt = x4 ∧ (τ.1 93 20).toInt = x5 ∧ (τ.1 93 21).toInt = x9 ∧ (τ.1 93 23).toInt = x7 ∧ (τ.1 93 36).toInt = x8 ∧ True) → Q (some (.int (Int32.ofInt (x1)))) τ)
    : Ok 246 22 0 [.ref 93, .int (Int32.ofInt (x0))] [] σ Q := by
  refine an_seg (B := pm_B) (F := [(93, 0)]) (T := []) (S := []) (fun _ h => absurd h List.not_mem_nil) (k := 246) (d := 21) (cs := [25]) 47 0 10 [(0, (-2147483648), 19), (1, 0, 10), (2, 0, 10), (3, 0, 30), (4, 0, 9999), (5, (-2147483648), 2147483647), (6, (-2147483648), 2147483647), (7, 0, 30), (8, 0, 16), (9, 0, 1)] [(93, (1, 0, 2), (0, 1, 0)), (93, (1, 0, 5), (0, 2, 0)), (93, (1, 0, 11), (0, 3, 0)), (93, (1, 0, 19), (0, 4, 0)), (93, (1, 0, 20), (0, 5, 0)), (93, (1, 0, 1), (0, 6, 0)), (93, (1, 0, 23), (0, 7, 0)), (93, (1, 0, 36), (0, 8, 0)), (93, (1, 0, 21), (0, 9, 0))] [(2, 93, 0), (0, 0, 0)] [] [(9999, [], [(1, 0, (-1))], [(0, (-2147483648), 19), (1, 0, 10), (2, 0, 10), (3, 0, 30), (4, 0, 9999), (5, (-2147483648), 2147483647), (6, (-2147483648), 2147483647), (7, 0, 30), (8, 0, 16), (9, 0, 1)], [(3, 0, 0, 9), (3, 0, 0, 8), (3, 0, 0, 7), (3, 0, 0, 6), (3, 0, 0, 5), (3, 0, 0, 4), (3, 0, 0, 3), (3, 0, 0, 2), (3, 0, 0, 1), (3, 0, 0, 0)], [], [(93, (1, 0, 0), (1, 0, 0)), (93, (1, 0, 1), (0, 6, 0)), (93, (1, 0, 2), (0, 1, 0)), (93, (1, 0, 5), (0, 2, 0)), (93, (1, 0, 11), (0, 3, 0)), (93, (1, 0, 19), (0, 4, 0)), (93, (1, 0, 20), (0, 5, 0)), (93, (1, 0, 21), (0, 9, 0)), (93, (1, 0, 23), (0, 7, 0)), (93, (1, 0, 36), (0, 8, 0))]),
    (9999, [], [(0, 9, 0)], [(0, 9, 9), (1, 0, 10), (2, 0, 10), (3, 0, 30), (4, 0, 9999), (5, (-2147483648), 2147483647), (6, (-2147483648), 2147483647), (7, 0, 30), (8, 0, 16), (9, 0, 1)], [(3, 0, 0, 8), (3, 0, 0, 7), (3, 0, 0, 6), (3, 0, 0, 5), (3, 0, 0, 4), (3, 0, 0, 3), (3, 0, 0, 2), (3, 0, 0, 1), (3, 0, 0, 0)], [], [(93, (1, 0, 0), (1, 0, 0)), (93, (1, 0, 1), (0, 6, 0)), (93, (1, 0, 2), (0, 1, 0)), (93, (1, 0, 5), (0, 2, 0)), (93, (1, 0, 11), (0, 3, 0)), (93, (1, 0, 19), (0, 4, 0)), (93, (1, 0, 20), (0, 5, 0)), (93, (1, 0, 21), (0, 9, 0)), (93, (1, 0, 23), (0, 7, 0)), (93, (1, 0, 36), (0, 8, 0))]),
    (9999, [], [(0, 8, 0)], [(0, 8, 8), (1, 0, 10), (2, 0, 10), (3, 0, 30), (4, 0, 9999), (5, (-2147483648), 2147483647), (6, (-2147483648), 2147483647), (7, 0, 30), (8, 0, 16), (9, 0, 1)], [(3, 0, 0, 7), (3, 0, 0, 6), (3, 0, 0, 5), (3, 0, 0, 4), (3, 0, 0, 3), (3, 0, 0, 2), (3, 0, 0, 1), (3, 0, 0, 0)], [], [(93, (1, 0, 0), (1, 0, 0)), (93, (1, 0, 1), (0, 6, 0)), (93, (1, 0, 2), (0, 1, 0)), (93, (1, 0, 5), (0, 2, 0)), (93, (1, 0, 11), (0, 3, 0)), (93, (1, 0, 19), (0, 4, 0)), (93, (1, 0, 20), (0, 5, 0)), (93, (1, 0, 21), (0, 9, 0)), (93, (1, 0, 23), (0, 7, 0)), (93, (1, 0, 36), (0, 8, 0))]),
    (9999, [], [(0, 7, 0)], [(0, 7, 7), (1, 0, 10), (2, 0, 10), (3, 0, 30), (4, 0, 9999), (5, (-2147483648), 2147483647), (6, (-2147483648), 2147483647), (7, 0, 30), (8, 0, 16), (9, 0, 1)], [(3, 0, 0, 6), (3, 0, 0, 5), (3, 0, 0, 4), (3, 0, 0, 3), (3, 0, 0, 2), (3, 0, 0, 1), (3, 0, 0, 0)], [], [(93, (1, 0, 0), (1, 0, 0)), (93, (1, 0, 1), (0, 6, 0)), (93, (1, 0, 2), (0, 1, 0)), (93, (1, 0, 5), (0, 2, 0)), (93, (1, 0, 11), (0, 3, 0)), (93, (1, 0, 19), (0, 4, 0)), (93, (1, 0, 20), (0, 5, 0)), (93, (1, 0, 21), (0, 9, 0)), (93, (1, 0, 23), (0, 7, 0)), (93, (1, 0, 36), (0, 8, 0))]),
    (9999, [], [(0, 6, 0)], [(0, 6, 6), (1, 0, 10), (2, 0, 10), (3, 0, 30), (4, 0, 9999), (5, (-2147483648), 2147483647), (6, (-2147483648), 2147483647), (7, 0, 30), (8, 0, 16), (9, 0, 1)], [(3, 0, 0, 5), (3, 0, 0, 4), (3, 0, 0, 3), (3, 0, 0, 2), (3, 0, 0, 1), (3, 0, 0, 0)], [], [(93, (1, 0, 0), (1, 0, 0)), (93, (1, 0, 1), (0, 6, 0)), (93, (1, 0, 2), (0, 1, 0)), (93, (1, 0, 5), (0, 2, 0)), (93, (1, 0, 11), (0, 3, 0)), (93, (1, 0, 19), (0, 4, 0)), (93, (1, 0, 20), (0, 5, 0)), (93, (1, 0, 21), (0, 9, 0)), (93, (1, 0, 23), (0, 7, 0)), (93, (1, 0, 36), (0, 8, 0))]),
    (9999, [], [(0, 5, 0)], [(0, 5, 5), (1, 0, 10), (2, 0, 10), (3, 0, 30), (4, 0, 9999), (5, (-2147483648), 2147483647), (6, (-2147483648), 2147483647), (7, 0, 30), (8, 0, 16), (9, 0, 1)], [(3, 0, 0, 4), (3, 0, 0, 3), (3, 0, 0, 2), (3, 0, 0, 1), (3, 0, 0, 0)], [], [(93, (1, 0, 0), (1, 0, 0)), (93, (1, 0, 1), (0, 6, 0)), (93, (1, 0, 2), (0, 1, 0)), (93, (1, 0, 5), (0, 2, 0)), (93, (1, 0, 11), (0, 3, 0)), (93, (1, 0, 19), (0, 4, 0)), (93, (1, 0, 20), (0, 5, 0)), (93, (1, 0, 21), (0, 9, 0)), (93, (1, 0, 23), (0, 7, 0)), (93, (1, 0, 36), (0, 8, 0))]),
    (9999, [], [(0, 4, 0)], [(0, 4, 4), (1, 0, 10), (2, 0, 10), (3, 0, 30), (4, 0, 9999), (5, (-2147483648), 2147483647), (6, (-2147483648), 2147483647), (7, 0, 30), (8, 0, 16), (9, 0, 1)], [(3, 0, 0, 3), (3, 0, 0, 2), (3, 0, 0, 1), (3, 0, 0, 0)], [], [(93, (1, 0, 0), (1, 0, 0)), (93, (1, 0, 1), (0, 6, 0)), (93, (1, 0, 2), (0, 1, 0)), (93, (1, 0, 5), (0, 2, 0)), (93, (1, 0, 11), (0, 3, 0)), (93, (1, 0, 19), (0, 4, 0)), (93, (1, 0, 20), (0, 5, 0)), (93, (1, 0, 21), (0, 9, 0)), (93, (1, 0, 23), (0, 7, 0)), (93, (1, 0, 36), (0, 8, 0))]),
    (25, [(2, 93, 0), (0, 0, 0)], [(1, 0, (-1)), (2, 93, 0)], [(0, 3, 3), (1, 0, 10), (2, 0, 10), (3, 0, 30), (4, 0, 9999), (5, (-2147483648), 2147483647), (6, (-2147483648), 2147483647), (7, 0, 30), (8, 0, 16), (9, 0, 1)], [(3, 0, 0, 2), (3, 0, 0, 1), (3, 0, 0, 0)], [], [(93, (1, 0, 0), (1, 0, 0)), (93, (1, 0, 1), (0, 6, 0)), (93, (1, 0, 2), (0, 1, 0)), (93, (1, 0, 5), (0, 2, 0)), (93, (1, 0, 11), (0, 3, 0)), (93, (1, 0, 19), (0, 4, 0)), (93, (1, 0, 20), (0, 5, 0)), (93, (1, 0, 21), (0, 9, 0)), (93, (1, 0, 23), (0, 7, 0)), (93, (1, 0, 36), (0, 8, 0))]),
    (9999, [], [(0, 3, 0)], [(0, 2, 2), (1, 0, 10), (2, 0, 10), (3, 0, 30), (4, 0, 9999), (5, (-2147483648), 2147483647), (6, (-2147483648), 2147483647), (7, 0, 30), (8, 0, 16), (9, 0, 1)], [(3, 0, 0, 1), (3, 0, 0, 0)], [], [(93, (1, 0, 0), (1, 0, 0)), (93, (1, 0, 1), (0, 6, 0)), (93, (1, 0, 2), (0, 1, 0)), (93, (1, 0, 5), (0, 2, 0)), (93, (1, 0, 11), (0, 3, 0)), (93, (1, 0, 19), (0, 4, 0)), (93, (1, 0, 20), (0, 5, 0)), (93, (1, 0, 21), (0, 9, 0)), (93, (1, 0, 23), (0, 7, 0)), (93, (1, 0, 36), (0, 8, 0))]),
    (9999, [], [(0, 2, 0)], [(0, 1, 1), (1, 0, 10), (2, 0, 10), (3, 0, 30), (4, 0, 9999), (5, (-2147483648), 2147483647), (6, (-2147483648), 2147483647), (7, 0, 30), (8, 0, 16), (9, 0, 1)], [(3, 0, 0, 0)], [], [(93, (1, 0, 0), (1, 0, 0)), (93, (1, 0, 1), (0, 6, 0)), (93, (1, 0, 2), (0, 1, 0)), (93, (1, 0, 5), (0, 2, 0)), (93, (1, 0, 11), (0, 3, 0)), (93, (1, 0, 19), (0, 4, 0)), (93, (1, 0, 20), (0, 5, 0)), (93, (1, 0, 21), (0, 9, 0)), (93, (1, 0, 23), (0, 7, 0)), (93, (1, 0, 36), (0, 8, 0))]),
    (9999, [], [(0, 1, 0)], [(0, 0, 0), (1, 0, 10), (2, 0, 10), (3, 0, 30), (4, 0, 9999), (5, (-2147483648), 2147483647), (6, (-2147483648), 2147483647), (7, 0, 30), (8, 0, 16), (9, 0, 1)], [], [], [(93, (1, 0, 0), (1, 0, 0)), (93, (1, 0, 1), (0, 6, 0)), (93, (1, 0, 2), (0, 1, 0)), (93, (1, 0, 5), (0, 2, 0)), (93, (1, 0, 11), (0, 3, 0)), (93, (1, 0, 19), (0, 4, 0)), (93, (1, 0, 20), (0, 5, 0)), (93, (1, 0, 21), (0, 9, 0)), (93, (1, 0, 23), (0, 7, 0)), (93, (1, 0, 36), (0, 8, 0))])] (by decide +kernel) (ρ0 := (fun s => [x0, x1, x2, x3, x4, x5, x6, x7, x8, x9].getD s 0)) hB eF eC ⟨rfl, ⟨rfl, trivial⟩⟩ trivial ?_
  refine List.forall_mem_cons.mpr ⟨?_, List.forall_mem_cons.mpr ⟨?_, List.forall_mem_cons.mpr ⟨?_, List.forall_mem_cons.mpr ⟨?_, List.forall_mem_cons.mpr ⟨?_, List.forall_mem_cons.mpr ⟨?_, List.forall_mem_cons.mpr ⟨?_, List.forall_mem_cons.mpr ⟨?_, List.forall_mem_cons.mpr ⟨?_, List.forall_mem_cons.mpr ⟨?_, List.forall_mem_cons.mpr ⟨?_, fun _ h => absurd h List.not_mem_nil⟩⟩⟩⟩⟩⟩⟩⟩⟩⟩⟩
  · intro ρ τ Lc stc hx g1 g2 g3 g4 g5 g6 g7 g8
    have e0 : ρ 0 = x0 := hx 0 (by decide)
    have e1 : ρ 1 = x1 := hx 1 (by decide)
    have e2 : ρ 2 = x2 := hx 2 (by decide)
    have e3 : ρ 3 = x3 := hx 3 (by decide)
    have e4 : ρ 4 = x4 := hx 4 (by decide)
    have e5 : ρ 5 = x5 := hx 5 (by decide)
    have e6 : ρ 6 = x6 := hx 6 (by decide)
    have e7 : ρ 7 = x7 := hx 7 (by decide)
    have e8 : ρ 8 = x8 := hx 8 (by decide)
    have e9 : ρ 9 = x9 := hx 9 (by decide)
    subst e0
    subst e1
    subst e2
    subst e3
    subst e4
    subst e5
    subst e6
    subst e7
    subst e8
    subst e9
    match stc, g8 with
    | [_], ⟨h, _⟩ => cases h; exact l0 τ ρ g1 g2 g3 g4 g5 g6
  · intro ρ τ Lc stc hx g1 g2 g3 g4 g5 g6 g7 g8
    have e0 : ρ 0 = x0 := hx 0 (by decide)
    have e1 : ρ 1 = x1 := hx 1 (by decide)
    have e2 : ρ 2 = x2 := hx 2 (by decide)
    have e3 : ρ 3 = x3 := hx 3 (by decide)
    have e4 : ρ 4 = x4 := hx 4 (by decide)
    have e5 : ρ 5 = x5 := hx 5 (by decide)
    have e6 : ρ 6 = x6 := hx 6 (by decide)
    have e7 : ρ 7 = x7 := hx 7 (by decide)
    have e8 : ρ 8 = x8 := hx 8 (by decide)
    have e9 : ρ 9 = x9 := hx 9 (by decide)
    subst e0
    subst e1
    subst e2
    subst e3
    subst e4
    subst e5
    subst e6
    subst e7
    subst e8
    subst e9
    match stc, g8 with
    | [_], ⟨h, _⟩ => cases h; exact l1 τ ρ g1 g2 g3 g4 g5 g6
  · intro ρ τ Lc stc hx g1 g2 g3 g4 g5 g6 g7 g8
    have e0 : ρ 0 = x0 := hx 0 (by decide)
    have e1 : ρ 1 = x1 := hx 1 (by decide)
    have e2 : ρ 2 = x2 := hx 2 (by decide)
    have e3 : ρ 3 = x3 := hx 3 (by decide)
    have e4 : ρ 4 = x4 := hx 4 (by decide)
    have e5 : ρ 5 = x5 := hx 5 (by decide)
    have e6 : ρ 6 = x6 := hx 6 (by decide)
    have e7 : ρ 7 = x7 := hx 7 (by decide)
    have e8 : ρ 8 = x8 := hx 8 (by decide)
    have e9 : ρ 9 = x9 := hx 9 (by decide)
    subst e0
    subst e1
    subst e2
    subst e3
    subst e4
    subst e5
    subst e6
    subst e7
    subst e8
    subst e9
    match stc, g8 with
    | [_], ⟨h, _⟩ => cases h; exact l2 τ ρ g1 g2 g3 g4 g5 g6
  · intro ρ τ Lc stc hx g1 g2 g3 g4 g5 g6 g7 g8
    have e0 : ρ 0 = x0 := hx 0 (by decide)
    have e1 : ρ 1 = x1 := hx 1 (by decide)
    have e2 : ρ 2 = x2 := hx 2 (by decide)
    have e3 : ρ 3 = x3 := hx 3 (by decide)
    have e4 : ρ 4 = x4 := hx 4 (by decide)
    have e5 : ρ 5 = x5 := hx 5 (by decide)
    have e6 : ρ 6 = x6 := hx 6 (by decide)
    have e7 : ρ 7 = x7 := hx 7 (by decide)
    have e8 : ρ 8 = x8 := hx 8 (by decide)
    have e9 : ρ 9 = x9 := hx 9 (by decide)
    subst e0
    subst e1
    subst e2
    subst e3
    subst e4
    subst e5
    subst e6
    subst e7
    subst e8
    subst e9
    match stc, g8 with
    | [_], ⟨h, _⟩ => cases h; exact l3 τ ρ g1 g2 g3 g4 g5 g6
  · intro ρ τ Lc stc hx g1 g2 g3 g4 g5 g6 g7 g8
    have e0 : ρ 0 = x0 := hx 0 (by decide)
    have e1 : ρ 1 = x1 := hx 1 (by decide)
    have e2 : ρ 2 = x2 := hx 2 (by decide)
    have e3 : ρ 3 = x3 := hx 3 (by decide)
    have e4 : ρ 4 = x4 := hx 4 (by decide)
    have e5 : ρ 5 = x5 := hx 5 (by decide)
    have e6 : ρ 6 = x6 := hx 6 (by decide)
    have e7 : ρ 7 = x7 := hx 7 (by decide)
    have e8 : ρ 8 = x8 := hx 8 (by decide)
    have e9 : ρ 9 = x9 := hx 9 (by decide)
    subst e0
    subst e1
    subst e2
    subst e3
    subst e4
    subst e5
    subst e6
    subst e7
    subst e8
    subst e9
    match stc, g8 with
    | [_], ⟨h, _⟩ => cases h; exact l4 τ ρ g1 g2 g3 g4 g5 g6
  · intro ρ τ Lc stc hx g1 g2 g3 g4 g5 g6 g7 g8
    have e0 : ρ 0 = x0 := hx 0 (by decide)
    have e1 : ρ 1 = x1 := hx 1 (by decide)
    have e2 : ρ 2 = x2 := hx 2 (by decide)
    have e3 : ρ 3 = x3 := hx 3 (by decide)
    have e4 : ρ 4 = x4 := hx 4 (by decide)
    have e5 : ρ 5 = x5 := hx 5 (by decide)
    have e6 : ρ 6 = x6 := hx 6 (by decide)
    have e7 : ρ 7 = x7 := hx 7 (by decide)
    have e8 : ρ 8 = x8 := hx 8 (by decide)
    have e9 : ρ 9 = x9 := hx 9 (by decide)
    subst e0
    subst e1
    subst e2
    subst e3
    subst e4
    subst e5
    subst e6
    subst e7
    subst e8
    subst e9
    match stc, g8 with
    | [_], ⟨h, _⟩ => cases h; exact l5 τ ρ g1 g2 g3 g4 g5 g6
  · intro ρ τ Lc stc hx g1 g2 g3 g4 g5 g6 g7 g8
    have e0 : ρ 0 = x0 := hx 0 (by decide)
    have e1 : ρ 1 = x1 := hx 1 (by decide)
    have e2 : ρ 2 = x2 := hx 2 (by decide)
    have e3 : ρ 3 = x3 := hx 3 (by decide)
    have e4 : ρ 4 = x4 := hx 4 (by decide)
    have e5 : ρ 5 = x5 := hx 5 (by decide)
    have e6 : ρ 6 = x6 := hx 6 (by decide)
    have e7 : ρ 7 = x7 := hx 7 (by decide)
    have e8 : ρ 8 = x8 := hx 8 (by decide)
    have e9 : ρ 9 = x9 := hx 9 (by decide)
    subst e0
    subst e1
    subst e2
    subst e3
    subst e4
    subst e5
    subst e6
    subst e7
    subst e8
    subst e9
    match stc, g8 with
    | [_], ⟨h, _⟩ => cases h; exact l6 τ ρ g1 g2 g3 g4 g5 g6
  · intro ρ τ Lc stc hx g1 g2 g3 g4 g5 g6 g7 g8
    have e0 : ρ 0 = x0 := hx 0 (by decide)
    have e1 : ρ 1 = x1 := hx 1 (by decide)
    have e2 : ρ 2 = x2 := hx 2 (by decide)
    have e3 : ρ 3 = x3 := hx 3 (by decide)
    have e4 : ρ 4 = x4 := hx 4 (by decide)
    have e5 : ρ 5 = x5 := hx 5 (by decide)
    have e6 : ρ 6 = x6 := hx 6 (by decide)
    have e7 : ρ 7 = x7 := hx 7 (by decide)
    have e8 : ρ 8 = x8 := hx 8 (by decide)
    have e9 : ρ 9 = x9 := hx 9 (by decide)
    subst e0
    subst e1
    subst e2
    subst e3
    subst e4
    subst e5
    subst e6
    subst e7
    subst e8
    subst e9
    have g7 := g7 (by decide)
    match Lc, stc, g7, g8 with
    | [v0, v1], [w0, w1], ⟨hv0, hv1, _⟩, ⟨hw0, hw1, _⟩ =>
      cases hv0
      cases hv1
      cases hw0
      cases hw1
      exact l7 τ ρ  g1 g2 g3 g4 g5 g6
  · intro ρ τ Lc stc hx g1 g2 g3 g4 g5 g6 g7 g8
    have e0 : ρ 0 = x0 := hx 0 (by decide)
    have e1 : ρ 1 = x1 := hx 1 (by decide)
    have e2 : ρ 2 = x2 := hx 2 (by decide)
    have e3 : ρ 3 = x3 := hx 3 (by decide)
    have e4 : ρ 4 = x4 := hx 4 (by decide)
    have e5 : ρ 5 = x5 := hx 5 (by decide)
    have e6 : ρ 6 = x6 := hx 6 (by decide)
    have e7 : ρ 7 = x7 := hx 7 (by decide)
    have e8 : ρ 8 = x8 := hx 8 (by decide)
    have e9 : ρ 9 = x9 := hx 9 (by decide)
    subst e0
    subst e1
    subst e2
    subst e3
    subst e4
    subst e5
    subst e6
    subst e7
    subst e8
    subst e9
    match stc, g8 with
    | [_], ⟨h, _⟩ => cases h; exact l8 τ ρ g1 g2 g3 g4 g5 g6
  · intro ρ τ Lc stc hx g1 g2 g3 g4 g5 g6 g7 g8
    have e0 : ρ 0 = x0 := hx 0 (by decide)
    have e1 : ρ 1 = x1 := hx 1 (by decide)
    have e2 : ρ 2 = x2 := hx 2 (by decide)
    have e3 : ρ 3 = x3 := hx 3 (by decide)
    have e4 : ρ 4 = x4 := hx 4 (by decide)
    have e5 : ρ 5 = x5 := hx 5 (by decide)
    have e6 : ρ 6 = x6 := hx 6 (by decide)
    have e7 : ρ 7 = x7 := hx 7 (by decide)
    have e8 : ρ 8 = x8 := hx 8 (by decide)
    have e9 : ρ 9 = x9 := hx 9 (by decide)
    subst e0
    subst e1
    subst e2
    subst e3
    subst e4
    subst e5
    subst e6
    subst e7
    subst e8
    subst e9
    match stc, g8 with
    | [_], ⟨h, _⟩ => cases h; exact l9 τ ρ g1 g2 g3 g4 g5 g6
  · intro ρ τ Lc stc hx g1 g2 g3 g4 g5 g6 g7 g8
    have e0 : ρ 0 = x0 := hx 0 (by decide)
    have e1 : ρ 1 = x1 := hx 1 (by decide)
    have e2 : ρ 2 = x2 := hx 2 (by decide)
    have e3 : ρ 3 = x3 := hx 3 (by decide)
    have e4 : ρ 4 = x4 := hx 4 (by decide)
    have e5 : ρ 5 = x5 := hx 5 (by decide)
    have e6 : ρ 6 = x6 := hx 6 (by decide)
    have e7 : ρ 7 = x7 := hx 7 (by decide)
    have e8 : ρ 8 = x8 := hx 8 (by decide)
    have e9 : ρ 9 = x9 := hx 9 (by decide)
    subst e0
    subst e1
    subst e2
    subst e3
    subst e4
    subst e5
    subst e6
    subst e7
    subst e8
    subst e9
    match stc, g8 with
    | [_], ⟨h, _⟩ => cases h; exact l10 τ ρ g1 g2 g3 g4 g5 g6
set_option maxRecDepth 100000 in
theorem zk_np {σ : pm_S} {Q : Option Value → pm_S → Prop} (x0 x1 x2 x3 x4 x5 x6 x7 x8 x9 : Int)  (hB : an_GB pm_B σ) (eF : (24 ≤ x0 ∧ x0 ≤ 2147483647) ∧ (0 ≤ x1 ∧ x1 ≤ 10) ∧ (0 ≤ x2 ∧ x2 ≤ 10) ∧ (0 ≤ x3 ∧ x3 ≤ 30) ∧ (0 ≤ x4 ∧ x4 ≤ 9999) ∧ ((-2147483648) ≤ x5 ∧ x5 ≤ 2147483647) ∧ ((-2147483648) ≤ x6 ∧ x6 ≤ 2147483647) ∧ (0 ≤ x7 ∧ x7 ≤ 30) ∧ (0 ≤ x8 ∧ x8 ≤ 16) ∧ (0 ≤ x9 ∧ x9 ≤ 1) ∧ True) (eC : (σ.1 93 2).toInt = x1 ∧ (σ.1 93 5).toInt = x2 ∧ (σ.1 93 11).toInt = x3 ∧ (σ.1 93 19).toInt = x4 ∧ (σ.1 93 20).toInt = x5 ∧ (σ.1 93 1).toInt = x6 ∧ (σ.1 93 23).toInt = x7 ∧ (σ.1 93 36).toInt = x8 ∧ (σ.1 93 21).toInt = x9 ∧ True)
    (l0 : ∀ (τ : pm_S) (y : Nat → Int), an_GB pm_B τ → FQ [(93, 0)] σ τ → ((24 ≤ x0 ∧ x0 ≤ 2147483647) ∧ (0 ≤ x1 ∧ x1 ≤ 10) ∧ (0 ≤ x2 ∧ x2 ≤ 10) ∧ (0 ≤ x3 ∧ x3 ≤ 30) ∧ (0 ≤ x4 ∧ x4 ≤ 9999) ∧ ((-2147483648) ≤ x5 ∧ x5 ≤ 2147483647) ∧ ((-2147483648) ≤ x6 ∧ x6 ≤ 2147483647) ∧ (0 ≤ x7 ∧ x7 ≤ 30) ∧ (0 ≤ x8 ∧ x8 ≤ 16) ∧ (0 ≤ x9 ∧ x9 ≤ 1) ∧ True) → (x0 ≠ 9 ∧ x0 ≠ 8 ∧ x0 ≠ 7 ∧ x0 ≠ 6 ∧ x0 ≠ 5 ∧ x0 ≠ 4 ∧ x0 ≠ 3 ∧ x0 ≠ 2 ∧ x0 ≠ 1 ∧ x0 ≠ 0 ∧ True) → (True) → ((τ.1 93 0).toInt = 0 ∧ (τ.1 93 1).toInt = x6 ∧ (τ.1 93 2).toInt = x1 ∧ (τ.1 93 5).toInt = x2 ∧ (τ.1 93 11).toInt = x3 ∧ (τ.1 93 19).toInt = x4 ∧ (τ.1 93 20).toInt = x5 ∧ (τ.1 93 21).toInt = x9 ∧ (τ.1 93 23).toInt = x7 ∧ (τ.1 93 36).toInt = x8 ∧ True) → Q (some (.int (Int32.ofInt (-1)))) τ)
    : Ok 246 22 0 [.ref 93, .int (Int32.ofInt (x0))] [] σ Q := by
  refine an_seg (B := pm_B) (F := [(93, 0)]) (T := []) (S := []) (fun _ h => absurd h List.not_mem_nil) (k := 246) (d := 21) (cs := [25]) 50 0 10 [(0, 24, 2147483647), (1, 0, 10), (2, 0, 10), (3, 0, 30), (4, 0, 9999), (5, (-2147483648), 2147483647), (6, (-2147483648), 2147483647), (7, 0, 30), (8, 0, 16), (9, 0, 1)] [(93, (1, 0, 2), (0, 1, 0)), (93, (1, 0, 5), (0, 2, 0)), (93, (1, 0, 11), (0, 3, 0)), (93, (1, 0, 19), (0, 4, 0)), (93, (1, 0, 20), (0, 5, 0)), (93, (1, 0, 1), (0, 6, 0)), (93, (1, 0, 23), (0, 7, 0)), (93, (1, 0, 36), (0, 8, 0)), (93, (1, 0, 21), (0, 9, 0))] [(2, 93, 0), (0, 0, 0)] [] [(9999, [], [(1, 0, (-1))], [(0, 24, 2147483647), (1, 0, 10), (2, 0, 10), (3, 0, 30), (4, 0, 9999), (5, (-2147483648), 2147483647), (6, (-2147483648), 2147483647), (7, 0, 30), (8, 0, 16), (9, 0, 1)], [(3, 0, 0, 9), (3, 0, 0, 8), (3, 0, 0, 7), (3, 0, 0, 6), (3, 0, 0, 5), (3, 0, 0, 4), (3, 0, 0, 3), (3, 0, 0, 2), (3, 0, 0, 1), (3, 0, 0, 0)], [], [(93, (1, 0, 0), (1, 0, 0)), (93, (1, 0, 1), (0, 6, 0)), (93, (1, 0, 2), (0, 1, 0)), (93, (1, 0, 5), (0, 2, 0)), (93, (1, 0, 11), (0, 3, 0)), (93, (1, 0, 19), (0, 4, 0)), (93, (1, 0, 20), (0, 5, 0)), (93, (1, 0, 21), (0, 9, 0)), (93, (1, 0, 23), (0, 7, 0)), (93, (1, 0, 36), (0, 8, 0))])] (by decide +kernel) (ρ0 := (fun s => [x0, x1, x2, x3, x4, x5, x6, x7, x8, x9].getD s 0)) hB eF eC ⟨rfl, ⟨rfl, trivial⟩⟩ trivial ?_
  refine List.forall_mem_cons.mpr ⟨?_, fun _ h => absurd h List.not_mem_nil⟩
  · intro ρ τ Lc stc hx g1 g2 g3 g4 g5 g6 g7 g8
    have e0 : ρ 0 = x0 := hx 0 (by decide)
    have e1 : ρ 1 = x1 := hx 1 (by decide)
    have e2 : ρ 2 = x2 := hx 2 (by decide)
    have e3 : ρ 3 = x3 := hx 3 (by decide)
    have e4 : ρ 4 = x4 := hx 4 (by decide)
    have e5 : ρ 5 = x5 := hx 5 (by decide)
    have e6 : ρ 6 = x6 := hx 6 (by decide)
    have e7 : ρ 7 = x7 := hx 7 (by decide)
    have e8 : ρ 8 = x8 := hx 8 (by decide)
    have e9 : ρ 9 = x9 := hx 9 (by decide)
    subst e0
    subst e1
    subst e2
    subst e3
    subst e4
    subst e5
    subst e6
    subst e7
    subst e8
    subst e9
    match stc, g8 with
    | [_], ⟨h, _⟩ => cases h; exact l0 τ ρ g1 g2 g3 g4 g5 g6
set_option maxRecDepth 100000 in
theorem zk_n0 {σ : pm_S} {Q : Option Value → pm_S → Prop} (x0 : Int)  (hB : an_GB pm_B σ) (eF : (0 ≤ x0 ∧ x0 ≤ 100) ∧ True) (eC : (σ.1 108 0).toInt = x0 ∧ True)
    (l0 : ∀ (τ : pm_S) (y : Nat → Int), an_GB pm_B τ → FQ [(93, 0)] σ τ → ((0 ≤ x0 ∧ x0 ≤ 100) ∧ True) → (True) → (True) → ((τ.1 93 0).toInt = 0 ∧ (τ.1 108 0).toInt = x0 ∧ True) → Q (some (.int (Int32.ofInt (x0)))) τ)
    : Ok 246 22 0 [.ref 93, .int (Int32.ofInt 20)] [] σ Q := by
  refine an_seg (B := pm_B) (F := [(93, 0)]) (T := [108]) (S := []) (fun _ h => absurd h List.not_mem_nil) (k := 246) (d := 21) (cs := [25]) 57 0 1 [(0, 0, 100)] [(108, (1, 0, 0), (0, 0, 0))] [(2, 93, 0), (1, 0, 20)] [] [(9999, [], [(0, 0, 0)], [(0, 0, 100)], [], [], [(93, (1, 0, 0), (1, 0, 0)), (108, (1, 0, 0), (0, 0, 0))])] (by decide +kernel) (ρ0 := (fun s => [x0].getD s 0)) hB eF eC ⟨rfl, ⟨rfl, trivial⟩⟩ trivial ?_
  refine List.forall_mem_cons.mpr ⟨?_, fun _ h => absurd h List.not_mem_nil⟩
  · intro ρ τ Lc stc hx g1 g2 g3 g4 g5 g6 g7 g8
    have e0 : ρ 0 = x0 := hx 0 (by decide)
    subst e0
    match stc, g8 with
    | [_], ⟨h, _⟩ => cases h; exact l0 τ ρ g1 g2 g3 g4 g5 g6
set_option maxRecDepth 100000 in
theorem zk_n1 {σ : pm_S} {Q : Option Value → pm_S → Prop} (x0 : Int)  (hB : an_GB pm_B σ) (eF : (0 ≤ x0 ∧ x0 ≤ 99) ∧ True) (eC : (σ.1 108 1).toInt = x0 ∧ True)
    (l0 : ∀ (τ : pm_S) (y : Nat → Int), an_GB pm_B τ → FQ [(93, 0)] σ τ → ((0 ≤ x0 ∧ x0 ≤ 99) ∧ True) → (True) → (True) → ((τ.1 93 0).toInt = 0 ∧ (τ.1 108 1).toInt = x0 ∧ True) → Q (some (.int (Int32.ofInt (x0)))) τ)
    : Ok 246 22 0 [.ref 93, .int (Int32.ofInt 21)] [] σ Q := by
  refine an_seg (B := pm_B) (F := [(93, 0)]) (T := [108]) (S := []) (fun _ h => absurd h List.not_mem_nil) (k := 246) (d := 21) (cs := [25]) 57 0 1 [(0, 0, 99)] [(108, (1, 0, 1), (0, 0, 0))] [(2, 93, 0), (1, 0, 21)] [] [(9999, [], [(0, 0, 0)], [(0, 0, 99)], [], [], [(93, (1, 0, 0), (1, 0, 0)), (108, (1, 0, 1), (0, 0, 0))])] (by decide +kernel) (ρ0 := (fun s => [x0].getD s 0)) hB eF eC ⟨rfl, ⟨rfl, trivial⟩⟩ trivial ?_
  refine List.forall_mem_cons.mpr ⟨?_, fun _ h => absurd h List.not_mem_nil⟩
  · intro ρ τ Lc stc hx g1 g2 g3 g4 g5 g6 g7 g8
    have e0 : ρ 0 = x0 := hx 0 (by decide)
    subst e0
    match stc, g8 with
    | [_], ⟨h, _⟩ => cases h; exact l0 τ ρ g1 g2 g3 g4 g5 g6
set_option maxRecDepth 100000 in
theorem zk_n2 {σ : pm_S} {Q : Option Value → pm_S → Prop} (x0 : Int)  (hB : an_GB pm_B σ) (eF : (0 ≤ x0 ∧ x0 ≤ 1) ∧ True) (eC : (σ.1 108 2).toInt = x0 ∧ True)
    (l0 : ∀ (τ : pm_S) (y : Nat → Int), an_GB pm_B τ → FQ [(93, 0)] σ τ → ((0 ≤ x0 ∧ x0 ≤ 1) ∧ True) → (True) → (True) → ((τ.1 93 0).toInt = 0 ∧ (τ.1 108 2).toInt = x0 ∧ True) → Q (some (.int (Int32.ofInt (x0)))) τ)
    : Ok 246 22 0 [.ref 93, .int (Int32.ofInt 22)] [] σ Q := by
  refine an_seg (B := pm_B) (F := [(93, 0)]) (T := [108]) (S := []) (fun _ h => absurd h List.not_mem_nil) (k := 246) (d := 21) (cs := [25]) 57 0 1 [(0, 0, 1)] [(108, (1, 0, 2), (0, 0, 0))] [(2, 93, 0), (1, 0, 22)] [] [(9999, [], [(0, 0, 0)], [(0, 0, 1)], [], [], [(93, (1, 0, 0), (1, 0, 0)), (108, (1, 0, 2), (0, 0, 0))])] (by decide +kernel) (ρ0 := (fun s => [x0].getD s 0)) hB eF eC ⟨rfl, ⟨rfl, trivial⟩⟩ trivial ?_
  refine List.forall_mem_cons.mpr ⟨?_, fun _ h => absurd h List.not_mem_nil⟩
  · intro ρ τ Lc stc hx g1 g2 g3 g4 g5 g6 g7 g8
    have e0 : ρ 0 = x0 := hx 0 (by decide)
    subst e0
    match stc, g8 with
    | [_], ⟨h, _⟩ => cases h; exact l0 τ ρ g1 g2 g3 g4 g5 g6
set_option maxRecDepth 100000 in
theorem zk_n3 {σ : pm_S} {Q : Option Value → pm_S → Prop} (x0 : Int)  (hB : an_GB pm_B σ) (eF : (1 ≤ x0 ∧ x0 ≤ 52) ∧ True) (eC : (σ.1 108 3).toInt = x0 ∧ True)
    (l0 : ∀ (τ : pm_S) (y : Nat → Int), an_GB pm_B τ → FQ [(93, 0)] σ τ → ((1 ≤ x0 ∧ x0 ≤ 52) ∧ True) → (True) → (True) → ((τ.1 93 0).toInt = 0 ∧ (τ.1 108 3).toInt = x0 ∧ True) → Q (some (.int (Int32.ofInt (x0)))) τ)
    : Ok 246 22 0 [.ref 93, .int (Int32.ofInt 23)] [] σ Q := by
  refine an_seg (B := pm_B) (F := [(93, 0)]) (T := [108]) (S := []) (fun _ h => absurd h List.not_mem_nil) (k := 246) (d := 21) (cs := [25]) 57 0 1 [(0, 1, 52)] [(108, (1, 0, 3), (0, 0, 0))] [(2, 93, 0), (1, 0, 23)] [] [(9999, [], [(0, 0, 0)], [(0, 1, 52)], [], [], [(93, (1, 0, 0), (1, 0, 0)), (108, (1, 0, 3), (0, 0, 0))])] (by decide +kernel) (ρ0 := (fun s => [x0].getD s 0)) hB eF eC ⟨rfl, ⟨rfl, trivial⟩⟩ trivial ?_
  refine List.forall_mem_cons.mpr ⟨?_, fun _ h => absurd h List.not_mem_nil⟩
  · intro ρ τ Lc stc hx g1 g2 g3 g4 g5 g6 g7 g8
    have e0 : ρ 0 = x0 := hx 0 (by decide)
    subst e0
    match stc, g8 with
    | [_], ⟨h, _⟩ => cases h; exact l0 τ ρ g1 g2 g3 g4 g5 g6
set_option maxRecDepth 100000 in
theorem zk_n26 {σ : pm_S} {Q : Option Value → pm_S → Prop} (x0 x1 : Int)  (hB : an_GB pm_B σ) (eF : ((-2147483648) ≤ x0 ∧ x0 ≤ 19) ∧ (0 ≤ x1 ∧ x1 ≤ 30) ∧ True) (eC : (σ.1 93 55).toInt = x1 ∧ True)
    (l0 : ∀ (τ : pm_S) (y : Nat → Int), an_GB pm_B τ → FQ [] σ τ → (((-2147483648) ≤ x0 ∧ x0 ≤ 19) ∧ (0 ≤ x1 ∧ x1 ≤ 30) ∧ True) → (True) → (True) → ((τ.1 93 55).toInt = x1 ∧ True) → Q (some (.int (Int32.ofInt (x1)))) τ)
    : Ok 246 22 26 [.ref 93, .int (Int32.ofInt (x0))] [] σ Q := by
  refine an_seg (B := pm_B) (F := []) (T := []) (S := []) (fun _ h => absurd h List.not_mem_nil) (k := 246) (d := 21) (cs := []) 5 26 2 [(0, (-2147483648), 19), (1, 0, 30)] [(93, (1, 0, 55), (0, 1, 0))] [(2, 93, 0), (0, 0, 0)] [] [(9999, [], [(0, 1, 0)], [(0, (-2147483648), 19), (1, 0, 30)], [], [], [(93, (1, 0, 55), (0, 1, 0))])] (by decide +kernel) (ρ0 := (fun s => [x0, x1].getD s 0)) hB eF eC ⟨rfl, ⟨rfl, trivial⟩⟩ trivial ?_
  refine List.forall_mem_cons.mpr ⟨?_, fun _ h => absurd h List.not_mem_nil⟩
  · intro ρ τ Lc stc hx g1 g2 g3 g4 g5 g6 g7 g8
    have e0 : ρ 0 = x0 := hx 0 (by decide)
    have e1 : ρ 1 = x1 := hx 1 (by decide)
    subst e0
    subst e1
    match stc, g8 with
    | [_], ⟨h, _⟩ => cases h; exact l0 τ ρ g1 g2 g3 g4 g5 g6
/-- an open debt -/
abbrev opQ (hw : Nat → Int32) : Nat → Bool := fun d => decide (hw d = 0)
set_option maxRecDepth 20000 in
theorem x_col {σ : pm_S} {D : Nat} (hD : D ≤ 30) (eD : sI σ 13 0 = (D : Int)) : ∀ (k n : Nat) (τ : pm_S), n + k = D → an_GB pm_B τ → FQ [] σ τ → Ok 5 5 4 [.ref 13, .int (Int32.ofInt ((cntP (opQ (σ.1 20)) n : Nat) : Int)), .int (Int32.ofInt (n : Int))] [] τ (fun r τ => r = some (.int (Int32.ofInt ((cntP (opQ (σ.1 20)) D : Nat) : Int))) ∧ an_GB pm_B τ ∧ FQ [] σ τ) := by
  intro k
  induction k with
  | zero =>
    intro n τ hn hB F
    have cl := cntP_le (opQ (σ.1 20)) n
    refine zk_c4 (cntP (opQ (σ.1 20)) n) n D hB ⟨by omega, by omega, by omega, trivial⟩ ⟨(congrArg Int32.toInt (F 13 0 rfl)).trans eD, trivial⟩ ?_
    intro τ1 y1 hB1 F1 _ _ _ _
    refine Ok.ic rfl rfl (by omega) (by omega) (by omega) (by omega) (fun h => ?_) (fun h => ?_)
    · refine zk_c20 (cntP (opQ (σ.1 20)) n) n hB1 ⟨by omega, by omega, trivial⟩ ?_
      intro τ2 y2 hB2 F2 _ _ _ _
      rw [show n = D by omega]
      exact ⟨rfl, hB2, FQ.tr F (FQ.tr F1 F2)⟩
    · have h : (n : Int) < (D : Int) := h
      exfalso
      omega
  | succ k ih =>
    intro n τ hn hB F
    have cl := cntP_le (opQ (σ.1 20)) n
    refine zk_c4 (cntP (opQ (σ.1 20)) n) n D hB ⟨by omega, by omega, by omega, trivial⟩ ⟨(congrArg Int32.toInt (F 13 0 rfl)).trans eD, trivial⟩ ?_
    intro τ1 y1 hB1 F1 _ _ _ _
    refine Ok.ic rfl rfl (by omega) (by omega) (by omega) (by omega) (fun h => ?_) (fun h => ?_)
    · have h : (D : Int) ≤ (n : Int) := h
      exfalso
      omega
    have G1 : FQ [] σ τ1 := FQ.tr F F1
    refine zk_c8 (cntP (opQ (σ.1 20)) n) n hB1 ⟨by omega, by omega, trivial⟩ ?_
    intro τ2 y2 hB2 F2 _ _ _ _
    have G2 : FQ [] σ τ2 := FQ.tr G1 F2
    refine Ok.cv rfl rfl rfl rfl rfl rfl rfl ?_
    refine (x_opD n D hD (by omega) ((congrArg Int32.toInt (G2 13 0 rfl)).trans eD) hB2).use (by decide) (fun r τ3 q => ?_)
    obtain ⟨rfl, hB3, F3⟩ := q
    have G3 : FQ [] σ τ3 := FQ.tr G2 F3
    rw [show τ2.1 20 n = σ.1 20 n from G2 20 n rfl]
    by_cases c : σ.1 20 n = 0
    · have z : b01 (decide (σ.1 20 n = 0)) = .int (Int32.ofInt 1) := by
        rw [decide_eq_true c]
        rfl
      rw [z]
      refine zk_c12 (cntP (opQ (σ.1 20)) n) n hB3 ⟨by omega, by omega, trivial⟩ ?_
      intro τ4 y4 hB4 F4 _ _ _ _
      have e : ((cntP (opQ (σ.1 20)) n : Nat) : Int) + 1 = ((cntP (opQ (σ.1 20)) (n + 1) : Nat) : Int) := by
        rw [cntP_s (P := opQ (σ.1 20)) (n := n) (decide_eq_true c)]
        omega
      rw [e, show (n : Int) + 1 = ((n + 1 : Nat) : Int) by omega]
      exact ih (n + 1) τ4 (by omega) hB4 (FQ.tr G3 F4)
    · have z : b01 (decide (σ.1 20 n = 0)) = .int (Int32.ofInt 0) := by
        rw [decide_eq_false c]
        rfl
      rw [z]
      refine zk_c12n (cntP (opQ (σ.1 20)) n) n hB3 ⟨by omega, by omega, trivial⟩ ?_
      intro τ4 y4 hB4 F4 _ _ _ _
      rw [← cntP_n (P := opQ (σ.1 20)) (n := n) (fun w => c (of_decide_eq_true w)), show (n : Int) + 1 = ((n + 1 : Nat) : Int) by omega]
      exact ih (n + 1) τ4 (by omega) hB4 (FQ.tr G3 F4)
theorem x_cop {σ : pm_S} {D : Nat} (hD : D ≤ 30) (eD : sI σ 13 0 = (D : Int)) (hB : an_GB pm_B σ) : Sp 5 5 [.ref 13] σ (fun r τ => r = some (.int (Int32.ofInt ((cntP (opQ (σ.1 20)) D : Nat) : Int))) ∧ an_GB pm_B τ ∧ FQ [] σ τ) := by
  refine Sp.at rfl rfl ?_
  refine zk_c0 _ _ rfl rfl hB ?_
  intro τ1 y1 hB1 F1 _ _ _ _
  exact x_col hD eD D 0 τ1 (Nat.zero_add _) hB1 F1
abbrev FTo : List (Nat × Nat) := [(93, 55), (125, 9999)]
set_option maxRecDepth 20000 in
theorem x_tkl {σ : pm_S} {D : Nat} (hD : D ≤ 30) (eD : sI σ 93 11 = (D : Int)) : ∀ (k n : Nat) (τ : pm_S), n + k = D → an_GB pm_B τ → FQ FTo σ τ → cI τ 55 = ((cntP (opQ (σ.1 107)) n : Nat) : Int) → Ok 219 5 5 [.ref 93, .int (Int32.ofInt (-1)), .int (Int32.ofInt (n : Int))] [] τ (fun r τ => r = none ∧ an_GB pm_B τ ∧ FQ FTo σ τ ∧ cI τ 55 = ((cntP (opQ (σ.1 107)) D : Nat) : Int)) := by
  intro k
  induction k with
  | zero =>
    intro n τ hn hB F e55
    refine zk_m5 n D hB ⟨by omega, by omega, trivial⟩ ⟨(congrArg Int32.toInt (F 93 11 rfl)).trans eD, trivial⟩ ?_
    intro τ1 y1 hB1 F1 _ _ _ _
    refine Ok.ic rfl rfl (by omega) (by omega) (by omega) (by omega) (fun h => ?_) (fun h => ?_)
    · refine zk_m37 n hB1 ⟨by omega, trivial⟩ ?_
      intro τ2 y2 hB2 F2 _ _ _ _
      refine ⟨rfl, hB2, FQ.tr F (FQ.up (G := []) rfl (FQ.tr F1 F2)), ?_⟩
      rw [show cI τ2 55 = cI τ 55 from congrArg Int32.toInt ((F2 93 55 rfl).trans (F1 93 55 rfl)), e55, show n = D by omega]
    · have h : (n : Int) < (D : Int) := h
      exfalso
      omega
  | succ k ih =>
    intro n τ hn hB F e55
    have en : ((n : Int)).toNat = n := by omega
    have cl := cntP_le (opQ (σ.1 107)) n
    refine zk_m5 n D hB ⟨by omega, by omega, trivial⟩ ⟨(congrArg Int32.toInt (F 93 11 rfl)).trans eD, trivial⟩ ?_
    intro τ1 y1 hB1 F1 _ _ _ _
    refine Ok.ic rfl rfl (by omega) (by omega) (by omega) (by omega) (fun h => ?_) (fun h => ?_)
    · have h : (D : Int) ≤ (n : Int) := h
      exfalso
      omega
    have G1 : FQ FTo σ τ1 := FQ.tr F (FQ.up (G := []) rfl F1)
    have e1 : cI τ1 55 = ((cntP (opQ (σ.1 107)) n : Nat) : Int) := (congrArg Int32.toInt (F1 93 55 rfl)).trans e55
    have e7 : sI τ1 107 n = sI σ 107 n := congrArg Int32.toInt (G1 107 n rfl)
    refine zk_m9 n (sI τ1 107 n) ((cntP (opQ (σ.1 107)) n : Nat) : Int) hB1 ⟨by omega, ai_rng _, by omega, trivial⟩ ⟨by rw [en], e1, trivial⟩ ?_ ?_
    · intro τ2 y2 hB2 F2 _ rl _ c
      have r := rl.1
      rw [show (n : Int) + 1 = ((n + 1 : Nat) : Int) by omega]
      refine ih (n + 1) τ2 (by omega) hB2 (FQ.tr G1 F2) ?_
      rw [cntP_n (P := opQ (σ.1 107)) (n := n) (fun w => r (by rw [e7]; show (σ.1 107 n).toInt = 0; rw [of_decide_eq_true w]; rfl))]
      exact c.1
    · intro τ2 y2 hB2 F2 f _ _ c
      have f1 := f.2.1
      rw [show (n : Int) + 1 = ((n + 1 : Nat) : Int) by omega]
      refine ih (n + 1) τ2 (by omega) hB2 (FQ.tr G1 F2) ?_
      have z : σ.1 107 n = 0 := Int32.toInt_inj.mp (by
        show sI σ 107 n = 0
        omega)
      have c1 : cI τ2 55 = ((cntP (opQ (σ.1 107)) n : Nat) : Int) + 1 := c.1
      rw [c1, cntP_s (P := opQ (σ.1 107)) (n := n) (decide_eq_true z)]
      omega
theorem x_tko {σ : pm_S} {D : Nat} (hD : D ≤ 30) (eD : sI σ 93 11 = (D : Int)) (hB : an_GB pm_B σ) : Sp 219 5 [.ref 93, .int (Int32.ofInt (-1))] σ (fun r τ => r = none ∧ an_GB pm_B τ ∧ FQ FTo σ τ ∧ cI τ 55 = ((cntP (opQ (σ.1 107)) D : Nat) : Int)) := by
  refine Sp.at rfl rfl ?_
  refine zk_m0 _ rfl hB ?_
  intro τ1 y1 hB1 F1 _ _ _ c
  exact x_tkl hD eD D 0 τ1 (Nat.zero_add _) hB1 (FQ.up (G := [(93, 55)]) rfl F1) c.1
/-- what is told -/
def lkV (v0 v1 v2 v3 v4 v5 v6 v7 v8 v9 s0 s1 s2 s3 w : Int) : Int := if w = 0 then v0 else if w = 1 then v1 else if w = 2 then v2 else if w = 3 then v3 else if w = 4 then v4 else if w = 5 then v5 else if w = 6 then v6 else if w = 7 then v7 else if w = 8 then v8 else if w = 9 then v9 else if w = 20 then s0 else if w = 21 then s1 else if w = 22 then s2 else if w = 23 then s3 else -1
set_option maxRecDepth 20000 in
theorem x_lkc {σ : pm_S} (w : Int) (hw : (-2147483648) ≤ w ∧ w ≤ 2147483647) {D : Nat} (hD : D ≤ 30) (eD : sI σ 13 0 = (D : Int)) (hs : 0 ≤ sI σ 1 1 ∧ sI σ 1 1 ≤ 9999) (hl : 0 ≤ sI σ 31 0 ∧ sI σ 31 0 ≤ 16) (hn : 0 ≤ sI σ 21 0 ∧ sI σ 21 0 ≤ 30) (hB : an_GB pm_B σ) : Sp 152 22 [.ref 0, .int (Int32.ofInt w)] σ (fun r τ => an_GB pm_B τ ∧ FQ [] σ τ ∧ r = some (.int (Int32.ofInt (lkV (sI σ 3 0) (sI σ 7 0) (sI σ 13 0) (((cntP (opQ (σ.1 20)) D : Nat) : Int)) (sI σ 1 1) (sI σ 1 2) (sI σ 1 0) (sI σ 21 0) (sI σ 31 0) (sI σ 1 3) (sI σ 2 0) (sI σ 2 1) (sI σ 2 2) (sI σ 2 3) w)))) := by
  have b0 : 0 ≤ sI σ 3 0 ∧ sI σ 3 0 ≤ 10 := hB 3 0 (by decide)
  have b1 : 0 ≤ sI σ 7 0 ∧ sI σ 7 0 ≤ 10 := hB 7 0 (by decide)
  have b2 : 0 ≤ sI σ 13 0 ∧ sI σ 13 0 ≤ 30 := hB 13 0 (by decide)
  have b8 : 0 ≤ sI σ 1 3 ∧ sI σ 1 3 ≤ 1 := hB 1 3 (by decide)
  have s0 : 0 ≤ sI σ 2 0 ∧ sI σ 2 0 ≤ 100 := hB 2 0 (by decide)
  have s1 : 0 ≤ sI σ 2 1 ∧ sI σ 2 1 ≤ 99 := hB 2 1 (by decide)
  have s2 : 0 ≤ sI σ 2 2 ∧ sI σ 2 2 ≤ 1 := hB 2 2 (by decide)
  have s3 : 1 ≤ sI σ 2 3 ∧ sI σ 2 3 ≤ 52 := hB 2 3 (by decide)
  refine Sp.at rfl rfl ?_
  rcases (show w ≤ 19 ∨ w = 20 ∨ w = 21 ∨ w = 22 ∨ w = 23 ∨ 24 ≤ w by omega) with h | h | h | h | h | h
  · refine zk_la w (sI σ 3 0) (sI σ 7 0) (sI σ 13 0) (sI σ 1 1) (sI σ 1 2) (sI σ 1 0) (sI σ 21 0) (sI σ 31 0) (sI σ 1 3) hB ⟨⟨by omega, by omega⟩, b0, b1, b2, hs, ai_rng _, ai_rng _, hn, hl, b8, trivial⟩ ⟨rfl, rfl, rfl, rfl, rfl, rfl, rfl, rfl, rfl, trivial⟩ ?_ ?_ ?_ ?_ ?_ ?_ ?_ ?_ ?_ ?_ ?_ ?_
    · intro τ1 y1 hB1 F1 f rl _ _
      have f1 := f.1
      have r0 := rl.1
      have r1 := rl.2.1
      have r2 := rl.2.2.1
      have r3 := rl.2.2.2.1
      have r4 := rl.2.2.2.2.1
      have r5 := rl.2.2.2.2.2.1
      have r6 := rl.2.2.2.2.2.2.1
      have r7 := rl.2.2.2.2.2.2.2.1
      have r8 := rl.2.2.2.2.2.2.2.2.1
      have r9 := rl.2.2.2.2.2.2.2.2.2.1
      have ev : lkV (sI σ 3 0) (sI σ 7 0) (sI σ 13 0) (((cntP (opQ (σ.1 20)) D : Nat) : Int)) (sI σ 1 1) (sI σ 1 2) (sI σ 1 0) (sI σ 21 0) (sI σ 31 0) (sI σ 1 3) (sI σ 2 0) (sI σ 2 1) (sI σ 2 2) (sI σ 2 3) w = -1 := by
        unfold lkV; rw [if_neg (by omega), if_neg (by omega), if_neg (by omega), if_neg (by omega), if_neg (by omega), if_neg (by omega), if_neg (by omega), if_neg (by omega), if_neg (by omega), if_neg (by omega), if_neg (by omega), if_neg (by omega), if_neg (by omega), if_neg (by omega)]
      refine ⟨hB1, FQ.up rfl F1, ?_⟩
      rw [ev]
    · intro τ1 y1 hB1 F1 f rl _ _
      have f1 := f.1
      have r0 := rl.1
      have r1 := rl.2.1
      have r2 := rl.2.2.1
      have r3 := rl.2.2.2.1
      have r4 := rl.2.2.2.2.1
      have r5 := rl.2.2.2.2.2.1
      have r6 := rl.2.2.2.2.2.2.1
      have r7 := rl.2.2.2.2.2.2.2.1
      have r8 := rl.2.2.2.2.2.2.2.2.1
      have f9 := f.2.2.2.2.2.2.2.2.2.1
      have ev : lkV (sI σ 3 0) (sI σ 7 0) (sI σ 13 0) (((cntP (opQ (σ.1 20)) D : Nat) : Int)) (sI σ 1 1) (sI σ 1 2) (sI σ 1 0) (sI σ 21 0) (sI σ 31 0) (sI σ 1 3) (sI σ 2 0) (sI σ 2 1) (sI σ 2 2) (sI σ 2 3) w = sI σ 1 3 := by
        unfold lkV; rw [if_neg (by omega), if_neg (by omega), if_neg (by omega), if_neg (by omega), if_neg (by omega), if_neg (by omega), if_neg (by omega), if_neg (by omega), if_neg (by omega), if_pos (by omega)]
      refine ⟨hB1, FQ.up rfl F1, ?_⟩
      rw [ev, show sI σ 1 3 = 0 by omega]
    · intro τ1 y1 hB1 F1 f rl _ _
      have f1 := f.1
      have r0 := rl.1
      have r1 := rl.2.1
      have r2 := rl.2.2.1
      have r3 := rl.2.2.2.1
      have r4 := rl.2.2.2.2.1
      have r5 := rl.2.2.2.2.2.1
      have r6 := rl.2.2.2.2.2.2.1
      have r7 := rl.2.2.2.2.2.2.2.1
      have r8 := rl.2.2.2.2.2.2.2.2.1
      have f9 := f.2.2.2.2.2.2.2.2.2.1
      have ev : lkV (sI σ 3 0) (sI σ 7 0) (sI σ 13 0) (((cntP (opQ (σ.1 20)) D : Nat) : Int)) (sI σ 1 1) (sI σ 1 2) (sI σ 1 0) (sI σ 21 0) (sI σ 31 0) (sI σ 1 3) (sI σ 2 0) (sI σ 2 1) (sI σ 2 2) (sI σ 2 3) w = sI σ 1 3 := by
        unfold lkV; rw [if_neg (by omega), if_neg (by omega), if_neg (by omega), if_neg (by omega), if_neg (by omega), if_neg (by omega), if_neg (by omega), if_neg (by omega), if_neg (by omega), if_pos (by omega)]
      refine ⟨hB1, FQ.up rfl F1, ?_⟩
      rw [ev, show sI σ 1 3 = 1 by omega]
    · intro τ1 y1 hB1 F1 f rl _ _
      have f1 := f.1
      have r0 := rl.1
      have r1 := rl.2.1
      have r2 := rl.2.2.1
      have r3 := rl.2.2.2.1
      have r4 := rl.2.2.2.2.1
      have r5 := rl.2.2.2.2.2.1
      have r6 := rl.2.2.2.2.2.2.1
      have r7 := rl.2.2.2.2.2.2.2.1
      have ev : lkV (sI σ 3 0) (sI σ 7 0) (sI σ 13 0) (((cntP (opQ (σ.1 20)) D : Nat) : Int)) (sI σ 1 1) (sI σ 1 2) (sI σ 1 0) (sI σ 21 0) (sI σ 31 0) (sI σ 1 3) (sI σ 2 0) (sI σ 2 1) (sI σ 2 2) (sI σ 2 3) w = sI σ 31 0 := by
        unfold lkV; rw [if_neg (by omega), if_neg (by omega), if_neg (by omega), if_neg (by omega), if_neg (by omega), if_neg (by omega), if_neg (by omega), if_neg (by omega), if_pos (by omega)]
      refine ⟨hB1, FQ.up rfl F1, ?_⟩
      rw [ev]
    · intro τ1 y1 hB1 F1 f rl _ _
      have f1 := f.1
      have r0 := rl.1
      have r1 := rl.2.1
      have r2 := rl.2.2.1
      have r3 := rl.2.2.2.1
      have r4 := rl.2.2.2.2.1
      have r5 := rl.2.2.2.2.2.1
      have r6 := rl.2.2.2.2.2.2.1
      have ev : lkV (sI σ 3 0) (sI σ 7 0) (sI σ 13 0) (((cntP (opQ (σ.1 20)) D : Nat) : Int)) (sI σ 1 1) (sI σ 1 2) (sI σ 1 0) (sI σ 21 0) (sI σ 31 0) (sI σ 1 3) (sI σ 2 0) (sI σ 2 1) (sI σ 2 2) (sI σ 2 3) w = sI σ 21 0 := by
        unfold lkV; rw [if_neg (by omega), if_neg (by omega), if_neg (by omega), if_neg (by omega), if_neg (by omega), if_neg (by omega), if_neg (by omega), if_pos (by omega)]
      refine ⟨hB1, FQ.up rfl F1, ?_⟩
      rw [ev]
    · intro τ1 y1 hB1 F1 f rl _ _
      have f1 := f.1
      have r0 := rl.1
      have r1 := rl.2.1
      have r2 := rl.2.2.1
      have r3 := rl.2.2.2.1
      have r4 := rl.2.2.2.2.1
      have r5 := rl.2.2.2.2.2.1
      have ev : lkV (sI σ 3 0) (sI σ 7 0) (sI σ 13 0) (((cntP (opQ (σ.1 20)) D : Nat) : Int)) (sI σ 1 1) (sI σ 1 2) (sI σ 1 0) (sI σ 21 0) (sI σ 31 0) (sI σ 1 3) (sI σ 2 0) (sI σ 2 1) (sI σ 2 2) (sI σ 2 3) w = sI σ 1 0 := by
        unfold lkV; rw [if_neg (by omega), if_neg (by omega), if_neg (by omega), if_neg (by omega), if_neg (by omega), if_neg (by omega), if_pos (by omega)]
      refine ⟨hB1, FQ.up rfl F1, ?_⟩
      rw [ev]
    · intro τ1 y1 hB1 F1 f rl _ _
      have f1 := f.1
      have r0 := rl.1
      have r1 := rl.2.1
      have r2 := rl.2.2.1
      have r3 := rl.2.2.2.1
      have r4 := rl.2.2.2.2.1
      have ev : lkV (sI σ 3 0) (sI σ 7 0) (sI σ 13 0) (((cntP (opQ (σ.1 20)) D : Nat) : Int)) (sI σ 1 1) (sI σ 1 2) (sI σ 1 0) (sI σ 21 0) (sI σ 31 0) (sI σ 1 3) (sI σ 2 0) (sI σ 2 1) (sI σ 2 2) (sI σ 2 3) w = sI σ 1 2 := by
        unfold lkV; rw [if_neg (by omega), if_neg (by omega), if_neg (by omega), if_neg (by omega), if_neg (by omega), if_pos (by omega)]
      refine ⟨hB1, FQ.up rfl F1, ?_⟩
      rw [ev]
    · intro τ1 y1 hB1 F1 f rl _ _
      have f1 := f.1
      have r0 := rl.1
      have r1 := rl.2.1
      have r2 := rl.2.2.1
      have r3 := rl.2.2.2.1
      have ev : lkV (sI σ 3 0) (sI σ 7 0) (sI σ 13 0) (((cntP (opQ (σ.1 20)) D : Nat) : Int)) (sI σ 1 1) (sI σ 1 2) (sI σ 1 0) (sI σ 21 0) (sI σ 31 0) (sI σ 1 3) (sI σ 2 0) (sI σ 2 1) (sI σ 2 2) (sI σ 2 3) w = sI σ 1 1 := by
        unfold lkV; rw [if_neg (by omega), if_neg (by omega), if_neg (by omega), if_neg (by omega), if_pos (by omega)]
      refine ⟨hB1, FQ.up rfl F1, ?_⟩
      rw [ev]
    · intro τ1 y1 hB1 F1 f rl _ _
      have f1 := f.1
      have r0 := rl.1
      have r1 := rl.2.1
      have r2 := rl.2.2.1
      refine Ok.cv rfl rfl rfl rfl rfl rfl rfl ?_
      have ev : lkV (sI σ 3 0) (sI σ 7 0) (sI σ 13 0) (((cntP (opQ (σ.1 20)) D : Nat) : Int)) (sI σ 1 1) (sI σ 1 2) (sI σ 1 0) (sI σ 21 0) (sI σ 31 0) (sI σ 1 3) (sI σ 2 0) (sI σ 2 1) (sI σ 2 2) (sI σ 2 3) w = ((cntP (opQ (σ.1 20)) D : Nat) : Int) := by
        unfold lkV; rw [if_neg (by omega), if_neg (by omega), if_neg (by omega), if_pos (by omega)]
      have cl := cntP_le (opQ (σ.1 20)) D
      have G1 : FQ [] σ τ1 := F1
      refine (x_cop hD ((congrArg Int32.toInt (F1 13 0 rfl)).trans eD) hB1).use (by decide) (fun r τ2 q => ?_)
      obtain ⟨rfl, hB2, F2⟩ := q
      rw [row_fq G1 (P := 20) rfl]
      refine zk_l21 w ((cntP (opQ (σ.1 20)) D : Nat) : Int) hB2 ⟨⟨by omega, by omega⟩, by omega, trivial⟩ ?_
      intro τ3 y3 hB3 F3 _ _ _ _
      refine ⟨hB3, FQ.tr G1 (FQ.tr F2 F3), ?_⟩
      rw [ev]
    · intro τ1 y1 hB1 F1 f rl _ _
      have f1 := f.1
      have r0 := rl.1
      have r1 := rl.2.1
      have ev : lkV (sI σ 3 0) (sI σ 7 0) (sI σ 13 0) (((cntP (opQ (σ.1 20)) D : Nat) : Int)) (sI σ 1 1) (sI σ 1 2) (sI σ 1 0) (sI σ 21 0) (sI σ 31 0) (sI σ 1 3) (sI σ 2 0) (sI σ 2 1) (sI σ 2 2) (sI σ 2 3) w = sI σ 13 0 := by
        unfold lkV; rw [if_neg (by omega), if_neg (by omega), if_pos (by omega)]
      refine ⟨hB1, FQ.up rfl F1, ?_⟩
      rw [ev]
    · intro τ1 y1 hB1 F1 f rl _ _
      have f1 := f.1
      have r0 := rl.1
      have ev : lkV (sI σ 3 0) (sI σ 7 0) (sI σ 13 0) (((cntP (opQ (σ.1 20)) D : Nat) : Int)) (sI σ 1 1) (sI σ 1 2) (sI σ 1 0) (sI σ 21 0) (sI σ 31 0) (sI σ 1 3) (sI σ 2 0) (sI σ 2 1) (sI σ 2 2) (sI σ 2 3) w = sI σ 7 0 := by
        unfold lkV; rw [if_neg (by omega), if_pos (by omega)]
      refine ⟨hB1, FQ.up rfl F1, ?_⟩
      rw [ev]
    · intro τ1 y1 hB1 F1 f rl _ _
      have f1 := f.1
      have ev : lkV (sI σ 3 0) (sI σ 7 0) (sI σ 13 0) (((cntP (opQ (σ.1 20)) D : Nat) : Int)) (sI σ 1 1) (sI σ 1 2) (sI σ 1 0) (sI σ 21 0) (sI σ 31 0) (sI σ 1 3) (sI σ 2 0) (sI σ 2 1) (sI σ 2 2) (sI σ 2 3) w = sI σ 3 0 := by
        unfold lkV; rw [if_pos (by omega)]
      refine ⟨hB1, FQ.up rfl F1, ?_⟩
      rw [ev]
  · subst h
    refine zk_l0 (sI σ 2 0) hB ⟨s0, trivial⟩ ⟨rfl, trivial⟩ ?_
    · intro τ1 y1 hB1 F1 f rl _ _
      have ev : lkV (sI σ 3 0) (sI σ 7 0) (sI σ 13 0) (((cntP (opQ (σ.1 20)) D : Nat) : Int)) (sI σ 1 1) (sI σ 1 2) (sI σ 1 0) (sI σ 21 0) (sI σ 31 0) (sI σ 1 3) (sI σ 2 0) (sI σ 2 1) (sI σ 2 2) (sI σ 2 3) 20 = sI σ 2 0 := by
        rfl
      refine ⟨hB1, FQ.up rfl F1, ?_⟩
      rw [ev]
  · subst h
    refine zk_l1 (sI σ 2 1) hB ⟨s1, trivial⟩ ⟨rfl, trivial⟩ ?_
    · intro τ1 y1 hB1 F1 f rl _ _
      have ev : lkV (sI σ 3 0) (sI σ 7 0) (sI σ 13 0) (((cntP (opQ (σ.1 20)) D : Nat) : Int)) (sI σ 1 1) (sI σ 1 2) (sI σ 1 0) (sI σ 21 0) (sI σ 31 0) (sI σ 1 3) (sI σ 2 0) (sI σ 2 1) (sI σ 2 2) (sI σ 2 3) 21 = sI σ 2 1 := by
        rfl
      refine ⟨hB1, FQ.up rfl F1, ?_⟩
      rw [ev]
  · subst h
    refine zk_l2 (sI σ 2 2) hB ⟨s2, trivial⟩ ⟨rfl, trivial⟩ ?_
    · intro τ1 y1 hB1 F1 f rl _ _
      have ev : lkV (sI σ 3 0) (sI σ 7 0) (sI σ 13 0) (((cntP (opQ (σ.1 20)) D : Nat) : Int)) (sI σ 1 1) (sI σ 1 2) (sI σ 1 0) (sI σ 21 0) (sI σ 31 0) (sI σ 1 3) (sI σ 2 0) (sI σ 2 1) (sI σ 2 2) (sI σ 2 3) 22 = sI σ 2 2 := by
        rfl
      refine ⟨hB1, FQ.up rfl F1, ?_⟩
      rw [ev]
  · subst h
    refine zk_l3 (sI σ 2 3) hB ⟨s3, trivial⟩ ⟨rfl, trivial⟩ ?_
    · intro τ1 y1 hB1 F1 f rl _ _
      have ev : lkV (sI σ 3 0) (sI σ 7 0) (sI σ 13 0) (((cntP (opQ (σ.1 20)) D : Nat) : Int)) (sI σ 1 1) (sI σ 1 2) (sI σ 1 0) (sI σ 21 0) (sI σ 31 0) (sI σ 1 3) (sI σ 2 0) (sI σ 2 1) (sI σ 2 2) (sI σ 2 3) 23 = sI σ 2 3 := by
        rfl
      refine ⟨hB1, FQ.up rfl F1, ?_⟩
      rw [ev]
  · refine zk_lp w (sI σ 3 0) (sI σ 7 0) (sI σ 13 0) (sI σ 1 1) (sI σ 1 2) (sI σ 1 0) (sI σ 21 0) (sI σ 31 0) (sI σ 1 3) hB ⟨⟨by omega, by omega⟩, b0, b1, b2, hs, ai_rng _, ai_rng _, hn, hl, b8, trivial⟩ ⟨rfl, rfl, rfl, rfl, rfl, rfl, rfl, rfl, rfl, trivial⟩ ?_
    · intro τ1 y1 hB1 F1 f rl _ _
      have f1 := f.1
      have r0 := rl.1
      have r1 := rl.2.1
      have r2 := rl.2.2.1
      have r3 := rl.2.2.2.1
      have r4 := rl.2.2.2.2.1
      have r5 := rl.2.2.2.2.2.1
      have r6 := rl.2.2.2.2.2.2.1
      have r7 := rl.2.2.2.2.2.2.2.1
      have r8 := rl.2.2.2.2.2.2.2.2.1
      have r9 := rl.2.2.2.2.2.2.2.2.2.1
      have ev : lkV (sI σ 3 0) (sI σ 7 0) (sI σ 13 0) (((cntP (opQ (σ.1 20)) D : Nat) : Int)) (sI σ 1 1) (sI σ 1 2) (sI σ 1 0) (sI σ 21 0) (sI σ 31 0) (sI σ 1 3) (sI σ 2 0) (sI σ 2 1) (sI σ 2 2) (sI σ 2 3) w = -1 := by
        unfold lkV; rw [if_neg (by omega), if_neg (by omega), if_neg (by omega), if_neg (by omega), if_neg (by omega), if_neg (by omega), if_neg (by omega), if_neg (by omega), if_neg (by omega), if_neg (by omega), if_neg (by omega), if_neg (by omega), if_neg (by omega), if_neg (by omega)]
      refine ⟨hB1, FQ.up rfl F1, ?_⟩
      rw [ev]
set_option maxRecDepth 20000 in
theorem x_lkm {σ : pm_S} (w : Int) (hw : (-2147483648) ≤ w ∧ w ≤ 2147483647) {D : Nat} (hD : D ≤ 30) (eD : sI σ 93 11 = (D : Int)) (hs : 0 ≤ sI σ 93 19 ∧ sI σ 93 19 ≤ 9999) (hl : 0 ≤ sI σ 93 36 ∧ sI σ 93 36 ≤ 16) (hf : 0 ≤ sI σ 93 21 ∧ sI σ 93 21 ≤ 1) (hB : an_GB pm_B σ) : Sp 246 22 [.ref 93, .int (Int32.ofInt w)] σ (fun r τ => an_GB pm_B τ ∧ FQ [(93, 0), (93, 55), (125, 9999)] σ τ ∧ r = some (.int (Int32.ofInt (lkV (sI σ 93 2) (sI σ 93 5) (sI σ 93 11) (((cntP (opQ (σ.1 107)) D : Nat) : Int)) (sI σ 93 19) (sI σ 93 20) (sI σ 93 1) (sI σ 93 23) (sI σ 93 36) (sI σ 93 21) (sI σ 108 0) (sI σ 108 1) (sI σ 108 2) (sI σ 108 3) w)))) := by
  have b0 : 0 ≤ sI σ 93 2 ∧ sI σ 93 2 ≤ 10 := hB 93 2 (by decide)
  have b1 : 0 ≤ sI σ 93 5 ∧ sI σ 93 5 ≤ 10 := hB 93 5 (by decide)
  have b2 : 0 ≤ sI σ 93 11 ∧ sI σ 93 11 ≤ 30 := hB 93 11 (by decide)
  have b6 : 0 ≤ sI σ 93 23 ∧ sI σ 93 23 ≤ 30 := hB 93 23 (by decide)
  have s0 : 0 ≤ sI σ 108 0 ∧ sI σ 108 0 ≤ 100 := hB 108 0 (by decide)
  have s1 : 0 ≤ sI σ 108 1 ∧ sI σ 108 1 ≤ 99 := hB 108 1 (by decide)
  have s2 : 0 ≤ sI σ 108 2 ∧ sI σ 108 2 ≤ 1 := hB 108 2 (by decide)
  have s3 : 1 ≤ sI σ 108 3 ∧ sI σ 108 3 ≤ 52 := hB 108 3 (by decide)
  refine Sp.at rfl rfl ?_
  rcases (show w ≤ 19 ∨ w = 20 ∨ w = 21 ∨ w = 22 ∨ w = 23 ∨ 24 ≤ w by omega) with h | h | h | h | h | h
  · refine zk_na w (sI σ 93 2) (sI σ 93 5) (sI σ 93 11) (sI σ 93 19) (sI σ 93 20) (sI σ 93 1) (sI σ 93 23) (sI σ 93 36) (sI σ 93 21) hB ⟨⟨by omega, by omega⟩, b0, b1, b2, hs, ai_rng _, ai_rng _, b6, hl, hf, trivial⟩ ⟨rfl, rfl, rfl, rfl, rfl, rfl, rfl, rfl, rfl, trivial⟩ ?_ ?_ ?_ ?_ ?_ ?_ ?_ ?_ ?_ ?_ ?_
    · intro τ1 y1 hB1 F1 f rl _ _
      have f1 := f.1
      have r0 := rl.1
      have r1 := rl.2.1
      have r2 := rl.2.2.1
      have r3 := rl.2.2.2.1
      have r4 := rl.2.2.2.2.1
      have r5 := rl.2.2.2.2.2.1
      have r6 := rl.2.2.2.2.2.2.1
      have r7 := rl.2.2.2.2.2.2.2.1
      have r8 := rl.2.2.2.2.2.2.2.2.1
      have r9 := rl.2.2.2.2.2.2.2.2.2.1
      have ev : lkV (sI σ 93 2) (sI σ 93 5) (sI σ 93 11) (((cntP (opQ (σ.1 107)) D : Nat) : Int)) (sI σ 93 19) (sI σ 93 20) (sI σ 93 1) (sI σ 93 23) (sI σ 93 36) (sI σ 93 21) (sI σ 108 0) (sI σ 108 1) (sI σ 108 2) (sI σ 108 3) w = -1 := by
        unfold lkV; rw [if_neg (by omega), if_neg (by omega), if_neg (by omega), if_neg (by omega), if_neg (by omega), if_neg (by omega), if_neg (by omega), if_neg (by omega), if_neg (by omega), if_neg (by omega), if_neg (by omega), if_neg (by omega), if_neg (by omega), if_neg (by omega)]
      refine ⟨hB1, FQ.up rfl F1, ?_⟩
      rw [ev]
    · intro τ1 y1 hB1 F1 f rl _ _
      have f1 := f.1
      have r0 := rl.1
      have r1 := rl.2.1
      have r2 := rl.2.2.1
      have r3 := rl.2.2.2.1
      have r4 := rl.2.2.2.2.1
      have r5 := rl.2.2.2.2.2.1
      have r6 := rl.2.2.2.2.2.2.1
      have r7 := rl.2.2.2.2.2.2.2.1
      have r8 := rl.2.2.2.2.2.2.2.2.1
      have ev : lkV (sI σ 93 2) (sI σ 93 5) (sI σ 93 11) (((cntP (opQ (σ.1 107)) D : Nat) : Int)) (sI σ 93 19) (sI σ 93 20) (sI σ 93 1) (sI σ 93 23) (sI σ 93 36) (sI σ 93 21) (sI σ 108 0) (sI σ 108 1) (sI σ 108 2) (sI σ 108 3) w = sI σ 93 21 := by
        unfold lkV; rw [if_neg (by omega), if_neg (by omega), if_neg (by omega), if_neg (by omega), if_neg (by omega), if_neg (by omega), if_neg (by omega), if_neg (by omega), if_neg (by omega), if_pos (by omega)]
      refine ⟨hB1, FQ.up rfl F1, ?_⟩
      rw [ev]
    · intro τ1 y1 hB1 F1 f rl _ _
      have f1 := f.1
      have r0 := rl.1
      have r1 := rl.2.1
      have r2 := rl.2.2.1
      have r3 := rl.2.2.2.1
      have r4 := rl.2.2.2.2.1
      have r5 := rl.2.2.2.2.2.1
      have r6 := rl.2.2.2.2.2.2.1
      have r7 := rl.2.2.2.2.2.2.2.1
      have ev : lkV (sI σ 93 2) (sI σ 93 5) (sI σ 93 11) (((cntP (opQ (σ.1 107)) D : Nat) : Int)) (sI σ 93 19) (sI σ 93 20) (sI σ 93 1) (sI σ 93 23) (sI σ 93 36) (sI σ 93 21) (sI σ 108 0) (sI σ 108 1) (sI σ 108 2) (sI σ 108 3) w = sI σ 93 36 := by
        unfold lkV; rw [if_neg (by omega), if_neg (by omega), if_neg (by omega), if_neg (by omega), if_neg (by omega), if_neg (by omega), if_neg (by omega), if_neg (by omega), if_pos (by omega)]
      refine ⟨hB1, FQ.up rfl F1, ?_⟩
      rw [ev]
    · intro τ1 y1 hB1 F1 f rl _ _
      have f1 := f.1
      have r0 := rl.1
      have r1 := rl.2.1
      have r2 := rl.2.2.1
      have r3 := rl.2.2.2.1
      have r4 := rl.2.2.2.2.1
      have r5 := rl.2.2.2.2.2.1
      have r6 := rl.2.2.2.2.2.2.1
      have ev : lkV (sI σ 93 2) (sI σ 93 5) (sI σ 93 11) (((cntP (opQ (σ.1 107)) D : Nat) : Int)) (sI σ 93 19) (sI σ 93 20) (sI σ 93 1) (sI σ 93 23) (sI σ 93 36) (sI σ 93 21) (sI σ 108 0) (sI σ 108 1) (sI σ 108 2) (sI σ 108 3) w = sI σ 93 23 := by
        unfold lkV; rw [if_neg (by omega), if_neg (by omega), if_neg (by omega), if_neg (by omega), if_neg (by omega), if_neg (by omega), if_neg (by omega), if_pos (by omega)]
      refine ⟨hB1, FQ.up rfl F1, ?_⟩
      rw [ev]
    · intro τ1 y1 hB1 F1 f rl _ _
      have f1 := f.1
      have r0 := rl.1
      have r1 := rl.2.1
      have r2 := rl.2.2.1
      have r3 := rl.2.2.2.1
      have r4 := rl.2.2.2.2.1
      have r5 := rl.2.2.2.2.2.1
      have ev : lkV (sI σ 93 2) (sI σ 93 5) (sI σ 93 11) (((cntP (opQ (σ.1 107)) D : Nat) : Int)) (sI σ 93 19) (sI σ 93 20) (sI σ 93 1) (sI σ 93 23) (sI σ 93 36) (sI σ 93 21) (sI σ 108 0) (sI σ 108 1) (sI σ 108 2) (sI σ 108 3) w = sI σ 93 1 := by
        unfold lkV; rw [if_neg (by omega), if_neg (by omega), if_neg (by omega), if_neg (by omega), if_neg (by omega), if_neg (by omega), if_pos (by omega)]
      refine ⟨hB1, FQ.up rfl F1, ?_⟩
      rw [ev]
    · intro τ1 y1 hB1 F1 f rl _ _
      have f1 := f.1
      have r0 := rl.1
      have r1 := rl.2.1
      have r2 := rl.2.2.1
      have r3 := rl.2.2.2.1
      have r4 := rl.2.2.2.2.1
      have ev : lkV (sI σ 93 2) (sI σ 93 5) (sI σ 93 11) (((cntP (opQ (σ.1 107)) D : Nat) : Int)) (sI σ 93 19) (sI σ 93 20) (sI σ 93 1) (sI σ 93 23) (sI σ 93 36) (sI σ 93 21) (sI σ 108 0) (sI σ 108 1) (sI σ 108 2) (sI σ 108 3) w = sI σ 93 20 := by
        unfold lkV; rw [if_neg (by omega), if_neg (by omega), if_neg (by omega), if_neg (by omega), if_neg (by omega), if_pos (by omega)]
      refine ⟨hB1, FQ.up rfl F1, ?_⟩
      rw [ev]
    · intro τ1 y1 hB1 F1 f rl _ _
      have f1 := f.1
      have r0 := rl.1
      have r1 := rl.2.1
      have r2 := rl.2.2.1
      have r3 := rl.2.2.2.1
      have ev : lkV (sI σ 93 2) (sI σ 93 5) (sI σ 93 11) (((cntP (opQ (σ.1 107)) D : Nat) : Int)) (sI σ 93 19) (sI σ 93 20) (sI σ 93 1) (sI σ 93 23) (sI σ 93 36) (sI σ 93 21) (sI σ 108 0) (sI σ 108 1) (sI σ 108 2) (sI σ 108 3) w = sI σ 93 19 := by
        unfold lkV; rw [if_neg (by omega), if_neg (by omega), if_neg (by omega), if_neg (by omega), if_pos (by omega)]
      refine ⟨hB1, FQ.up rfl F1, ?_⟩
      rw [ev]
    · intro τ1 y1 hB1 F1 f rl _ _
      have f1 := f.1
      have r0 := rl.1
      have r1 := rl.2.1
      have r2 := rl.2.2.1
      refine Ok.cv rfl rfl rfl rfl rfl rfl rfl ?_
      have ev : lkV (sI σ 93 2) (sI σ 93 5) (sI σ 93 11) (((cntP (opQ (σ.1 107)) D : Nat) : Int)) (sI σ 93 19) (sI σ 93 20) (sI σ 93 1) (sI σ 93 23) (sI σ 93 36) (sI σ 93 21) (sI σ 108 0) (sI σ 108 1) (sI σ 108 2) (sI σ 108 3) w = ((cntP (opQ (σ.1 107)) D : Nat) : Int) := by
        unfold lkV; rw [if_neg (by omega), if_neg (by omega), if_neg (by omega), if_pos (by omega)]
      have cl := cntP_le (opQ (σ.1 107)) D
      have G1 : FQ [(93, 0)] σ τ1 := F1
      refine (x_tko hD ((congrArg Int32.toInt (F1 93 11 rfl)).trans eD) hB1).use (by decide) (fun r τ2 q => ?_)
      obtain ⟨rfl, hB2, F2, e55⟩ := q
      rw [row_fq G1 (P := 107) rfl] at e55
      refine zk_n26 w ((cntP (opQ (σ.1 107)) D : Nat) : Int) hB2 ⟨⟨by omega, by omega⟩, by omega, trivial⟩ ⟨e55, trivial⟩ ?_
      intro τ3 y3 hB3 F3 _ _ _ _
      refine ⟨hB3, FQ.tr (FQ.up (G := [(93, 0)]) rfl G1) (FQ.tr (FQ.up (G := FTo) rfl F2) (FQ.up (G := []) rfl F3)), ?_⟩
      rw [ev]
    · intro τ1 y1 hB1 F1 f rl _ _
      have f1 := f.1
      have r0 := rl.1
      have r1 := rl.2.1
      have ev : lkV (sI σ 93 2) (sI σ 93 5) (sI σ 93 11) (((cntP (opQ (σ.1 107)) D : Nat) : Int)) (sI σ 93 19) (sI σ 93 20) (sI σ 93 1) (sI σ 93 23) (sI σ 93 36) (sI σ 93 21) (sI σ 108 0) (sI σ 108 1) (sI σ 108 2) (sI σ 108 3) w = sI σ 93 11 := by
        unfold lkV; rw [if_neg (by omega), if_neg (by omega), if_pos (by omega)]
      refine ⟨hB1, FQ.up rfl F1, ?_⟩
      rw [ev]
    · intro τ1 y1 hB1 F1 f rl _ _
      have f1 := f.1
      have r0 := rl.1
      have ev : lkV (sI σ 93 2) (sI σ 93 5) (sI σ 93 11) (((cntP (opQ (σ.1 107)) D : Nat) : Int)) (sI σ 93 19) (sI σ 93 20) (sI σ 93 1) (sI σ 93 23) (sI σ 93 36) (sI σ 93 21) (sI σ 108 0) (sI σ 108 1) (sI σ 108 2) (sI σ 108 3) w = sI σ 93 5 := by
        unfold lkV; rw [if_neg (by omega), if_pos (by omega)]
      refine ⟨hB1, FQ.up rfl F1, ?_⟩
      rw [ev]
    · intro τ1 y1 hB1 F1 f rl _ _
      have f1 := f.1
      have ev : lkV (sI σ 93 2) (sI σ 93 5) (sI σ 93 11) (((cntP (opQ (σ.1 107)) D : Nat) : Int)) (sI σ 93 19) (sI σ 93 20) (sI σ 93 1) (sI σ 93 23) (sI σ 93 36) (sI σ 93 21) (sI σ 108 0) (sI σ 108 1) (sI σ 108 2) (sI σ 108 3) w = sI σ 93 2 := by
        unfold lkV; rw [if_pos (by omega)]
      refine ⟨hB1, FQ.up rfl F1, ?_⟩
      rw [ev]
  · subst h
    refine zk_n0 (sI σ 108 0) hB ⟨s0, trivial⟩ ⟨rfl, trivial⟩ ?_
    · intro τ1 y1 hB1 F1 f rl _ _
      have ev : lkV (sI σ 93 2) (sI σ 93 5) (sI σ 93 11) (((cntP (opQ (σ.1 107)) D : Nat) : Int)) (sI σ 93 19) (sI σ 93 20) (sI σ 93 1) (sI σ 93 23) (sI σ 93 36) (sI σ 93 21) (sI σ 108 0) (sI σ 108 1) (sI σ 108 2) (sI σ 108 3) 20 = sI σ 108 0 := by
        rfl
      refine ⟨hB1, FQ.up rfl F1, ?_⟩
      rw [ev]
  · subst h
    refine zk_n1 (sI σ 108 1) hB ⟨s1, trivial⟩ ⟨rfl, trivial⟩ ?_
    · intro τ1 y1 hB1 F1 f rl _ _
      have ev : lkV (sI σ 93 2) (sI σ 93 5) (sI σ 93 11) (((cntP (opQ (σ.1 107)) D : Nat) : Int)) (sI σ 93 19) (sI σ 93 20) (sI σ 93 1) (sI σ 93 23) (sI σ 93 36) (sI σ 93 21) (sI σ 108 0) (sI σ 108 1) (sI σ 108 2) (sI σ 108 3) 21 = sI σ 108 1 := by
        rfl
      refine ⟨hB1, FQ.up rfl F1, ?_⟩
      rw [ev]
  · subst h
    refine zk_n2 (sI σ 108 2) hB ⟨s2, trivial⟩ ⟨rfl, trivial⟩ ?_
    · intro τ1 y1 hB1 F1 f rl _ _
      have ev : lkV (sI σ 93 2) (sI σ 93 5) (sI σ 93 11) (((cntP (opQ (σ.1 107)) D : Nat) : Int)) (sI σ 93 19) (sI σ 93 20) (sI σ 93 1) (sI σ 93 23) (sI σ 93 36) (sI σ 93 21) (sI σ 108 0) (sI σ 108 1) (sI σ 108 2) (sI σ 108 3) 22 = sI σ 108 2 := by
        rfl
      refine ⟨hB1, FQ.up rfl F1, ?_⟩
      rw [ev]
  · subst h
    refine zk_n3 (sI σ 108 3) hB ⟨s3, trivial⟩ ⟨rfl, trivial⟩ ?_
    · intro τ1 y1 hB1 F1 f rl _ _
      have ev : lkV (sI σ 93 2) (sI σ 93 5) (sI σ 93 11) (((cntP (opQ (σ.1 107)) D : Nat) : Int)) (sI σ 93 19) (sI σ 93 20) (sI σ 93 1) (sI σ 93 23) (sI σ 93 36) (sI σ 93 21) (sI σ 108 0) (sI σ 108 1) (sI σ 108 2) (sI σ 108 3) 23 = sI σ 108 3 := by
        rfl
      refine ⟨hB1, FQ.up rfl F1, ?_⟩
      rw [ev]
  · refine zk_np w (sI σ 93 2) (sI σ 93 5) (sI σ 93 11) (sI σ 93 19) (sI σ 93 20) (sI σ 93 1) (sI σ 93 23) (sI σ 93 36) (sI σ 93 21) hB ⟨⟨by omega, by omega⟩, b0, b1, b2, hs, ai_rng _, ai_rng _, b6, hl, hf, trivial⟩ ⟨rfl, rfl, rfl, rfl, rfl, rfl, rfl, rfl, rfl, trivial⟩ ?_
    · intro τ1 y1 hB1 F1 f rl _ _
      have f1 := f.1
      have r0 := rl.1
      have r1 := rl.2.1
      have r2 := rl.2.2.1
      have r3 := rl.2.2.2.1
      have r4 := rl.2.2.2.2.1
      have r5 := rl.2.2.2.2.2.1
      have r6 := rl.2.2.2.2.2.2.1
      have r7 := rl.2.2.2.2.2.2.2.1
      have r8 := rl.2.2.2.2.2.2.2.2.1
      have r9 := rl.2.2.2.2.2.2.2.2.2.1
      have ev : lkV (sI σ 93 2) (sI σ 93 5) (sI σ 93 11) (((cntP (opQ (σ.1 107)) D : Nat) : Int)) (sI σ 93 19) (sI σ 93 20) (sI σ 93 1) (sI σ 93 23) (sI σ 93 36) (sI σ 93 21) (sI σ 108 0) (sI σ 108 1) (sI σ 108 2) (sI σ 108 3) w = -1 := by
        unfold lkV; rw [if_neg (by omega), if_neg (by omega), if_neg (by omega), if_neg (by omega), if_neg (by omega), if_neg (by omega), if_neg (by omega), if_neg (by omega), if_neg (by omega), if_neg (by omega), if_neg (by omega), if_neg (by omega), if_neg (by omega), if_neg (by omega)]
      refine ⟨hB1, FQ.up rfl F1, ?_⟩
      rw [ev]
set_option maxRecDepth 20000 in
theorem tt_look (a1 : Int32) : Two 1 true IT IT 152 246 [.int a1] := by
  rw [← oI a1]
  have o1 := ai_rng a1
  generalize a1.toInt = w at o1
  refine two_TE (GC := []) (GM := [(93, 0), (93, 55), (125, 9999)]) (by decide +kernel) (by decide +kernel) rfl rfl (fun σ v τ => ∃ (D N S : Nat) (ls : List (List Int)), TW D N S ls σ ∧ v = lkV (sI σ 3 0) (sI σ 7 0) (sI σ 13 0) ((cntP (opQ (σ.1 20)) D : Nat) : Int) (sI σ 1 1) (sI σ 1 2) (sI σ 1 0) (sI σ 21 0) (sI σ 31 0) (sI σ 1 3) (sI σ 2 0) (sI σ 2 1) (sI σ 2 2) (sI σ 2 3) w) (fun σ hI => ?_) (fun σ τ v hI x F1 hB1 _ => ?_)
  · obtain ⟨D, N, S, ls, w'⟩ := RT.o hI.2.2.1.2.1
    have hb := w'.2.1.1
    have b23 : 0 ≤ sI σ 93 23 ∧ sI σ 93 23 ≤ 30 := hI.1 93 23 (by decide)
    have e21 : sI σ 21 0 = sI σ 93 23 := congrArg Int32.toInt (RT.k hI.2.2.1.2.1)
    have l16 := w'.2.2.2.2.2.1
    have l31 := w'.2.2.2.2.2.2.2.1.1
    refine (x_lkc w o1 hb.1 w'.1.1 w'.2.2.1 (by omega) (by omega) hI.1).use (by decide) (fun r τ q => ?_)
    obtain ⟨hB, F, rfl⟩ := q
    exact ⟨_, rfl, hB, F, D, N, S, ls, w', rfl⟩
  · obtain ⟨D, N, S, ls, w', rfl⟩ := x
    have e1 : τ.1 = σ.1 := fq0 F1
    have wt : TW D N S ls τ := w'.fq rfl rfl rfl rfl rfl rfl rfl rfl rfl rfl F1
    have e21 : sI τ 21 0 = sI τ 93 23 := by
      show (τ.1 21 0).toInt = (τ.1 93 23).toInt
      rw [e1]
      exact congrArg Int32.toInt (RT.k hI.2.2.1.2.1)
    obtain ⟨⟨c1, c2, c3, c4, c5, c6⟩, ⟨hb, ⟨h1, h2, h3, h4, h5⟩, hS, hp, hd, hl⟩, s, wy, z, l16, l, ⟨c0, cw⟩, m⟩ := id wt
    have m0 := m.1
    have f1 : 0 ≤ sI τ 1 3 ∧ sI τ 1 3 ≤ 1 := hB1 1 3 (by decide)
    have g1 : sI τ 1 0 = sI τ 93 1 := congrArg Int32.toInt h1
    have g2 : sI τ 1 1 = sI τ 93 19 := congrArg Int32.toInt h2
    have g3 : sI τ 1 2 = sI τ 93 20 := congrArg Int32.toInt h3
    have g4 : sI τ 1 3 = sI τ 93 21 := congrArg Int32.toInt h4
    have g5 : ∀ j, j < 4 → sI τ 2 j = sI τ 108 j := fun j hj => congrArg Int32.toInt (h5 j hj)
    refine (x_lkm w o1 hb.1 c4 (by omega) (by show 0 ≤ cI τ 36 ∧ cI τ 36 ≤ 16; omega) (by omega) hB1).use (by decide) (fun r τ2 q => ?_)
    obtain ⟨hB2, F2, rfl⟩ := q
    have w2 : TW D N S ls τ2 := wt.fq rfl rfl rfl rfl rfl rfl rfl rfl rfl rfl F2
    refine ⟨?_, hB2, F2, D, N, S, ls, w2⟩
    have en : cntP (opQ (τ.1 107)) D = cntP (opQ (σ.1 20)) D := cntP_e D (fun i hi => by
      show decide (τ.1 107 i = 0) = decide (σ.1 20 i = 0)
      rw [← (hd i hi).2.2.2.2.2.2, e1])
    have eq : ∀ p j, sI σ p j = sI τ p j := fun p j => by
      show _ = (τ.1 p j).toInt
      rw [e1]
    rw [en, eq, eq, eq, eq, eq, eq, eq, eq, eq, eq, eq, eq, eq, g1, g2, g3, g4, e21, g5 0 (by decide), g5 1 (by decide), g5 2 (by decide), g5 3 (by decide), show sI τ 3 0 = sI τ 93 2 from c3.trans c6.symm, show sI τ 7 0 = sI τ 93 5 from c2.trans c5.symm, show sI τ 13 0 = sI τ 93 11 from c1.trans c4.symm, show sI τ 31 0 = sI τ 93 36 from c0.trans m0.symm]
