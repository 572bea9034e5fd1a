/-! segments of readText, text, isSo, lets, by program, each checked by the kernel -/
set_option maxRecDepth 100000 in
theorem sg_rT0 {σ : pm_S} {Q : Option Value → pm_S → Prop} (v1 : Value) (v2 : Value) (hv1 : v1.category = 1) (hv2 : v2.category = 1) (hB : an_GB pm_B σ)
    (l0 : ∀ (τ : pm_S) (y : Nat → Int) (v2 : Value), v2.category = 1 → an_GB pm_B τ → FQ [] σ τ → (True) → (True) → (True) → (True) → Ok 194 101 2 [.ref 93, .int (Int32.ofInt 0), v2] [] τ Q)
    : Ok 194 101 0 [.ref 93, v1, v2] [] σ Q := by
  refine an_seg (B := pm_B) (F := []) (T := []) (S := []) (fun _ h => absurd h List.not_mem_nil) (k := 194) (d := 100) (cs := [2]) 4 0 0 [] [] [(2, 93, 0), (5, 0, 0), (5, 0, 0)] [] [(2, [(2, 93, 0), (1, 0, 0), (5, 0, 0)], [], [], [], [], [])] (by decide +kernel) (ρ0 := (fun s => [].getD s 0)) hB trivial trivial ⟨rfl, ⟨hv1, ⟨hv2, trivial⟩⟩⟩ trivial ?_
  refine List.forall_mem_cons.mpr ⟨?_, fun _ h => absurd h List.not_mem_nil⟩
  · intro ρ τ Lc stc hx g1 g2 g3 g4 g5 g6 g7 g8
    have g7 := g7 (by decide)
    match Lc, stc, g7, g8 with
    | [v0, v1, v2], [], ⟨hv0, hv1, hv2, _⟩, _ =>
      cases hv0
      cases hv1
      exact l0 τ ρ v2 hv2 g1 g2 g3 g4 g5 g6
set_option maxRecDepth 100000 in
theorem sg_rT2 {σ : pm_S} {Q : Option Value → pm_S → Prop} (x0 x1 x2 : Int) (v2 : Value) (hv2 : v2.category = 1) (hB : an_GB pm_B σ) (eF : (0 ≤ x0 ∧ x0 ≤ 4) ∧ ((-2147483648) ≤ x1 ∧ x1 ≤ 2147483647) ∧ (0 ≤ x2 ∧ x2 ≤ 16) ∧ True) (eC : (σ.1 93 33).toInt = x0 ∧ (σ.1 93 34).toInt = x1 ∧ True)
    (l0 : ∀ (τ : pm_S) (y : Nat → Int), an_GB pm_B τ → FQ [(93, 46), (93, 47)] σ τ → ((1 ≤ x0 ∧ x0 ≤ 4) ∧ ((-2147483648) ≤ x1 ∧ x1 ≤ 2147483647) ∧ (0 ≤ x2 ∧ x2 ≤ 16) ∧ True) → (True) → (True) → (True) → Q (some (.int (Int32.ofInt (-1)))) τ)
    (l1 : ∀ (τ : pm_S) (y : Nat → Int), an_GB pm_B τ → FQ [(93, 46), (93, 47)] σ τ → ((0 ≤ x0 ∧ x0 ≤ 0) ∧ ((-2147483648) ≤ x1 ∧ x1 ≤ 2147483647) ∧ (0 ≤ x2 ∧ x2 ≤ 16) ∧ True) → (x0 ≠ 2 ∧ True) → (True) → (True) → Q (some (.int (Int32.ofInt (x2)))) τ)
    (l2 : ∀ (τ : pm_S) (y : Nat → Int), an_GB pm_B τ → FQ [(93, 46), (93, 47)] σ τ → ((2 ≤ x0 ∧ x0 ≤ 2) ∧ ((-2147483648) ≤ x1 ∧ x1 ≤ 1) ∧ (0 ≤ x2 ∧ x2 ≤ 15) ∧ True) → (True) → (True) → (True) → Ok 194 101 26 [.ref 93, .int (Int32.ofInt (x2)), .int (Int32.ofInt (x2 + 16))] [.int (Int32.ofInt (x1)), .int (Int32.ofInt (x2 + 16)), .ref 116] τ Q)
    : Ok 194 101 2 [.ref 93, .int (Int32.ofInt (x2)), v2] [] σ Q := by
  refine an_seg (B := pm_B) (F := [(93, 46), (93, 47)]) (T := []) (S := []) (fun _ h => absurd h List.not_mem_nil) (k := 194) (d := 100) (cs := [26]) 26 2 3 [(0, 0, 4), (1, (-2147483648), 2147483647), (2, 0, 16)] [(93, (1, 0, 33), (0, 0, 0)), (93, (1, 0, 34), (0, 1, 0))] [(2, 93, 0), (0, 2, 0), (5, 0, 0)] [] [(9999, [], [(1, 0, (-1))], [(0, 1, 4), (1, (-2147483648), 2147483647), (2, 0, 16)], [], [], []),
    (9999, [], [(0, 2, 0)], [(0, 0, 0), (1, (-2147483648), 2147483647), (2, 0, 16)], [(3, 0, 0, 2)], [], []),
    (26, [(2, 93, 0), (0, 2, 0), (0, 2, 16)], [(0, 1, 0), (0, 2, 16), (2, 116, 0)], [(0, 2, 2), (1, (-2147483648), 1), (2, 0, 15)], [], [], [])] (by decide +kernel) (ρ0 := (fun s => [x0, x1, x2].getD s 0)) hB eF eC ⟨rfl, ⟨rfl, ⟨hv2, trivial⟩⟩⟩ trivial ?_
  refine List.forall_mem_cons.mpr ⟨?_, List.forall_mem_cons.mpr ⟨?_, List.forall_mem_cons.mpr ⟨?_, fun _ h => absurd h List.not_mem_nil⟩⟩⟩
  · intro ρ τ Lc stc hx g1 g2 g3 g4 g5 g6 g7 g8
    have e0 : ρ 0 = x0 := hx 0 (by decide)
    have e1 : ρ 1 = x1 := hx 1 (by decide)
    have e2 : ρ 2 = x2 := hx 2 (by decide)
    subst e0
    subst e1
    subst e2
    match stc, g8 with
    | [_], ⟨h, _⟩ => cases h; exact l0 τ ρ g1 g2 g3 g4 g5 g6
  · intro ρ τ Lc stc hx g1 g2 g3 g4 g5 g6 g7 g8
    have e0 : ρ 0 = x0 := hx 0 (by decide)
    have e1 : ρ 1 = x1 := hx 1 (by decide)
    have e2 : ρ 2 = x2 := hx 2 (by decide)
    subst e0
    subst e1
    subst e2
    match stc, g8 with
    | [_], ⟨h, _⟩ => cases h; exact l1 τ ρ g1 g2 g3 g4 g5 g6
  · intro ρ τ Lc stc hx g1 g2 g3 g4 g5 g6 g7 g8
    have e0 : ρ 0 = x0 := hx 0 (by decide)
    have e1 : ρ 1 = x1 := hx 1 (by decide)
    have e2 : ρ 2 = x2 := hx 2 (by decide)
    subst e0
    subst e1
    subst e2
    have g7 := g7 (by decide)
    match Lc, stc, g7, g8 with
    | [v0, v1, v2], [w0, w1, w2], ⟨hv0, hv1, hv2, _⟩, ⟨hw0, hw1, hw2, _⟩ =>
      cases hv0
      cases hv1
      cases hv2
      cases hw0
      cases hw1
      cases hw2
      exact l2 τ ρ  g1 g2 g3 g4 g5 g6
set_option maxRecDepth 100000 in
theorem sg_rT27 {σ : pm_S} {Q : Option Value → pm_S → Prop} (x0 x1 : Int)  (hB : an_GB pm_B σ) (eF : (0 ≤ x0 ∧ x0 ≤ 15) ∧ (16 ≤ x1 ∧ x1 ≤ 31) ∧ True)
    (l0 : ∀ (τ : pm_S) (y : Nat → Int), an_GB pm_B τ → FQ [] σ τ → ((0 ≤ x0 ∧ x0 ≤ 15) ∧ (16 ≤ x1 ∧ x1 ≤ 31) ∧ True) → (True) → (True) → (True) → Ok 194 101 28 [.ref 93, .int (Int32.ofInt (x0)), .int (Int32.ofInt (x1))] [.ref 93] τ Q)
    : Ok 194 101 27 [.ref 93, .int (Int32.ofInt (x0)), .int (Int32.ofInt (x1))] [] σ Q := by
  refine an_seg (B := pm_B) (F := []) (T := []) (S := []) (fun _ h => absurd h List.not_mem_nil) (k := 194) (d := 100) (cs := [28]) 3 27 2 [(0, 0, 15), (1, 16, 31)] [] [(2, 93, 0), (0, 0, 0), (0, 1, 0)] [] [(28, [(2, 93, 0), (0, 0, 0), (0, 1, 0)], [(2, 93, 0)], [(0, 0, 15), (1, 16, 31)], [], [], [])] (by decide +kernel) (ρ0 := (fun s => [x0, x1].getD s 0)) hB eF trivial ⟨rfl, ⟨rfl, ⟨rfl, trivial⟩⟩⟩ trivial ?_
  refine List.forall_mem_cons.mpr ⟨?_, fun _ h => absurd h List.not_mem_nil⟩
  · intro ρ τ Lc stc hx g1 g2 g3 g4 g5 g6 g7 g8
    have e0 : ρ 0 = x0 := hx 0 (by decide)
    have e1 : ρ 1 = x1 := hx 1 (by decide)
    subst e0
    subst e1
    have g7 := g7 (by decide)
    match Lc, stc, g7, g8 with
    | [v0, v1, v2], [w0], ⟨hv0, hv1, hv2, _⟩, ⟨hw0, _⟩ =>
      cases hv0
      cases hv1
      cases hv2
      cases hw0
      exact l0 τ ρ  g1 g2 g3 g4 g5 g6
set_option maxRecDepth 100000 in
theorem sg_rT29 {σ : pm_S} {Q : Option Value → pm_S → Prop} (x0 x1 x2 : Int)  (hB : an_GB pm_B σ) (eF : (0 ≤ x0 ∧ x0 ≤ 15) ∧ (16 ≤ x1 ∧ x1 ≤ 31) ∧ (0 ≤ x2 ∧ x2 ≤ 400) ∧ True) (eC : (σ.1 93 42).toInt = x2 ∧ True)
    (l0 : ∀ (τ : pm_S) (y : Nat → Int), an_GB pm_B τ → FQ [] σ τ → ((0 ≤ x0 ∧ x0 ≤ 15) ∧ (16 ≤ x1 ∧ x1 ≤ 31) ∧ (0 ≤ x2 ∧ x2 ≤ 400) ∧ True) → (True) → (True) → (True) → Ok 194 101 34 [.ref 93, .int (Int32.ofInt (x0)), .int (Int32.ofInt (x1))] [.int (Int32.ofInt (x2)), .int (Int32.ofInt (x1)), .ref 117] τ Q)
    : Ok 194 101 29 [.ref 93, .int (Int32.ofInt (x0)), .int (Int32.ofInt (x1))] [] σ Q := by
  refine an_seg (B := pm_B) (F := []) (T := []) (S := []) (fun _ h => absurd h List.not_mem_nil) (k := 194) (d := 100) (cs := [34]) 7 29 3 [(0, 0, 15), (1, 16, 31), (2, 0, 400)] [(93, (1, 0, 42), (0, 2, 0))] [(2, 93, 0), (0, 0, 0), (0, 1, 0)] [] [(34, [(2, 93, 0), (0, 0, 0), (0, 1, 0)], [(0, 2, 0), (0, 1, 0), (2, 117, 0)], [(0, 0, 15), (1, 16, 31), (2, 0, 400)], [], [], [])] (by decide +kernel) (ρ0 := (fun s => [x0, x1, x2].getD s 0)) hB eF eC ⟨rfl, ⟨rfl, ⟨rfl, trivial⟩⟩⟩ trivial ?_
  refine List.forall_mem_cons.mpr ⟨?_, fun _ h => absurd h List.not_mem_nil⟩
  · intro ρ τ Lc stc hx g1 g2 g3 g4 g5 g6 g7 g8
    have e0 : ρ 0 = x0 := hx 0 (by decide)
    have e1 : ρ 1 = x1 := hx 1 (by decide)
    have e2 : ρ 2 = x2 := hx 2 (by decide)
    subst e0
    subst e1
    subst e2
    have g7 := g7 (by decide)
    match Lc, stc, g7, g8 with
    | [v0, v1, v2], [w0, w1, w2], ⟨hv0, hv1, hv2, _⟩, ⟨hw0, hw1, hw2, _⟩ =>
      cases hv0
      cases hv1
      cases hv2
      cases hw0
      cases hw1
      cases hw2
      exact l0 τ ρ  g1 g2 g3 g4 g5 g6
set_option maxRecDepth 100000 in
theorem sg_rT35 {σ : pm_S} {Q : Option Value → pm_S → Prop} (x0 x1 x2 x3 : Int)  (hB : an_GB pm_B σ) (eF : (0 ≤ x0 ∧ x0 ≤ 4) ∧ ((-2147483648) ≤ x1 ∧ x1 ≤ 2147483647) ∧ (0 ≤ x2 ∧ x2 ≤ 15) ∧ (16 ≤ x3 ∧ x3 ≤ 31) ∧ True) (eC : (σ.1 93 33).toInt = x0 ∧ (σ.1 93 34).toInt = x1 ∧ True)
    (l0 : ∀ (τ : pm_S) (y : Nat → Int), an_GB pm_B τ → FQ [] σ τ → ((0 ≤ x0 ∧ x0 ≤ 4) ∧ ((-2147483648) ≤ x1 ∧ x1 ≤ 2147483647) ∧ (0 ≤ x2 ∧ x2 ≤ 15) ∧ (16 ≤ x3 ∧ x3 ≤ 31) ∧ True) → (True) → (True) → (True) → Ok 194 101 47 [.ref 93, .int (Int32.ofInt (x2)), .int (Int32.ofInt (x3))] [] τ Q)
    (l1 : ∀ (τ : pm_S) (y : Nat → Int), an_GB pm_B τ → FQ [] σ τ → ((2 ≤ x0 ∧ x0 ≤ 2) ∧ (2 ≤ x1 ∧ x1 ≤ 2) ∧ (0 ≤ x2 ∧ x2 ≤ 15) ∧ (16 ≤ x3 ∧ x3 ≤ 31) ∧ True) → (True) → (True) → (True) → Ok 194 101 40 [.ref 93, .int (Int32.ofInt (x2)), .int (Int32.ofInt (x3))] [.ref 93] τ Q)
    : Ok 194 101 35 [.ref 93, .int (Int32.ofInt (x2)), .int (Int32.ofInt (x3))] [] σ Q := by
  refine an_seg (B := pm_B) (F := []) (T := []) (S := []) (fun _ h => absurd h List.not_mem_nil) (k := 194) (d := 100) (cs := [40, 47]) 18 35 4 [(0, 0, 4), (1, (-2147483648), 2147483647), (2, 0, 15), (3, 16, 31)] [(93, (1, 0, 33), (0, 0, 0)), (93, (1, 0, 34), (0, 1, 0))] [(2, 93, 0), (0, 2, 0), (0, 3, 0)] [] [(47, [(2, 93, 0), (0, 2, 0), (0, 3, 0)], [], [(0, 0, 4), (1, (-2147483648), 2147483647), (2, 0, 15), (3, 16, 31)], [], [], []),
    (40, [(2, 93, 0), (0, 2, 0), (0, 3, 0)], [(2, 93, 0)], [(0, 2, 2), (1, 2, 2), (2, 0, 15), (3, 16, 31)], [], [], [])] (by decide +kernel) (ρ0 := (fun s => [x0, x1, x2, x3].getD s 0)) hB eF eC ⟨rfl, ⟨rfl, ⟨rfl, trivial⟩⟩⟩ trivial ?_
  refine List.forall_mem_cons.mpr ⟨?_, List.forall_mem_cons.mpr ⟨?_, fun _ h => absurd h List.not_mem_nil⟩⟩
  · intro ρ τ Lc stc hx g1 g2 g3 g4 g5 g6 g7 g8
    have e0 : ρ 0 = x0 := hx 0 (by decide)
    have e1 : ρ 1 = x1 := hx 1 (by decide)
    have e2 : ρ 2 = x2 := hx 2 (by decide)
    have e3 : ρ 3 = x3 := hx 3 (by decide)
    subst e0
    subst e1
    subst e2
    subst e3
    have g7 := g7 (by decide)
    match Lc, stc, g7, g8 with
    | [v0, v1, v2], [], ⟨hv0, hv1, hv2, _⟩, _ =>
      cases hv0
      cases hv1
      cases hv2
      exact l0 τ ρ  g1 g2 g3 g4 g5 g6
  · intro ρ τ Lc stc hx g1 g2 g3 g4 g5 g6 g7 g8
    have e0 : ρ 0 = x0 := hx 0 (by decide)
    have e1 : ρ 1 = x1 := hx 1 (by decide)
    have e2 : ρ 2 = x2 := hx 2 (by decide)
    have e3 : ρ 3 = x3 := hx 3 (by decide)
    subst e0
    subst e1
    subst e2
    subst e3
    have g7 := g7 (by decide)
    match Lc, stc, g7, g8 with
    | [v0, v1, v2], [w0], ⟨hv0, hv1, hv2, _⟩, ⟨hw0, _⟩ =>
      cases hv0
      cases hv1
      cases hv2
      cases hw0
      exact l1 τ ρ  g1 g2 g3 g4 g5 g6
set_option maxRecDepth 100000 in
theorem sg_rT41 {σ : pm_S} {Q : Option Value → pm_S → Prop} (x0 x1 : Int)  (hB : an_GB pm_B σ) (eF : (0 ≤ x0 ∧ x0 ≤ 15) ∧ (16 ≤ x1 ∧ x1 ≤ 31) ∧ True)
    (l0 : ∀ (τ : pm_S) (y : Nat → Int), an_GB pm_B τ → FQ [] σ τ → ((0 ≤ x0 ∧ x0 ≤ 15) ∧ (16 ≤ x1 ∧ x1 ≤ 31) ∧ True) → (True) → (True) → (True) → Ok 194 101 42 [.ref 93, .int (Int32.ofInt (x0)), .int (Int32.ofInt (x1))] [.ref 93] τ Q)
    : Ok 194 101 41 [.ref 93, .int (Int32.ofInt (x0)), .int (Int32.ofInt (x1))] [] σ Q := by
  refine an_seg (B := pm_B) (F := []) (T := []) (S := []) (fun _ h => absurd h List.not_mem_nil) (k := 194) (d := 100) (cs := [42]) 3 41 2 [(0, 0, 15), (1, 16, 31)] [] [(2, 93, 0), (0, 0, 0), (0, 1, 0)] [] [(42, [(2, 93, 0), (0, 0, 0), (0, 1, 0)], [(2, 93, 0)], [(0, 0, 15), (1, 16, 31)], [], [], [])] (by decide +kernel) (ρ0 := (fun s => [x0, x1].getD s 0)) hB eF trivial ⟨rfl, ⟨rfl, ⟨rfl, trivial⟩⟩⟩ trivial ?_
  refine List.forall_mem_cons.mpr ⟨?_, fun _ h => absurd h List.not_mem_nil⟩
  · intro ρ τ Lc stc hx g1 g2 g3 g4 g5 g6 g7 g8
    have e0 : ρ 0 = x0 := hx 0 (by decide)
    have e1 : ρ 1 = x1 := hx 1 (by decide)
    subst e0
    subst e1
    have g7 := g7 (by decide)
    match Lc, stc, g7, g8 with
    | [v0, v1, v2], [w0], ⟨hv0, hv1, hv2, _⟩, ⟨hw0, _⟩ =>
      cases hv0
      cases hv1
      cases hv2
      cases hw0
      exact l0 τ ρ  g1 g2 g3 g4 g5 g6
set_option maxRecDepth 100000 in
theorem sg_rT43 {σ : pm_S} {Q : Option Value → pm_S → Prop} (x0 x1 x2 : Int)  (hB : an_GB pm_B σ) (eF : (0 ≤ x0 ∧ x0 ≤ 15) ∧ (16 ≤ x1 ∧ x1 ≤ 31) ∧ ((-1) ≤ x2 ∧ x2 ≤ 0) ∧ True)
    (l0 : ∀ (τ : pm_S) (y : Nat → Int), an_GB pm_B τ → FQ [] σ τ → ((0 ≤ x0 ∧ x0 ≤ 15) ∧ (16 ≤ x1 ∧ x1 ≤ 31) ∧ (0 ≤ x2 ∧ x2 ≤ 0) ∧ True) → (True) → (True) → (True) → Ok 194 101 47 [.ref 93, .int (Int32.ofInt (x0)), .int (Int32.ofInt (x1))] [] τ Q)
    (l1 : ∀ (τ : pm_S) (y : Nat → Int), an_GB pm_B τ → FQ [] σ τ → ((0 ≤ x0 ∧ x0 ≤ 15) ∧ (16 ≤ x1 ∧ x1 ≤ 31) ∧ ((-1) ≤ x2 ∧ x2 ≤ (-1)) ∧ True) → (True) → (True) → (True) → Q (some (.int (Int32.ofInt (-1)))) τ)
    : Ok 194 101 43 [.ref 93, .int (Int32.ofInt (x0)), .int (Int32.ofInt (x1))] [.int (Int32.ofInt (x2))] σ Q := by
  refine an_seg (B := pm_B) (F := []) (T := []) (S := []) (fun _ h => absurd h List.not_mem_nil) (k := 194) (d := 100) (cs := [47]) 6 43 3 [(0, 0, 15), (1, 16, 31), (2, (-1), 0)] [] [(2, 93, 0), (0, 0, 0), (0, 1, 0)] [(0, 2, 0)] [(47, [(2, 93, 0), (0, 0, 0), (0, 1, 0)], [], [(0, 0, 15), (1, 16, 31), (2, 0, 0)], [], [], []),
    (9999, [], [(1, 0, (-1))], [(0, 0, 15), (1, 16, 31), (2, (-1), (-1))], [], [], [])] (by decide +kernel) (ρ0 := (fun s => [x0, x1, x2].getD s 0)) hB eF trivial ⟨rfl, ⟨rfl, ⟨rfl, trivial⟩⟩⟩ ⟨rfl, trivial⟩ ?_
  refine List.forall_mem_cons.mpr ⟨?_, List.forall_mem_cons.mpr ⟨?_, fun _ h => absurd h List.not_mem_nil⟩⟩
  · intro ρ τ Lc stc hx g1 g2 g3 g4 g5 g6 g7 g8
    have e0 : ρ 0 = x0 := hx 0 (by decide)
    have e1 : ρ 1 = x1 := hx 1 (by decide)
    have e2 : ρ 2 = x2 := hx 2 (by decide)
    subst e0
    subst e1
    subst e2
    have g7 := g7 (by decide)
    match Lc, stc, g7, g8 with
    | [v0, v1, v2], [], ⟨hv0, hv1, hv2, _⟩, _ =>
      cases hv0
      cases hv1
      cases hv2
      exact l0 τ ρ  g1 g2 g3 g4 g5 g6
  · intro ρ τ Lc stc hx g1 g2 g3 g4 g5 g6 g7 g8
    have e0 : ρ 0 = x0 := hx 0 (by decide)
    have e1 : ρ 1 = x1 := hx 1 (by decide)
    have e2 : ρ 2 = x2 := hx 2 (by decide)
    subst e0
    subst e1
    subst e2
    match stc, g8 with
    | [_], ⟨h, _⟩ => cases h; exact l1 τ ρ g1 g2 g3 g4 g5 g6
set_option maxRecDepth 100000 in
theorem sg_rT47 {σ : pm_S} {Q : Option Value → pm_S → Prop} (x0 x1 x2 : Int)  (hB : an_GB pm_B σ) (eF : (0 ≤ x0 ∧ x0 ≤ 15) ∧ (16 ≤ x1 ∧ x1 ≤ 31) ∧ (0 ≤ x2 ∧ x2 ≤ 400) ∧ True) (eC : (σ.1 93 42).toInt = x2 ∧ True)
    (l0 : ∀ (τ : pm_S) (y : Nat → Int), an_GB pm_B τ → FQ [] σ τ → ((0 ≤ x0 ∧ x0 ≤ 15) ∧ (16 ≤ x1 ∧ x1 ≤ 31) ∧ (0 ≤ x2 ∧ x2 ≤ 400) ∧ True) → (True) → (True) → (True) → Ok 194 101 52 [.ref 93, .int (Int32.ofInt (x0)), .int (Int32.ofInt (x1))] [.int (Int32.ofInt (x2)), .int (Int32.ofInt (x1)), .ref 118] τ Q)
    : Ok 194 101 47 [.ref 93, .int (Int32.ofInt (x0)), .int (Int32.ofInt (x1))] [] σ Q := by
  refine an_seg (B := pm_B) (F := []) (T := []) (S := []) (fun _ h => absurd h List.not_mem_nil) (k := 194) (d := 100) (cs := [52]) 7 47 3 [(0, 0, 15), (1, 16, 31), (2, 0, 400)] [(93, (1, 0, 42), (0, 2, 0))] [(2, 93, 0), (0, 0, 0), (0, 1, 0)] [] [(52, [(2, 93, 0), (0, 0, 0), (0, 1, 0)], [(0, 2, 0), (0, 1, 0), (2, 118, 0)], [(0, 0, 15), (1, 16, 31), (2, 0, 400)], [], [], [])] (by decide +kernel) (ρ0 := (fun s => [x0, x1, x2].getD s 0)) hB eF eC ⟨rfl, ⟨rfl, ⟨rfl, trivial⟩⟩⟩ trivial ?_
  refine List.forall_mem_cons.mpr ⟨?_, fun _ h => absurd h List.not_mem_nil⟩
  · intro ρ τ Lc stc hx g1 g2 g3 g4 g5 g6 g7 g8
    have e0 : ρ 0 = x0 := hx 0 (by decide)
    have e1 : ρ 1 = x1 := hx 1 (by decide)
    have e2 : ρ 2 = x2 := hx 2 (by decide)
    subst e0
    subst e1
    subst e2
    have g7 := g7 (by decide)
    match Lc, stc, g7, g8 with
    | [v0, v1, v2], [w0, w1, w2], ⟨hv0, hv1, hv2, _⟩, ⟨hw0, hw1, hw2, _⟩ =>
      cases hv0
      cases hv1
      cases hv2
      cases hw0
      cases hw1
      cases hw2
      exact l0 τ ρ  g1 g2 g3 g4 g5 g6
set_option maxRecDepth 100000 in
theorem sg_rT53 {σ : pm_S} {Q : Option Value → pm_S → Prop} (x0 x1 x2 x3 : Int)  (hB : an_GB pm_B σ) (eF : (0 ≤ x0 ∧ x0 ≤ 4) ∧ ((-2147483648) ≤ x1 ∧ x1 ≤ 2147483647) ∧ (0 ≤ x2 ∧ x2 ≤ 15) ∧ (16 ≤ x3 ∧ x3 ≤ 31) ∧ True) (eC : (σ.1 93 33).toInt = x0 ∧ (σ.1 93 34).toInt = x1 ∧ True)
    (l0 : ∀ (τ : pm_S) (y : Nat → Int), an_GB pm_B τ → FQ [(93, 46), (93, 47)] σ τ → ((0 ≤ x0 ∧ x0 ≤ 4) ∧ ((-2147483648) ≤ x1 ∧ x1 ≤ 2147483647) ∧ (0 ≤ x2 ∧ x2 ≤ 15) ∧ (16 ≤ x3 ∧ x3 ≤ 31) ∧ True) → (True) → (True) → (True) → Q (some (.int (Int32.ofInt (-1)))) τ)
    (l1 : ∀ (τ : pm_S) (y : Nat → Int), an_GB pm_B τ → FQ [(93, 46), (93, 47)] σ τ → ((4 ≤ x0 ∧ x0 ≤ 4) ∧ (59 ≤ x1 ∧ x1 ≤ 59) ∧ (0 ≤ x2 ∧ x2 ≤ 15) ∧ (16 ≤ x3 ∧ x3 ≤ 31) ∧ True) → (True) → (True) → (True) → Ok 194 101 62 [.ref 93, .int (Int32.ofInt (x2)), .int (Int32.ofInt (x3))] [.ref 93] τ Q)
    : Ok 194 101 53 [.ref 93, .int (Int32.ofInt (x2)), .int (Int32.ofInt (x3))] [] σ Q := by
  refine an_seg (B := pm_B) (F := [(93, 46), (93, 47)]) (T := []) (S := []) (fun _ h => absurd h List.not_mem_nil) (k := 194) (d := 100) (cs := [62]) 29 53 4 [(0, 0, 4), (1, (-2147483648), 2147483647), (2, 0, 15), (3, 16, 31)] [(93, (1, 0, 33), (0, 0, 0)), (93, (1, 0, 34), (0, 1, 0))] [(2, 93, 0), (0, 2, 0), (0, 3, 0)] [] [(9999, [], [(1, 0, (-1))], [(0, 0, 4), (1, (-2147483648), 2147483647), (2, 0, 15), (3, 16, 31)], [], [], []),
    (62, [(2, 93, 0), (0, 2, 0), (0, 3, 0)], [(2, 93, 0)], [(0, 4, 4), (1, 59, 59), (2, 0, 15), (3, 16, 31)], [], [], [])] (by decide +kernel) (ρ0 := (fun s => [x0, x1, x2, x3].getD s 0)) hB eF eC ⟨rfl, ⟨rfl, ⟨rfl, trivial⟩⟩⟩ trivial ?_
  refine List.forall_mem_cons.mpr ⟨?_, List.forall_mem_cons.mpr ⟨?_, fun _ h => absurd h List.not_mem_nil⟩⟩
  · intro ρ τ Lc stc hx g1 g2 g3 g4 g5 g6 g7 g8
    have e0 : ρ 0 = x0 := hx 0 (by decide)
    have e1 : ρ 1 = x1 := hx 1 (by decide)
    have e2 : ρ 2 = x2 := hx 2 (by decide)
    have e3 : ρ 3 = x3 := hx 3 (by decide)
    subst e0
    subst e1
    subst e2
    subst e3
    match stc, g8 with
    | [_], ⟨h, _⟩ => cases h; exact l0 τ ρ g1 g2 g3 g4 g5 g6
  · intro ρ τ Lc stc hx g1 g2 g3 g4 g5 g6 g7 g8
    have e0 : ρ 0 = x0 := hx 0 (by decide)
    have e1 : ρ 1 = x1 := hx 1 (by decide)
    have e2 : ρ 2 = x2 := hx 2 (by decide)
    have e3 : ρ 3 = x3 := hx 3 (by decide)
    subst e0
    subst e1
    subst e2
    subst e3
    have g7 := g7 (by decide)
    match Lc, stc, g7, g8 with
    | [v0, v1, v2], [w0], ⟨hv0, hv1, hv2, _⟩, ⟨hw0, _⟩ =>
      cases hv0
      cases hv1
      cases hv2
      cases hw0
      exact l1 τ ρ  g1 g2 g3 g4 g5 g6
set_option maxRecDepth 100000 in
theorem sg_rT63 {σ : pm_S} {Q : Option Value → pm_S → Prop} (x0 x1 : Int)  (hB : an_GB pm_B σ) (eF : (0 ≤ x0 ∧ x0 ≤ 15) ∧ (16 ≤ x1 ∧ x1 ≤ 31) ∧ True)
    (l0 : ∀ (τ : pm_S) (y : Nat → Int), an_GB pm_B τ → FQ [] σ τ → ((0 ≤ x0 ∧ x0 ≤ 15) ∧ (16 ≤ x1 ∧ x1 ≤ 31) ∧ True) → (True) → (True) → (True) → Ok 194 101 2 [.ref 93, .int (Int32.ofInt (x0 + 1)), .int (Int32.ofInt (x1))] [] τ Q)
    : Ok 194 101 63 [.ref 93, .int (Int32.ofInt (x0)), .int (Int32.ofInt (x1))] [] σ Q := by
  refine an_seg (B := pm_B) (F := []) (T := []) (S := []) (fun _ h => absurd h List.not_mem_nil) (k := 194) (d := 100) (cs := [2]) 7 63 2 [(0, 0, 15), (1, 16, 31)] [] [(2, 93, 0), (0, 0, 0), (0, 1, 0)] [] [(2, [(2, 93, 0), (0, 0, 1), (0, 1, 0)], [], [(0, 0, 15), (1, 16, 31)], [], [], [])] (by decide +kernel) (ρ0 := (fun s => [x0, x1].getD s 0)) hB eF trivial ⟨rfl, ⟨rfl, ⟨rfl, trivial⟩⟩⟩ trivial ?_
  refine List.forall_mem_cons.mpr ⟨?_, fun _ h => absurd h List.not_mem_nil⟩
  · intro ρ τ Lc stc hx g1 g2 g3 g4 g5 g6 g7 g8
    have e0 : ρ 0 = x0 := hx 0 (by decide)
    have e1 : ρ 1 = x1 := hx 1 (by decide)
    subst e0
    subst e1
    have g7 := g7 (by decide)
    match Lc, stc, g7, g8 with
    | [v0, v1, v2], [], ⟨hv0, hv1, hv2, _⟩, _ =>
      cases hv0
      cases hv1
      cases hv2
      exact l0 τ ρ  g1 g2 g3 g4 g5 g6
set_option maxRecDepth 100000 in
theorem sg_tx0 {σ : pm_S} {Q : Option Value → pm_S → Prop} (v1 : Value) (v2 : Value) (hv1 : v1.category = 1) (hv2 : v2.category = 1) (hB : an_GB pm_B σ)
    (l0 : ∀ (τ : pm_S) (y : Nat → Int) (v1 : Value) (v2 : Value), v1.category = 1 → v2.category = 1 → an_GB pm_B τ → FQ [(93, 0), (93, 48), (93, 49), (93, 31), (93, 42), (93, 43)] σ τ → (True) → (True) → (True) → ((τ.1 93 42).toInt = 0 ∧ (τ.1 93 43).toInt = 0 ∧ True) → Ok 195 111 19 [.ref 93, v1, v2] [.ref 93] τ Q)
    : Ok 195 111 0 [.ref 93, v1, v2] [] σ Q := by
  refine an_seg (B := pm_B) (F := [(93, 0), (93, 48), (93, 49), (93, 31), (93, 42), (93, 43)]) (T := []) (S := []) (fun _ h => absurd h List.not_mem_nil) (k := 195) (d := 110) (cs := [19]) 21 0 0 [] [] [(2, 93, 0), (5, 0, 0), (5, 0, 0)] [] [(19, [(2, 93, 0), (5, 0, 0), (5, 0, 0)], [(2, 93, 0)], [], [], [], [(93, (1, 0, 42), (1, 0, 0)), (93, (1, 0, 43), (1, 0, 0))])] (by decide +kernel) (ρ0 := (fun s => [].getD s 0)) hB trivial trivial ⟨rfl, ⟨hv1, ⟨hv2, trivial⟩⟩⟩ trivial ?_
  refine List.forall_mem_cons.mpr ⟨?_, fun _ h => absurd h List.not_mem_nil⟩
  · intro ρ τ Lc stc hx g1 g2 g3 g4 g5 g6 g7 g8
    have g7 := g7 (by decide)
    match Lc, stc, g7, g8 with
    | [v0, v1, v2], [w0], ⟨hv0, hv1, hv2, _⟩, ⟨hw0, _⟩ =>
      cases hv0
      cases hw0
      exact l0 τ ρ v1 v2 hv1 hv2 g1 g2 g3 g4 g5 g6
set_option maxRecDepth 100000 in
theorem sg_tx20 {σ : pm_S} {Q : Option Value → pm_S → Prop} (v1 : Value) (v2 : Value) (hv1 : v1.category = 1) (hv2 : v2.category = 1) (hB : an_GB pm_B σ)
    (l0 : ∀ (τ : pm_S) (y : Nat → Int) (v1 : Value) (v2 : Value), v1.category = 1 → v2.category = 1 → an_GB pm_B τ → FQ [] σ τ → (True) → (True) → (True) → (True) → Ok 195 111 21 [.ref 93, v1, v2] [.ref 93] τ Q)
    : Ok 195 111 20 [.ref 93, v1, v2] [] σ Q := by
  refine an_seg (B := pm_B) (F := []) (T := []) (S := []) (fun _ h => absurd h List.not_mem_nil) (k := 195) (d := 110) (cs := [21]) 3 20 0 [] [] [(2, 93, 0), (5, 0, 0), (5, 0, 0)] [] [(21, [(2, 93, 0), (5, 0, 0), (5, 0, 0)], [(2, 93, 0)], [], [], [], [])] (by decide +kernel) (ρ0 := (fun s => [].getD s 0)) hB trivial trivial ⟨rfl, ⟨hv1, ⟨hv2, trivial⟩⟩⟩ trivial ?_
  refine List.forall_mem_cons.mpr ⟨?_, fun _ h => absurd h List.not_mem_nil⟩
  · intro ρ τ Lc stc hx g1 g2 g3 g4 g5 g6 g7 g8
    have g7 := g7 (by decide)
    match Lc, stc, g7, g8 with
    | [v0, v1, v2], [w0], ⟨hv0, hv1, hv2, _⟩, ⟨hw0, _⟩ =>
      cases hv0
      cases hw0
      exact l0 τ ρ v1 v2 hv1 hv2 g1 g2 g3 g4 g5 g6
set_option maxRecDepth 100000 in
theorem sg_tx22 {σ : pm_S} {Q : Option Value → pm_S → Prop} (x0 : Int) (v1 : Value) (v2 : Value) (hv1 : v1.category = 1) (hv2 : v2.category = 1) (hB : an_GB pm_B σ) (eF : ((-1) ≤ x0 ∧ x0 ≤ 16) ∧ True)
    (l0 : ∀ (τ : pm_S) (y : Nat → Int), an_GB pm_B τ → FQ [(93, 30), (93, 48), (93, 49)] σ τ → ((0 ≤ x0 ∧ x0 ≤ 16) ∧ True) → (True) → (True) → (True) → Ok 195 111 41 [.ref 93, .int (Int32.ofInt (x0)), .int (Int32.ofInt 0)] [] τ Q)
    (l1 : ∀ (τ : pm_S) (y : Nat → Int), an_GB pm_B τ → FQ [(93, 30), (93, 48), (93, 49)] σ τ → (((-1) ≤ x0 ∧ x0 ≤ (-1)) ∧ True) → (True) → (True) → (True) → Q (some (.int (Int32.ofInt (-1)))) τ)
    : Ok 195 111 22 [.ref 93, v1, v2] [.int (Int32.ofInt (x0))] σ Q := by
  refine an_seg (B := pm_B) (F := [(93, 30), (93, 48), (93, 49)]) (T := []) (S := []) (fun _ h => absurd h List.not_mem_nil) (k := 195) (d := 110) (cs := [41]) 19 22 1 [(0, (-1), 16)] [] [(2, 93, 0), (5, 0, 0), (5, 0, 0)] [(0, 0, 0)] [(41, [(2, 93, 0), (0, 0, 0), (1, 0, 0)], [], [(0, 0, 16)], [], [], []),
    (9999, [], [(1, 0, (-1))], [(0, (-1), (-1))], [], [], [])] (by decide +kernel) (ρ0 := (fun s => [x0].getD s 0)) hB eF trivial ⟨rfl, ⟨hv1, ⟨hv2, trivial⟩⟩⟩ ⟨rfl, trivial⟩ ?_
  refine List.forall_mem_cons.mpr ⟨?_, List.forall_mem_cons.mpr ⟨?_, fun _ h => absurd h List.not_mem_nil⟩⟩
  · intro ρ τ Lc stc hx g1 g2 g3 g4 g5 g6 g7 g8
    have e0 : ρ 0 = x0 := hx 0 (by decide)
    subst e0
    have g7 := g7 (by decide)
    match Lc, stc, g7, g8 with
    | [v0, v1, v2], [], ⟨hv0, hv1, hv2, _⟩, _ =>
      cases hv0
      cases hv1
      cases hv2
      exact l0 τ ρ  g1 g2 g3 g4 g5 g6
  · intro ρ τ Lc stc hx g1 g2 g3 g4 g5 g6 g7 g8
    have e0 : ρ 0 = x0 := hx 0 (by decide)
    subst e0
    match stc, g8 with
    | [_], ⟨h, _⟩ => cases h; exact l1 τ ρ g1 g2 g3 g4 g5 g6
set_option maxRecDepth 100000 in
theorem sg_tx41 {σ : pm_S} {Q : Option Value → pm_S → Prop} (x0 x1 : Int)  (hB : an_GB pm_B σ) (eF : (0 ≤ x0 ∧ x0 ≤ 16) ∧ (0 ≤ x1 ∧ x1 ≤ 16) ∧ True)
    (l0 : ∀ (τ : pm_S) (y : Nat → Int), an_GB pm_B τ → FQ [] σ τ → ((0 ≤ x0 ∧ x0 ≤ 16) ∧ (0 ≤ x1 ∧ x1 ≤ 16) ∧ True) → (True) → (True) → (True) → Ok 195 111 43 [.ref 93, .int (Int32.ofInt (x0)), .int (Int32.ofInt (x1))] [.int (Int32.ofInt (x0)), .int (Int32.ofInt (x1))] τ Q)
    : Ok 195 111 41 [.ref 93, .int (Int32.ofInt (x0)), .int (Int32.ofInt (x1))] [] σ Q := by
  refine an_seg (B := pm_B) (F := []) (T := []) (S := []) (fun _ h => absurd h List.not_mem_nil) (k := 195) (d := 110) (cs := [43]) 4 41 2 [(0, 0, 16), (1, 0, 16)] [] [(2, 93, 0), (0, 0, 0), (0, 1, 0)] [] [(43, [(2, 93, 0), (0, 0, 0), (0, 1, 0)], [(0, 0, 0), (0, 1, 0)], [(0, 0, 16), (1, 0, 16)], [], [], [])] (by decide +kernel) (ρ0 := (fun s => [x0, x1].getD s 0)) hB eF trivial ⟨rfl, ⟨rfl, ⟨rfl, trivial⟩⟩⟩ trivial ?_
  refine List.forall_mem_cons.mpr ⟨?_, fun _ h => absurd h List.not_mem_nil⟩
  · intro ρ τ Lc stc hx g1 g2 g3 g4 g5 g6 g7 g8
    have e0 : ρ 0 = x0 := hx 0 (by decide)
    have e1 : ρ 1 = x1 := hx 1 (by decide)
    subst e0
    subst e1
    have g7 := g7 (by decide)
    match Lc, stc, g7, g8 with
    | [v0, v1, v2], [w0, w1], ⟨hv0, hv1, hv2, _⟩, ⟨hw0, hw1, _⟩ =>
      cases hv0
      cases hv1
      cases hv2
      cases hw0
      cases hw1
      exact l0 τ ρ  g1 g2 g3 g4 g5 g6
set_option maxRecDepth 100000 in
theorem sg_tx44 {σ : pm_S} {Q : Option Value → pm_S → Prop} (x0 x1 : Int)  (hB : an_GB pm_B σ) (eF : (0 ≤ x0 ∧ x0 ≤ 16) ∧ (0 ≤ x1 ∧ x1 ≤ 15) ∧ True)
    (l0 : ∀ (τ : pm_S) (y : Nat → Int), an_GB pm_B τ → FQ [] σ τ → ((0 ≤ x0 ∧ x0 ≤ 16) ∧ (0 ≤ x1 ∧ x1 ≤ 15) ∧ ((-2147483648) ≤ y 2 ∧ y 2 ≤ 2147483647) ∧ True) → (True) → (True) → ((τ.1 116 (x1 + 16).toNat).toInt = y 2 ∧ True) → Ok 195 111 53 [.ref 93, .int (Int32.ofInt (x0)), .int (Int32.ofInt (x1))] [.int (Int32.ofInt (y 2)), .int (Int32.ofInt (x1)), .ref 116] τ Q)
    : Ok 195 111 44 [.ref 93, .int (Int32.ofInt (x0)), .int (Int32.ofInt (x1))] [] σ Q := by
  refine an_seg (B := pm_B) (F := []) (T := [116]) (S := []) (fun _ h => absurd h List.not_mem_nil) (k := 195) (d := 110) (cs := [53]) 11 44 2 [(0, 0, 16), (1, 0, 15)] [] [(2, 93, 0), (0, 0, 0), (0, 1, 0)] [] [(53, [(2, 93, 0), (0, 0, 0), (0, 1, 0)], [(0, 2, 0), (0, 1, 0), (2, 116, 0)], [(0, 0, 16), (1, 0, 15), (2, (-2147483648), 2147483647)], [], [], [(116, (0, 1, 16), (0, 2, 0))])] (by decide +kernel) (ρ0 := (fun s => [x0, x1].getD s 0)) hB eF trivial ⟨rfl, ⟨rfl, ⟨rfl, trivial⟩⟩⟩ trivial ?_
  refine List.forall_mem_cons.mpr ⟨?_, fun _ h => absurd h List.not_mem_nil⟩
  · intro ρ τ Lc stc hx g1 g2 g3 g4 g5 g6 g7 g8
    have e0 : ρ 0 = x0 := hx 0 (by decide)
    have e1 : ρ 1 = x1 := hx 1 (by decide)
    subst e0
    subst e1
    have g7 := g7 (by decide)
    match Lc, stc, g7, g8 with
    | [v0, v1, v2], [w0, w1, w2], ⟨hv0, hv1, hv2, _⟩, ⟨hw0, hw1, hw2, _⟩ =>
      cases hv0
      cases hv1
      cases hv2
      cases hw0
      cases hw1
      cases hw2
      exact l0 τ ρ  g1 g2 g3 g4 g5 g6
set_option maxRecDepth 100000 in
theorem sg_tx54 {σ : pm_S} {Q : Option Value → pm_S → Prop} (x0 x1 : Int)  (hB : an_GB pm_B σ) (eF : (0 ≤ x0 ∧ x0 ≤ 16) ∧ (0 ≤ x1 ∧ x1 ≤ 15) ∧ True)
    (l0 : ∀ (τ : pm_S) (y : Nat → Int), an_GB pm_B τ → FQ [] σ τ → ((0 ≤ x0 ∧ x0 ≤ 16) ∧ (0 ≤ x1 ∧ x1 ≤ 15) ∧ (0 ≤ y 2 ∧ y 2 ≤ 400) ∧ True) → (True) → (True) → ((τ.1 117 (x1 + 16).toNat).toInt = y 2 ∧ True) → Ok 195 111 63 [.ref 93, .int (Int32.ofInt (x0)), .int (Int32.ofInt (x1))] [.int (Int32.ofInt (y 2)), .int (Int32.ofInt (x1)), .ref 117] τ Q)
    : Ok 195 111 54 [.ref 93, .int (Int32.ofInt (x0)), .int (Int32.ofInt (x1))] [] σ Q := by
  refine an_seg (B := pm_B) (F := []) (T := [117]) (S := []) (fun _ h => absurd h List.not_mem_nil) (k := 195) (d := 110) (cs := [63]) 11 54 2 [(0, 0, 16), (1, 0, 15)] [] [(2, 93, 0), (0, 0, 0), (0, 1, 0)] [] [(63, [(2, 93, 0), (0, 0, 0), (0, 1, 0)], [(0, 2, 0), (0, 1, 0), (2, 117, 0)], [(0, 0, 16), (1, 0, 15), (2, 0, 400)], [], [], [(117, (0, 1, 16), (0, 2, 0))])] (by decide +kernel) (ρ0 := (fun s => [x0, x1].getD s 0)) hB eF trivial ⟨rfl, ⟨rfl, ⟨rfl, trivial⟩⟩⟩ trivial ?_
  refine List.forall_mem_cons.mpr ⟨?_, fun _ h => absurd h List.not_mem_nil⟩
  · intro ρ τ Lc stc hx g1 g2 g3 g4 g5 g6 g7 g8
    have e0 : ρ 0 = x0 := hx 0 (by decide)
    have e1 : ρ 1 = x1 := hx 1 (by decide)
    subst e0
    subst e1
    have g7 := g7 (by decide)
    match Lc, stc, g7, g8 with
    | [v0, v1, v2], [w0, w1, w2], ⟨hv0, hv1, hv2, _⟩, ⟨hw0, hw1, hw2, _⟩ =>
      cases hv0
      cases hv1
      cases hv2
      cases hw0
      cases hw1
      cases hw2
      exact l0 τ ρ  g1 g2 g3 g4 g5 g6
set_option maxRecDepth 100000 in
theorem sg_tx64 {σ : pm_S} {Q : Option Value → pm_S → Prop} (x0 x1 : Int)  (hB : an_GB pm_B σ) (eF : (0 ≤ x0 ∧ x0 ≤ 16) ∧ (0 ≤ x1 ∧ x1 ≤ 15) ∧ True)
    (l0 : ∀ (τ : pm_S) (y : Nat → Int), an_GB pm_B τ → FQ [] σ τ → ((0 ≤ x0 ∧ x0 ≤ 16) ∧ (0 ≤ x1 ∧ x1 ≤ 15) ∧ (0 ≤ y 2 ∧ y 2 ≤ 400) ∧ True) → (True) → (True) → ((τ.1 118 (x1 + 16).toNat).toInt = y 2 ∧ True) → Ok 195 111 73 [.ref 93, .int (Int32.ofInt (x0)), .int (Int32.ofInt (x1))] [.int (Int32.ofInt (y 2)), .int (Int32.ofInt (x1)), .ref 118] τ Q)
    : Ok 195 111 64 [.ref 93, .int (Int32.ofInt (x0)), .int (Int32.ofInt (x1))] [] σ Q := by
  refine an_seg (B := pm_B) (F := []) (T := [118]) (S := []) (fun _ h => absurd h List.not_mem_nil) (k := 195) (d := 110) (cs := [73]) 11 64 2 [(0, 0, 16), (1, 0, 15)] [] [(2, 93, 0), (0, 0, 0), (0, 1, 0)] [] [(73, [(2, 93, 0), (0, 0, 0), (0, 1, 0)], [(0, 2, 0), (0, 1, 0), (2, 118, 0)], [(0, 0, 16), (1, 0, 15), (2, 0, 400)], [], [], [(118, (0, 1, 16), (0, 2, 0))])] (by decide +kernel) (ρ0 := (fun s => [x0, x1].getD s 0)) hB eF trivial ⟨rfl, ⟨rfl, ⟨rfl, trivial⟩⟩⟩ trivial ?_
  refine List.forall_mem_cons.mpr ⟨?_, fun _ h => absurd h List.not_mem_nil⟩
  · intro ρ τ Lc stc hx g1 g2 g3 g4 g5 g6 g7 g8
    have e0 : ρ 0 = x0 := hx 0 (by decide)
    have e1 : ρ 1 = x1 := hx 1 (by decide)
    subst e0
    subst e1
    have g7 := g7 (by decide)
    match Lc, stc, g7, g8 with
    | [v0, v1, v2], [w0, w1, w2], ⟨hv0, hv1, hv2, _⟩, ⟨hw0, hw1, hw2, _⟩ =>
      cases hv0
      cases hv1
      cases hv2
      cases hw0
      cases hw1
      cases hw2
      exact l0 τ ρ  g1 g2 g3 g4 g5 g6
set_option maxRecDepth 100000 in
theorem sg_tx74 {σ : pm_S} {Q : Option Value → pm_S → Prop} (x0 x1 : Int)  (hB : an_GB pm_B σ) (eF : (0 ≤ x0 ∧ x0 ≤ 16) ∧ (0 ≤ x1 ∧ x1 ≤ 15) ∧ True)
    (l0 : ∀ (τ : pm_S) (y : Nat → Int), an_GB pm_B τ → FQ [] σ τ → ((0 ≤ x0 ∧ x0 ≤ 16) ∧ (0 ≤ x1 ∧ x1 ≤ 15) ∧ True) → (True) → (True) → (True) → Ok 195 111 41 [.ref 93, .int (Int32.ofInt (x0)), .int (Int32.ofInt (x1 + 1))] [] τ Q)
    : Ok 195 111 74 [.ref 93, .int (Int32.ofInt (x0)), .int (Int32.ofInt (x1))] [] σ Q := by
  refine an_seg (B := pm_B) (F := []) (T := []) (S := []) (fun _ h => absurd h List.not_mem_nil) (k := 195) (d := 110) (cs := [41]) 4 74 2 [(0, 0, 16), (1, 0, 15)] [] [(2, 93, 0), (0, 0, 0), (0, 1, 0)] [] [(41, [(2, 93, 0), (0, 0, 0), (0, 1, 1)], [], [(0, 0, 16), (1, 0, 15)], [], [], [])] (by decide +kernel) (ρ0 := (fun s => [x0, x1].getD s 0)) hB eF trivial ⟨rfl, ⟨rfl, ⟨rfl, trivial⟩⟩⟩ trivial ?_
  refine List.forall_mem_cons.mpr ⟨?_, fun _ h => absurd h List.not_mem_nil⟩
  · intro ρ τ Lc stc hx g1 g2 g3 g4 g5 g6 g7 g8
    have e0 : ρ 0 = x0 := hx 0 (by decide)
    have e1 : ρ 1 = x1 := hx 1 (by decide)
    subst e0
    subst e1
    have g7 := g7 (by decide)
    match Lc, stc, g7, g8 with
    | [v0, v1, v2], [], ⟨hv0, hv1, hv2, _⟩, _ =>
      cases hv0
      cases hv1
      cases hv2
      exact l0 τ ρ  g1 g2 g3 g4 g5 g6
set_option maxRecDepth 100000 in
theorem sg_tx76 {σ : pm_S} {Q : Option Value → pm_S → Prop} (x0 : Int) (v2 : Value) (hv2 : v2.category = 1) (hB : an_GB pm_B σ) (eF : (0 ≤ x0 ∧ x0 ≤ 16) ∧ True)
    (l0 : ∀ (τ : pm_S) (y : Nat → Int), an_GB pm_B τ → FQ [] σ τ → ((0 ≤ x0 ∧ x0 ≤ 16) ∧ True) → (True) → (True) → (True) → Ok 195 111 78 [.ref 93, .int (Int32.ofInt (x0)), .int (Int32.ofInt 0)] [] τ Q)
    : Ok 195 111 76 [.ref 93, .int (Int32.ofInt (x0)), v2] [] σ Q := by
  refine an_seg (B := pm_B) (F := []) (T := []) (S := []) (fun _ h => absurd h List.not_mem_nil) (k := 195) (d := 110) (cs := [78]) 4 76 1 [(0, 0, 16)] [] [(2, 93, 0), (0, 0, 0), (5, 0, 0)] [] [(78, [(2, 93, 0), (0, 0, 0), (1, 0, 0)], [], [(0, 0, 16)], [], [], [])] (by decide +kernel) (ρ0 := (fun s => [x0].getD s 0)) hB eF trivial ⟨rfl, ⟨rfl, ⟨hv2, trivial⟩⟩⟩ trivial ?_
  refine List.forall_mem_cons.mpr ⟨?_, fun _ h => absurd h List.not_mem_nil⟩
  · intro ρ τ Lc stc hx g1 g2 g3 g4 g5 g6 g7 g8
    have e0 : ρ 0 = x0 := hx 0 (by decide)
    subst e0
    have g7 := g7 (by decide)
    match Lc, stc, g7, g8 with
    | [v0, v1, v2], [], ⟨hv0, hv1, hv2, _⟩, _ =>
      cases hv0
      cases hv1
      cases hv2
      exact l0 τ ρ  g1 g2 g3 g4 g5 g6
set_option maxRecDepth 100000 in
theorem sg_tx78 {σ : pm_S} {Q : Option Value → pm_S → Prop} (x0 x1 x2 : Int)  (hB : an_GB pm_B σ) (eF : (0 ≤ x0 ∧ x0 ≤ 16) ∧ (0 ≤ x1 ∧ x1 ≤ 400) ∧ (0 ≤ x2 ∧ x2 ≤ 400) ∧ True) (eC : (σ.1 93 42).toInt = x2 ∧ True)
    (l0 : ∀ (τ : pm_S) (y : Nat → Int), an_GB pm_B τ → FQ [] σ τ → ((0 ≤ x0 ∧ x0 ≤ 16) ∧ (0 ≤ x1 ∧ x1 ≤ 400) ∧ (0 ≤ x2 ∧ x2 ≤ 400) ∧ True) → (True) → (True) → (True) → Ok 195 111 81 [.ref 93, .int (Int32.ofInt (x0)), .int (Int32.ofInt (x1))] [.int (Int32.ofInt (x2)), .int (Int32.ofInt (x1))] τ Q)
    : Ok 195 111 78 [.ref 93, .int (Int32.ofInt (x0)), .int (Int32.ofInt (x1))] [] σ Q := by
  refine an_seg (B := pm_B) (F := []) (T := []) (S := []) (fun _ h => absurd h List.not_mem_nil) (k := 195) (d := 110) (cs := [81]) 5 78 3 [(0, 0, 16), (1, 0, 400), (2, 0, 400)] [(93, (1, 0, 42), (0, 2, 0))] [(2, 93, 0), (0, 0, 0), (0, 1, 0)] [] [(81, [(2, 93, 0), (0, 0, 0), (0, 1, 0)], [(0, 2, 0), (0, 1, 0)], [(0, 0, 16), (1, 0, 400), (2, 0, 400)], [], [], [])] (by decide +kernel) (ρ0 := (fun s => [x0, x1, x2].getD s 0)) hB eF eC ⟨rfl, ⟨rfl, ⟨rfl, trivial⟩⟩⟩ trivial ?_
  refine List.forall_mem_cons.mpr ⟨?_, fun _ h => absurd h List.not_mem_nil⟩
  · intro ρ τ Lc stc hx g1 g2 g3 g4 g5 g6 g7 g8
    have e0 : ρ 0 = x0 := hx 0 (by decide)
    have e1 : ρ 1 = x1 := hx 1 (by decide)
    have e2 : ρ 2 = x2 := hx 2 (by decide)
    subst e0
    subst e1
    subst e2
    have g7 := g7 (by decide)
    match Lc, stc, g7, g8 with
    | [v0, v1, v2], [w0, w1], ⟨hv0, hv1, hv2, _⟩, ⟨hw0, hw1, _⟩ =>
      cases hv0
      cases hv1
      cases hv2
      cases hw0
      cases hw1
      exact l0 τ ρ  g1 g2 g3 g4 g5 g6
set_option maxRecDepth 100000 in
theorem sg_tx82 {σ : pm_S} {Q : Option Value → pm_S → Prop} (x0 x1 : Int)  (hB : an_GB pm_B σ) (eF : (0 ≤ x0 ∧ x0 ≤ 16) ∧ (0 ≤ x1 ∧ x1 ≤ 399) ∧ True)
    (l0 : ∀ (τ : pm_S) (y : Nat → Int), an_GB pm_B τ → FQ [] σ τ → ((0 ≤ x0 ∧ x0 ≤ 16) ∧ (0 ≤ x1 ∧ x1 ≤ 399) ∧ (0 ≤ y 2 ∧ y 2 ≤ 11) ∧ True) → (True) → (True) → ((τ.1 119 (x1 + 400).toNat).toInt = y 2 ∧ True) → Ok 195 111 91 [.ref 93, .int (Int32.ofInt (x0)), .int (Int32.ofInt (x1))] [.int (Int32.ofInt (y 2)), .int (Int32.ofInt (x1)), .ref 119] τ Q)
    : Ok 195 111 82 [.ref 93, .int (Int32.ofInt (x0)), .int (Int32.ofInt (x1))] [] σ Q := by
  refine an_seg (B := pm_B) (F := []) (T := [119]) (S := []) (fun _ h => absurd h List.not_mem_nil) (k := 195) (d := 110) (cs := [91]) 11 82 2 [(0, 0, 16), (1, 0, 399)] [] [(2, 93, 0), (0, 0, 0), (0, 1, 0)] [] [(91, [(2, 93, 0), (0, 0, 0), (0, 1, 0)], [(0, 2, 0), (0, 1, 0), (2, 119, 0)], [(0, 0, 16), (1, 0, 399), (2, 0, 11)], [], [], [(119, (0, 1, 400), (0, 2, 0))])] (by decide +kernel) (ρ0 := (fun s => [x0, x1].getD s 0)) hB eF trivial ⟨rfl, ⟨rfl, ⟨rfl, trivial⟩⟩⟩ trivial ?_
  refine List.forall_mem_cons.mpr ⟨?_, fun _ h => absurd h List.not_mem_nil⟩
  · intro ρ τ Lc stc hx g1 g2 g3 g4 g5 g6 g7 g8
    have e0 : ρ 0 = x0 := hx 0 (by decide)
    have e1 : ρ 1 = x1 := hx 1 (by decide)
    subst e0
    subst e1
    have g7 := g7 (by decide)
    match Lc, stc, g7, g8 with
    | [v0, v1, v2], [w0, w1, w2], ⟨hv0, hv1, hv2, _⟩, ⟨hw0, hw1, hw2, _⟩ =>
      cases hv0
      cases hv1
      cases hv2
      cases hw0
      cases hw1
      cases hw2
      exact l0 τ ρ  g1 g2 g3 g4 g5 g6
set_option maxRecDepth 100000 in
theorem sg_tx92 {σ : pm_S} {Q : Option Value → pm_S → Prop} (x0 x1 : Int)  (hB : an_GB pm_B σ) (eF : (0 ≤ x0 ∧ x0 ≤ 16) ∧ (0 ≤ x1 ∧ x1 ≤ 399) ∧ True)
    (l0 : ∀ (τ : pm_S) (y : Nat → Int), an_GB pm_B τ → FQ [] σ τ → ((0 ≤ x0 ∧ x0 ≤ 16) ∧ (0 ≤ x1 ∧ x1 ≤ 399) ∧ ((-2147483648) ≤ y 2 ∧ y 2 ≤ 2147483647) ∧ True) → (True) → (True) → ((τ.1 120 (x1 + 400).toNat).toInt = y 2 ∧ True) → Ok 195 111 101 [.ref 93, .int (Int32.ofInt (x0)), .int (Int32.ofInt (x1))] [.int (Int32.ofInt (y 2)), .int (Int32.ofInt (x1)), .ref 120] τ Q)
    : Ok 195 111 92 [.ref 93, .int (Int32.ofInt (x0)), .int (Int32.ofInt (x1))] [] σ Q := by
  refine an_seg (B := pm_B) (F := []) (T := [120]) (S := []) (fun _ h => absurd h List.not_mem_nil) (k := 195) (d := 110) (cs := [101]) 11 92 2 [(0, 0, 16), (1, 0, 399)] [] [(2, 93, 0), (0, 0, 0), (0, 1, 0)] [] [(101, [(2, 93, 0), (0, 0, 0), (0, 1, 0)], [(0, 2, 0), (0, 1, 0), (2, 120, 0)], [(0, 0, 16), (1, 0, 399), (2, (-2147483648), 2147483647)], [], [], [(120, (0, 1, 400), (0, 2, 0))])] (by decide +kernel) (ρ0 := (fun s => [x0, x1].getD s 0)) hB eF trivial ⟨rfl, ⟨rfl, ⟨rfl, trivial⟩⟩⟩ trivial ?_
  refine List.forall_mem_cons.mpr ⟨?_, fun _ h => absurd h List.not_mem_nil⟩
  · intro ρ τ Lc stc hx g1 g2 g3 g4 g5 g6 g7 g8
    have e0 : ρ 0 = x0 := hx 0 (by decide)
    have e1 : ρ 1 = x1 := hx 1 (by decide)
    subst e0
    subst e1
    have g7 := g7 (by decide)
    match Lc, stc, g7, g8 with
    | [v0, v1, v2], [w0, w1, w2], ⟨hv0, hv1, hv2, _⟩, ⟨hw0, hw1, hw2, _⟩ =>
      cases hv0
      cases hv1
      cases hv2
      cases hw0
      cases hw1
      cases hw2
      exact l0 τ ρ  g1 g2 g3 g4 g5 g6
set_option maxRecDepth 100000 in
theorem sg_tx102 {σ : pm_S} {Q : Option Value → pm_S → Prop} (x0 x1 : Int)  (hB : an_GB pm_B σ) (eF : (0 ≤ x0 ∧ x0 ≤ 16) ∧ (0 ≤ x1 ∧ x1 ≤ 399) ∧ True)
    (l0 : ∀ (τ : pm_S) (y : Nat → Int), an_GB pm_B τ → FQ [] σ τ → ((0 ≤ x0 ∧ x0 ≤ 16) ∧ (0 ≤ x1 ∧ x1 ≤ 399) ∧ True) → (True) → (True) → (True) → Ok 195 111 78 [.ref 93, .int (Int32.ofInt (x0)), .int (Int32.ofInt (x1 + 1))] [] τ Q)
    : Ok 195 111 102 [.ref 93, .int (Int32.ofInt (x0)), .int (Int32.ofInt (x1))] [] σ Q := by
  refine an_seg (B := pm_B) (F := []) (T := []) (S := []) (fun _ h => absurd h List.not_mem_nil) (k := 195) (d := 110) (cs := [78]) 4 102 2 [(0, 0, 16), (1, 0, 399)] [] [(2, 93, 0), (0, 0, 0), (0, 1, 0)] [] [(78, [(2, 93, 0), (0, 0, 0), (0, 1, 1)], [], [(0, 0, 16), (1, 0, 399)], [], [], [])] (by decide +kernel) (ρ0 := (fun s => [x0, x1].getD s 0)) hB eF trivial ⟨rfl, ⟨rfl, ⟨rfl, trivial⟩⟩⟩ trivial ?_
  refine List.forall_mem_cons.mpr ⟨?_, fun _ h => absurd h List.not_mem_nil⟩
  · intro ρ τ Lc stc hx g1 g2 g3 g4 g5 g6 g7 g8
    have e0 : ρ 0 = x0 := hx 0 (by decide)
    have e1 : ρ 1 = x1 := hx 1 (by decide)
    subst e0
    subst e1
    have g7 := g7 (by decide)
    match Lc, stc, g7, g8 with
    | [v0, v1, v2], [], ⟨hv0, hv1, hv2, _⟩, _ =>
      cases hv0
      cases hv1
      cases hv2
      exact l0 τ ρ  g1 g2 g3 g4 g5 g6
set_option maxRecDepth 100000 in
theorem sg_tx104 {σ : pm_S} {Q : Option Value → pm_S → Prop} (x0 : Int) (v2 : Value) (hv2 : v2.category = 1) (hB : an_GB pm_B σ) (eF : (0 ≤ x0 ∧ x0 ≤ 16) ∧ True)
    (l0 : ∀ (τ : pm_S) (y : Nat → Int), an_GB pm_B τ → FQ [(93, 36)] σ τ → ((0 ≤ x0 ∧ x0 ≤ 16) ∧ True) → (True) → (True) → ((τ.1 93 36).toInt = x0 ∧ True) → Q (some (.int (Int32.ofInt (x0)))) τ)
    : Ok 195 111 104 [.ref 93, .int (Int32.ofInt (x0)), v2] [] σ Q := by
  refine an_seg (B := pm_B) (F := [(93, 36)]) (T := []) (S := []) (fun _ h => absurd h List.not_mem_nil) (k := 195) (d := 110) (cs := []) 7 104 1 [(0, 0, 16)] [] [(2, 93, 0), (0, 0, 0), (5, 0, 0)] [] [(9999, [], [(0, 0, 0)], [(0, 0, 16)], [], [], [(93, (1, 0, 36), (0, 0, 0))])] (by decide +kernel) (ρ0 := (fun s => [x0].getD s 0)) hB eF trivial ⟨rfl, ⟨rfl, ⟨hv2, trivial⟩⟩⟩ trivial ?_
  refine List.forall_mem_cons.mpr ⟨?_, fun _ h => absurd h List.not_mem_nil⟩
  · intro ρ τ Lc stc hx g1 g2 g3 g4 g5 g6 g7 g8
    have e0 : ρ 0 = x0 := hx 0 (by decide)
    subst e0
    match stc, g8 with
    | [_], ⟨h, _⟩ => cases h; exact l0 τ ρ g1 g2 g3 g4 g5 g6
