/-! sunday, pass: pieces -/
set_option maxRecDepth 100000 in
theorem uf_s0 {σ : pm_S} {Q : Option Value → pm_S → Prop} (x0 : Int)  (hB : an_GB pm_B σ) (eF : (0 ≤ x0 ∧ x0 ≤ 9999) ∧ True) (eC : (σ.1 1 1).toInt = x0 ∧ True)
    (l0 : ∀ (τ : pm_S) (y : Nat → Int), an_GB pm_B τ → FQ [] σ τ → ((9999 ≤ x0 ∧ x0 ≤ 9999) ∧ True) → (True) → (True) → ((τ.1 1 1).toInt = x0 ∧ True) → Q (some (.int (Int32.ofInt (-1)))) τ)
    (l1 : ∀ (τ : pm_S) (y : Nat → Int), an_GB pm_B τ → FQ [] σ τ → ((0 ≤ x0 ∧ x0 ≤ 9998) ∧ True) → (True) → (True) → ((τ.1 1 1).toInt = x0 ∧ True) → Ok 139 61 7 [.ref 0] [.ref 74] τ Q)
    : Ok 139 61 0 [.ref 0] [] σ Q := by
  refine an_seg (B := pm_B) (F := []) (T := []) (S := []) (fun _ h => absurd h List.not_mem_nil) (k := 139) (d := 60) (cs := [7]) 9 0 1 [(0, 0, 9999)] [(1, (1, 0, 1), (0, 0, 0))] [(2, 0, 0)] [] [(9999, [], [(1, 0, (-1))], [(0, 9999, 9999)], [], [], [(1, (1, 0, 1), (0, 0, 0))]),
    (7, [(2, 0, 0)], [(2, 74, 0)], [(0, 0, 9998)], [], [], [(1, (1, 0, 1), (0, 0, 0))])] (by decide +kernel) (ρ0 := (fun s => [x0].getD s 0)) hB eF eC ⟨rfl, trivial⟩ trivial ?_
  refine List.forall_mem_cons.mpr ⟨?_, List.forall_mem_cons.mpr ⟨?_, fun _ h => absurd h List.not_mem_nil⟩⟩
  · intro ρ τ Lc stc hx g1 g2 g3 g4 g5 g6 g7 g8
    have e0 : ρ 0 = x0 := hx 0 (by decide)
    subst e0
    match stc, g8 with
    | [_], ⟨h, _⟩ => cases h; exact l0 τ ρ g1 g2 g3 g4 g5 g6
  · intro ρ τ Lc stc hx g1 g2 g3 g4 g5 g6 g7 g8
    have e0 : ρ 0 = x0 := hx 0 (by decide)
    subst e0
    have g7 := g7 (by decide)
    match Lc, stc, g7, g8 with
    | [v0], [w0], ⟨hv0, _⟩, ⟨hw0, _⟩ =>
      cases hv0
      cases hw0
      exact l1 τ ρ  g1 g2 g3 g4 g5 g6
set_option maxRecDepth 100000 in
theorem uf_s8 {σ : pm_S} {Q : Option Value → pm_S → Prop} (x0 : Int)  (hB : an_GB pm_B σ) (eF : (0 ≤ x0 ∧ x0 ≤ 330) ∧ True)
    (l0 : ∀ (τ : pm_S) (y : Nat → Int), an_GB pm_B τ → FQ [] σ τ → ((0 ≤ x0 ∧ x0 ≤ 330) ∧ True) → (True) → (True) → (True) → Q (some (.int (Int32.ofInt (x0)))) τ)
    : Ok 139 61 8 [.ref 0] [.int (Int32.ofInt (x0))] σ Q := by
  refine an_seg (B := pm_B) (F := []) (T := []) (S := []) (fun _ h => absurd h List.not_mem_nil) (k := 139) (d := 60) (cs := []) 4 8 1 [(0, 0, 330)] [] [(2, 0, 0)] [(0, 0, 0)] [(9999, [], [(0, 0, 0)], [(0, 0, 330)], [], [], [])] (by decide +kernel) (ρ0 := (fun s => [x0].getD s 0)) hB eF trivial ⟨rfl, trivial⟩ ⟨rfl, trivial⟩ ?_
  refine List.forall_mem_cons.mpr ⟨?_, fun _ h => absurd h List.not_mem_nil⟩
  · intro ρ τ Lc stc hx g1 g2 g3 g4 g5 g6 g7 g8
    have e0 : ρ 0 = x0 := hx 0 (by decide)
    subst e0
    match stc, g8 with
    | [_], ⟨h, _⟩ => cases h; exact l0 τ ρ g1 g2 g3 g4 g5 g6
set_option maxRecDepth 100000 in
theorem uf_p0 {σ : pm_S} {Q : Option Value → pm_S → Prop} (x0 x1 : Int) (v2 : Value) (v3 : Value) (hv2 : v2.category = 1) (hv3 : v3.category = 1) (hB : an_GB pm_B σ) (eF : ((-2147483648) ≤ x0 ∧ x0 ≤ 2147483647) ∧ (0 ≤ x1 ∧ x1 ≤ 9999) ∧ True) (eC : (σ.1 1 1).toInt = x1 ∧ True)
    (l0 : ∀ (τ : pm_S) (y : Nat → Int), an_GB pm_B τ → FQ [] σ τ → (((-2147483648) ≤ x0 ∧ x0 ≤ 0) ∧ (0 ≤ x1 ∧ x1 ≤ 9999) ∧ True) → (True) → (True) → ((τ.1 1 1).toInt = x1 ∧ True) → Q (some (.int (Int32.ofInt (-1)))) τ)
    (l1 : ∀ (τ : pm_S) (y : Nat → Int), an_GB pm_B τ → FQ [] σ τ → ((401 ≤ x0 ∧ x0 ≤ 2147483647) ∧ (0 ≤ x1 ∧ x1 ≤ 9999) ∧ True) → (True) → (True) → ((τ.1 1 1).toInt = x1 ∧ True) → Q (some (.int (Int32.ofInt (-1)))) τ)
    (l2 : ∀ (τ : pm_S) (y : Nat → Int) (v2 : Value) (v3 : Value), v2.category = 1 → v3.category = 1 → an_GB pm_B τ → FQ [] σ τ → ((1 ≤ x0 ∧ x0 ≤ 400) ∧ (0 ≤ x1 ∧ x1 ≤ 9999) ∧ (1 ≤ y 2 ∧ y 2 ≤ 9999) ∧ True) → (True) → ((an_f 0 (Int32.ofInt (x1)) (Int32.ofInt (x0))).toInt = y 2 ∧ True) → ((τ.1 1 1).toInt = x1 ∧ True) → Ok 140 61 18 [.ref 0, .int (Int32.ofInt (x0)), v2, v3] [.ref 7] τ Q)
    (l3 : ∀ (τ : pm_S) (y : Nat → Int), an_GB pm_B τ → FQ [] σ τ → ((1 ≤ x0 ∧ x0 ≤ 400) ∧ (0 ≤ x1 ∧ x1 ≤ 9999) ∧ (10000 ≤ y 2 ∧ y 2 ≤ 10399) ∧ True) → (True) → ((an_f 0 (Int32.ofInt (x1)) (Int32.ofInt (x0))).toInt = y 2 ∧ True) → ((τ.1 1 1).toInt = x1 ∧ True) → Q (some (.int (Int32.ofInt (-1)))) τ)
    : Ok 140 61 0 [.ref 0, .int (Int32.ofInt (x0)), v2, v3] [] σ Q := by
  refine an_seg (B := pm_B) (F := []) (T := []) (S := []) (fun _ h => absurd h List.not_mem_nil) (k := 140) (d := 60) (cs := [18]) 18 0 2 [(0, (-2147483648), 2147483647), (1, 0, 9999)] [(1, (1, 0, 1), (0, 1, 0))] [(2, 0, 0), (0, 0, 0), (5, 0, 0), (5, 0, 0)] [] [(9999, [], [(1, 0, (-1))], [(0, (-2147483648), 0), (1, 0, 9999)], [], [], [(1, (1, 0, 1), (0, 1, 0))]),
    (9999, [], [(1, 0, (-1))], [(0, 401, 2147483647), (1, 0, 9999)], [], [], [(1, (1, 0, 1), (0, 1, 0))]),
    (18, [(2, 0, 0), (0, 0, 0), (5, 0, 0), (5, 0, 0)], [(2, 7, 0)], [(0, 1, 400), (1, 0, 9999), (2, 1, 9999)], [], [(0, (0, 1, 0), (0, 0, 0), 2)], [(1, (1, 0, 1), (0, 1, 0))]),
    (9999, [], [(1, 0, (-1))], [(0, 1, 400), (1, 0, 9999), (2, 10000, 10399)], [], [(0, (0, 1, 0), (0, 0, 0), 2)], [(1, (1, 0, 1), (0, 1, 0))])] (by decide +kernel) (ρ0 := (fun s => [x0, x1].getD s 0)) hB eF eC ⟨rfl, ⟨rfl, ⟨hv2, ⟨hv3, trivial⟩⟩⟩⟩ trivial ?_
  refine List.forall_mem_cons.mpr ⟨?_, List.forall_mem_cons.mpr ⟨?_, List.forall_mem_cons.mpr ⟨?_, List.forall_mem_cons.mpr ⟨?_, fun _ h => absurd h List.not_mem_nil⟩⟩⟩⟩
  · intro ρ τ Lc stc hx g1 g2 g3 g4 g5 g6 g7 g8
    have e0 : ρ 0 = x0 := hx 0 (by decide)
    have e1 : ρ 1 = x1 := hx 1 (by decide)
    subst e0
    subst e1
    match stc, g8 with
    | [_], ⟨h, _⟩ => cases h; exact l0 τ ρ g1 g2 g3 g4 g5 g6
  · intro ρ τ Lc stc hx g1 g2 g3 g4 g5 g6 g7 g8
    have e0 : ρ 0 = x0 := hx 0 (by decide)
    have e1 : ρ 1 = x1 := hx 1 (by decide)
    subst e0
    subst e1
    match stc, g8 with
    | [_], ⟨h, _⟩ => cases h; exact l1 τ ρ g1 g2 g3 g4 g5 g6
  · intro ρ τ Lc stc hx g1 g2 g3 g4 g5 g6 g7 g8
    have e0 : ρ 0 = x0 := hx 0 (by decide)
    have e1 : ρ 1 = x1 := hx 1 (by decide)
    subst e0
    subst e1
    have g7 := g7 (by decide)
    match Lc, stc, g7, g8 with
    | [v0, v1, v2, v3], [w0], ⟨hv0, hv1, hv2, hv3, _⟩, ⟨hw0, _⟩ =>
      cases hv0
      cases hv1
      cases hw0
      exact l2 τ ρ v2 v3 hv2 hv3 g1 g2 g3 g4 g5 g6
  · intro ρ τ Lc stc hx g1 g2 g3 g4 g5 g6 g7 g8
    have e0 : ρ 0 = x0 := hx 0 (by decide)
    have e1 : ρ 1 = x1 := hx 1 (by decide)
    subst e0
    subst e1
    match stc, g8 with
    | [_], ⟨h, _⟩ => cases h; exact l3 τ ρ g1 g2 g3 g4 g5 g6
set_option maxRecDepth 100000 in
theorem uf_p19 {σ : pm_S} {Q : Option Value → pm_S → Prop} (x0 : Int) (v2 : Value) (v3 : Value) (hv2 : v2.category = 1) (hv3 : v3.category = 1) (hB : an_GB pm_B σ) (eF : (1 ≤ x0 ∧ x0 ≤ 400) ∧ True)
    (l0 : ∀ (τ : pm_S) (y : Nat → Int), an_GB pm_B τ → FQ [] σ τ → ((1 ≤ x0 ∧ x0 ≤ 400) ∧ True) → (True) → (True) → (True) → Ok 140 61 23 [.ref 0, .int (Int32.ofInt (x0)), .int (Int32.ofInt 0), .int (Int32.ofInt 0)] [] τ Q)
    : Ok 140 61 19 [.ref 0, .int (Int32.ofInt (x0)), v2, v3] [] σ Q := by
  refine an_seg (B := pm_B) (F := []) (T := []) (S := []) (fun _ h => absurd h List.not_mem_nil) (k := 140) (d := 60) (cs := [23]) 6 19 1 [(0, 1, 400)] [] [(2, 0, 0), (0, 0, 0), (5, 0, 0), (5, 0, 0)] [] [(23, [(2, 0, 0), (0, 0, 0), (1, 0, 0), (1, 0, 0)], [], [(0, 1, 400)], [], [], [])] (by decide +kernel) (ρ0 := (fun s => [x0].getD s 0)) hB eF trivial ⟨rfl, ⟨rfl, ⟨hv2, ⟨hv3, trivial⟩⟩⟩⟩ trivial ?_
  refine List.forall_mem_cons.mpr ⟨?_, fun _ h => absurd h List.not_mem_nil⟩
  · intro ρ τ Lc stc hx g1 g2 g3 g4 g5 g6 g7 g8
    have e0 : ρ 0 = x0 := hx 0 (by decide)
    subst e0
    have g7 := g7 (by decide)
    match Lc, stc, g7, g8 with
    | [v0, v1, v2, v3], [], ⟨hv0, hv1, hv2, hv3, _⟩, _ =>
      cases hv0
      cases hv1
      cases hv2
      cases hv3
      exact l0 τ ρ  g1 g2 g3 g4 g5 g6
set_option maxRecDepth 100000 in
theorem uf_p23 {σ : pm_S} {Q : Option Value → pm_S → Prop} (x0 x1 x2 : Int)  (hB : an_GB pm_B σ) (eF : (1 ≤ x0 ∧ x0 ≤ 400) ∧ (0 ≤ x1 ∧ x1 ≤ 132000) ∧ (0 ≤ x2 ∧ x2 ≤ 400) ∧ True)
    (l0 : ∀ (τ : pm_S) (y : Nat → Int), an_GB pm_B τ → FQ [] σ τ → ((1 ≤ x0 ∧ x0 ≤ 400) ∧ (0 ≤ x1 ∧ x1 ≤ 132000) ∧ (0 ≤ x2 ∧ x2 ≤ 400) ∧ True) → (True) → (True) → (True) → Ok 140 61 25 [.ref 0, .int (Int32.ofInt (x0)), .int (Int32.ofInt (x1)), .int (Int32.ofInt (x2))] [.int (Int32.ofInt (x0)), .int (Int32.ofInt (x2))] τ Q)
    : Ok 140 61 23 [.ref 0, .int (Int32.ofInt (x0)), .int (Int32.ofInt (x1)), .int (Int32.ofInt (x2))] [] σ Q := by
  refine an_seg (B := pm_B) (F := []) (T := []) (S := []) (fun _ h => absurd h List.not_mem_nil) (k := 140) (d := 60) (cs := [25]) 4 23 3 [(0, 1, 400), (1, 0, 132000), (2, 0, 400)] [] [(2, 0, 0), (0, 0, 0), (0, 1, 0), (0, 2, 0)] [] [(25, [(2, 0, 0), (0, 0, 0), (0, 1, 0), (0, 2, 0)], [(0, 0, 0), (0, 2, 0)], [(0, 1, 400), (1, 0, 132000), (2, 0, 400)], [], [], [])] (by decide +kernel) (ρ0 := (fun s => [x0, x1, x2].getD s 0)) hB eF trivial ⟨rfl, ⟨rfl, ⟨rfl, ⟨rfl, trivial⟩⟩⟩⟩ trivial ?_
  refine List.forall_mem_cons.mpr ⟨?_, fun _ h => absurd h List.not_mem_nil⟩
  · intro ρ τ Lc stc hx g1 g2 g3 g4 g5 g6 g7 g8
    have e0 : ρ 0 = x0 := hx 0 (by decide)
    have e1 : ρ 1 = x1 := hx 1 (by decide)
    have e2 : ρ 2 = x2 := hx 2 (by decide)
    subst e0
    subst e1
    subst e2
    have g7 := g7 (by decide)
    match Lc, stc, g7, g8 with
    | [v0, v1, v2, v3], [w0, w1], ⟨hv0, hv1, hv2, hv3, _⟩, ⟨hw0, hw1, _⟩ =>
      cases hv0
      cases hv1
      cases hv2
      cases hv3
      cases hw0
      cases hw1
      exact l0 τ ρ  g1 g2 g3 g4 g5 g6
set_option maxRecDepth 100000 in
theorem uf_p26 {σ : pm_S} {Q : Option Value → pm_S → Prop} (x0 x1 x2 : Int)  (hB : an_GB pm_B σ) (eF : (1 ≤ x0 ∧ x0 ≤ 400) ∧ (0 ≤ x1 ∧ x1 ≤ 132000) ∧ (0 ≤ x2 ∧ x2 ≤ 399) ∧ True)
    (l0 : ∀ (τ : pm_S) (y : Nat → Int), an_GB pm_B τ → FQ [] σ τ → ((1 ≤ x0 ∧ x0 ≤ 400) ∧ (0 ≤ x1 ∧ x1 ≤ 132000) ∧ (0 ≤ x2 ∧ x2 ≤ 399) ∧ True) → (True) → (True) → (True) → Ok 140 61 29 [.ref 0, .int (Int32.ofInt (x0)), .int (Int32.ofInt (x1)), .int (Int32.ofInt (x2))] [.ref 74, .int (Int32.ofInt (x1))] τ Q)
    : Ok 140 61 26 [.ref 0, .int (Int32.ofInt (x0)), .int (Int32.ofInt (x1)), .int (Int32.ofInt (x2))] [] σ Q := by
  refine an_seg (B := pm_B) (F := []) (T := []) (S := []) (fun _ h => absurd h List.not_mem_nil) (k := 140) (d := 60) (cs := [29]) 5 26 3 [(0, 1, 400), (1, 0, 132000), (2, 0, 399)] [] [(2, 0, 0), (0, 0, 0), (0, 1, 0), (0, 2, 0)] [] [(29, [(2, 0, 0), (0, 0, 0), (0, 1, 0), (0, 2, 0)], [(2, 74, 0), (0, 1, 0)], [(0, 1, 400), (1, 0, 132000), (2, 0, 399)], [], [], [])] (by decide +kernel) (ρ0 := (fun s => [x0, x1, x2].getD s 0)) hB eF trivial ⟨rfl, ⟨rfl, ⟨rfl, ⟨rfl, trivial⟩⟩⟩⟩ trivial ?_
  refine List.forall_mem_cons.mpr ⟨?_, fun _ h => absurd h List.not_mem_nil⟩
  · intro ρ τ Lc stc hx g1 g2 g3 g4 g5 g6 g7 g8
    have e0 : ρ 0 = x0 := hx 0 (by decide)
    have e1 : ρ 1 = x1 := hx 1 (by decide)
    have e2 : ρ 2 = x2 := hx 2 (by decide)
    subst e0
    subst e1
    subst e2
    have g7 := g7 (by decide)
    match Lc, stc, g7, g8 with
    | [v0, v1, v2, v3], [w0, w1], ⟨hv0, hv1, hv2, hv3, _⟩, ⟨hw0, hw1, _⟩ =>
      cases hv0
      cases hv1
      cases hv2
      cases hv3
      cases hw0
      cases hw1
      exact l0 τ ρ  g1 g2 g3 g4 g5 g6
set_option maxRecDepth 100000 in
theorem uf_p30 {σ : pm_S} {Q : Option Value → pm_S → Prop} (x0 x1 x2 x3 : Int)  (hB : an_GB pm_B σ) (eF : (1 ≤ x0 ∧ x0 ≤ 400) ∧ (0 ≤ x1 ∧ x1 ≤ 132000) ∧ (0 ≤ x2 ∧ x2 ≤ 399) ∧ (0 ≤ x3 ∧ x3 ≤ 330) ∧ True)
    (l0 : ∀ (τ : pm_S) (y : Nat → Int), an_GB pm_B τ → FQ [] σ τ → ((1 ≤ x0 ∧ x0 ≤ 400) ∧ (0 ≤ x1 ∧ x1 ≤ 132000) ∧ (0 ≤ x2 ∧ x2 ≤ 399) ∧ (0 ≤ x3 ∧ x3 ≤ 330) ∧ (0 ≤ y 4 ∧ y 4 ≤ 132330) ∧ True) → (True) → ((an_f 0 (Int32.ofInt (x1)) (Int32.ofInt (x3))).toInt = y 4 ∧ True) → (True) → Ok 140 61 23 [.ref 0, .int (Int32.ofInt (x0)), .int (Int32.ofInt (y 4)), .int (Int32.ofInt (x2 + 1))] [] τ Q)
    : Ok 140 61 30 [.ref 0, .int (Int32.ofInt (x0)), .int (Int32.ofInt (x1)), .int (Int32.ofInt (x2))] [.int (Int32.ofInt (x3)), .int (Int32.ofInt (x1))] σ Q := by
  refine an_seg (B := pm_B) (F := []) (T := []) (S := []) (fun _ h => absurd h List.not_mem_nil) (k := 140) (d := 60) (cs := [23]) 6 30 4 [(0, 1, 400), (1, 0, 132000), (2, 0, 399), (3, 0, 330)] [] [(2, 0, 0), (0, 0, 0), (0, 1, 0), (0, 2, 0)] [(0, 3, 0), (0, 1, 0)] [(23, [(2, 0, 0), (0, 0, 0), (0, 4, 0), (0, 2, 1)], [], [(0, 1, 400), (1, 0, 132000), (2, 0, 399), (3, 0, 330), (4, 0, 132330)], [], [(0, (0, 1, 0), (0, 3, 0), 4)], [])] (by decide +kernel) (ρ0 := (fun s => [x0, x1, x2, x3].getD s 0)) hB eF trivial ⟨rfl, ⟨rfl, ⟨rfl, ⟨rfl, trivial⟩⟩⟩⟩ ⟨rfl, ⟨rfl, trivial⟩⟩ ?_
  refine List.forall_mem_cons.mpr ⟨?_, fun _ h => absurd h List.not_mem_nil⟩
  · intro ρ τ Lc stc hx g1 g2 g3 g4 g5 g6 g7 g8
    have e0 : ρ 0 = x0 := hx 0 (by decide)
    have e1 : ρ 1 = x1 := hx 1 (by decide)
    have e2 : ρ 2 = x2 := hx 2 (by decide)
    have e3 : ρ 3 = x3 := hx 3 (by decide)
    subst e0
    subst e1
    subst e2
    subst e3
    have g7 := g7 (by decide)
    match Lc, stc, g7, g8 with
    | [v0, v1, v2, v3], [], ⟨hv0, hv1, hv2, hv3, _⟩, _ =>
      cases hv0
      cases hv1
      cases hv2
      cases hv3
      exact l0 τ ρ  g1 g2 g3 g4 g5 g6
set_option maxRecDepth 100000 in
theorem uf_p34 {σ : pm_S} {Q : Option Value → pm_S → Prop} (x0 x1 x2 : Int)  (hB : an_GB pm_B σ) (eF : (1 ≤ x0 ∧ x0 ≤ 400) ∧ (0 ≤ x1 ∧ x1 ≤ 132000) ∧ (0 ≤ x2 ∧ x2 ≤ 400) ∧ True)
    (l0 : ∀ (τ : pm_S) (y : Nat → Int), an_GB pm_B τ → FQ [] σ τ → ((1 ≤ x0 ∧ x0 ≤ 400) ∧ (0 ≤ x1 ∧ x1 ≤ 132000) ∧ (0 ≤ x2 ∧ x2 ≤ 400) ∧ True) → (True) → (True) → (True) → Q (some (.int (Int32.ofInt (x1)))) τ)
    : Ok 140 61 34 [.ref 0, .int (Int32.ofInt (x0)), .int (Int32.ofInt (x1)), .int (Int32.ofInt (x2))] [] σ Q := by
  refine an_seg (B := pm_B) (F := []) (T := []) (S := []) (fun _ h => absurd h List.not_mem_nil) (k := 140) (d := 60) (cs := []) 4 34 3 [(0, 1, 400), (1, 0, 132000), (2, 0, 400)] [] [(2, 0, 0), (0, 0, 0), (0, 1, 0), (0, 2, 0)] [] [(9999, [], [(0, 1, 0)], [(0, 1, 400), (1, 0, 132000), (2, 0, 400)], [], [], [])] (by decide +kernel) (ρ0 := (fun s => [x0, x1, x2].getD s 0)) hB eF trivial ⟨rfl, ⟨rfl, ⟨rfl, ⟨rfl, trivial⟩⟩⟩⟩ trivial ?_
  refine List.forall_mem_cons.mpr ⟨?_, fun _ h => absurd h List.not_mem_nil⟩
  · intro ρ τ Lc stc hx g1 g2 g3 g4 g5 g6 g7 g8
    have e0 : ρ 0 = x0 := hx 0 (by decide)
    have e1 : ρ 1 = x1 := hx 1 (by decide)
    have e2 : ρ 2 = x2 := hx 2 (by decide)
    subst e0
    subst e1
    subst e2
    match stc, g8 with
    | [_], ⟨h, _⟩ => cases h; exact l0 τ ρ g1 g2 g3 g4 g5 g6
set_option maxRecDepth 100000 in
theorem uf_t0 {σ : pm_S} {Q : Option Value → pm_S → Prop} (x0 : Int)  (hB : an_GB pm_B σ) (eF : (0 ≤ x0 ∧ x0 ≤ 9999) ∧ True) (eC : (σ.1 93 19).toInt = x0 ∧ True)
    (l0 : ∀ (τ : pm_S) (y : Nat → Int), an_GB pm_B τ → FQ [(93, 0)] σ τ → ((0 ≤ x0 ∧ x0 ≤ 9998) ∧ True) → (True) → (True) → ((τ.1 93 0).toInt = 0 ∧ (τ.1 93 19).toInt = x0 ∧ True) → Ok 211 41 10 [.ref 93] [.ref 93] τ Q)
    (l1 : ∀ (τ : pm_S) (y : Nat → Int), an_GB pm_B τ → FQ [(93, 0)] σ τ → ((9999 ≤ x0 ∧ x0 ≤ 9999) ∧ True) → (True) → (True) → ((τ.1 93 0).toInt = 0 ∧ (τ.1 93 19).toInt = x0 ∧ True) → Q (some (.int (Int32.ofInt (-1)))) τ)
    : Ok 211 41 0 [.ref 93] [] σ Q := by
  refine an_seg (B := pm_B) (F := [(93, 0)]) (T := []) (S := []) (fun _ h => absurd h List.not_mem_nil) (k := 211) (d := 40) (cs := [10]) 12 0 1 [(0, 0, 9999)] [(93, (1, 0, 19), (0, 0, 0))] [(2, 93, 0)] [] [(10, [(2, 93, 0)], [(2, 93, 0)], [(0, 0, 9998)], [], [], [(93, (1, 0, 0), (1, 0, 0)), (93, (1, 0, 19), (0, 0, 0))]),
    (9999, [], [(1, 0, (-1))], [(0, 9999, 9999)], [], [], [(93, (1, 0, 0), (1, 0, 0)), (93, (1, 0, 19), (0, 0, 0))])] (by decide +kernel) (ρ0 := (fun s => [x0].getD s 0)) hB eF eC ⟨rfl, trivial⟩ trivial ?_
  refine List.forall_mem_cons.mpr ⟨?_, List.forall_mem_cons.mpr ⟨?_, fun _ h => absurd h List.not_mem_nil⟩⟩
  · intro ρ τ Lc stc hx g1 g2 g3 g4 g5 g6 g7 g8
    have e0 : ρ 0 = x0 := hx 0 (by decide)
    subst e0
    have g7 := g7 (by decide)
    match Lc, stc, g7, g8 with
    | [v0], [w0], ⟨hv0, _⟩, ⟨hw0, _⟩ =>
      cases hv0
      cases hw0
      exact l0 τ ρ  g1 g2 g3 g4 g5 g6
  · intro ρ τ Lc stc hx g1 g2 g3 g4 g5 g6 g7 g8
    have e0 : ρ 0 = x0 := hx 0 (by decide)
    subst e0
    match stc, g8 with
    | [_], ⟨h, _⟩ => cases h; exact l1 τ ρ g1 g2 g3 g4 g5 g6
set_option maxRecDepth 100000 in
theorem uf_t11 {σ : pm_S} {Q : Option Value → pm_S → Prop} (x0 : Int)  (hB : an_GB pm_B σ) (eF : (0 ≤ x0 ∧ x0 ≤ 1000) ∧ True)
    (l0 : ∀ (τ : pm_S) (y : Nat → Int), an_GB pm_B τ → FQ [] σ τ → ((0 ≤ x0 ∧ x0 ≤ 1000) ∧ True) → (True) → (True) → (True) → Q (some (.int (Int32.ofInt (x0)))) τ)
    : Ok 211 41 11 [.ref 93] [.int (Int32.ofInt (x0))] σ Q := by
  refine an_seg (B := pm_B) (F := []) (T := []) (S := []) (fun _ h => absurd h List.not_mem_nil) (k := 211) (d := 40) (cs := []) 3 11 1 [(0, 0, 1000)] [] [(2, 93, 0)] [(0, 0, 0)] [(9999, [], [(0, 0, 0)], [(0, 0, 1000)], [], [], [])] (by decide +kernel) (ρ0 := (fun s => [x0].getD s 0)) hB eF trivial ⟨rfl, trivial⟩ ⟨rfl, trivial⟩ ?_
  refine List.forall_mem_cons.mpr ⟨?_, fun _ h => absurd h List.not_mem_nil⟩
  · intro ρ τ Lc stc hx g1 g2 g3 g4 g5 g6 g7 g8
    have e0 : ρ 0 = x0 := hx 0 (by decide)
    subst e0
    match stc, g8 with
    | [_], ⟨h, _⟩ => cases h; exact l0 τ ρ g1 g2 g3 g4 g5 g6
set_option maxRecDepth 100000 in
theorem uf_q0 {σ : pm_S} {Q : Option Value → pm_S → Prop} (x0 x1 : Int) (v2 : Value) (v3 : Value) (hv2 : v2.category = 1) (hv3 : v3.category = 1) (hB : an_GB pm_B σ) (eF : ((-2147483648) ≤ x0 ∧ x0 ≤ 2147483647) ∧ (0 ≤ x1 ∧ x1 ≤ 9999) ∧ True) (eC : (σ.1 93 19).toInt = x1 ∧ True)
    (l0 : ∀ (τ : pm_S) (y : Nat → Int), an_GB pm_B τ → FQ [(93, 0)] σ τ → (((-2147483648) ≤ x0 ∧ x0 ≤ 0) ∧ (0 ≤ x1 ∧ x1 ≤ 9999) ∧ True) → (True) → (True) → ((τ.1 93 0).toInt = 0 ∧ (τ.1 93 19).toInt = x1 ∧ True) → Q (some (.int (Int32.ofInt (-1)))) τ)
    (l1 : ∀ (τ : pm_S) (y : Nat → Int), an_GB pm_B τ → FQ [(93, 0)] σ τ → ((401 ≤ x0 ∧ x0 ≤ 2147483647) ∧ (0 ≤ x1 ∧ x1 ≤ 9999) ∧ True) → (True) → (True) → ((τ.1 93 0).toInt = 0 ∧ (τ.1 93 19).toInt = x1 ∧ True) → Q (some (.int (Int32.ofInt (-1)))) τ)
    (l2 : ∀ (τ : pm_S) (y : Nat → Int) (v3 : Value), v3.category = 1 → an_GB pm_B τ → FQ [(93, 0)] σ τ → ((1 ≤ x0 ∧ x0 ≤ 400) ∧ (0 ≤ x1 ∧ x1 ≤ 9999) ∧ (1 ≤ y 2 ∧ y 2 ≤ 9999) ∧ True) → (True) → ((an_f 0 (Int32.ofInt (x1)) (Int32.ofInt (x0))).toInt = y 2 ∧ True) → ((τ.1 93 0).toInt = 0 ∧ (τ.1 93 19).toInt = x1 ∧ True) → Ok 212 41 19 [.ref 93, .int (Int32.ofInt (x0)), .int (Int32.ofInt 0), v3] [] τ Q)
    (l3 : ∀ (τ : pm_S) (y : Nat → Int), an_GB pm_B τ → FQ [(93, 0)] σ τ → ((1 ≤ x0 ∧ x0 ≤ 400) ∧ (0 ≤ x1 ∧ x1 ≤ 9999) ∧ (10000 ≤ y 2 ∧ y 2 ≤ 10399) ∧ True) → (True) → ((an_f 0 (Int32.ofInt (x1)) (Int32.ofInt (x0))).toInt = y 2 ∧ True) → ((τ.1 93 0).toInt = 0 ∧ (τ.1 93 19).toInt = x1 ∧ True) → Q (some (.int (Int32.ofInt (-1)))) τ)
    : Ok 212 41 0 [.ref 93, .int (Int32.ofInt (x0)), v2, v3] [] σ Q := by
  refine an_seg (B := pm_B) (F := [(93, 0)]) (T := []) (S := []) (fun _ h => absurd h List.not_mem_nil) (k := 212) (d := 40) (cs := [19]) 28 0 2 [(0, (-2147483648), 2147483647), (1, 0, 9999)] [(93, (1, 0, 19), (0, 1, 0))] [(2, 93, 0), (0, 0, 0), (5, 0, 0), (5, 0, 0)] [] [(9999, [], [(1, 0, (-1))], [(0, (-2147483648), 0), (1, 0, 9999)], [], [], [(93, (1, 0, 0), (1, 0, 0)), (93, (1, 0, 19), (0, 1, 0))]),
    (9999, [], [(1, 0, (-1))], [(0, 401, 2147483647), (1, 0, 9999)], [], [], [(93, (1, 0, 0), (1, 0, 0)), (93, (1, 0, 19), (0, 1, 0))]),
    (19, [(2, 93, 0), (0, 0, 0), (1, 0, 0), (5, 0, 0)], [], [(0, 1, 400), (1, 0, 9999), (2, 1, 9999)], [], [(0, (0, 1, 0), (0, 0, 0), 2)], [(93, (1, 0, 0), (1, 0, 0)), (93, (1, 0, 19), (0, 1, 0))]),
    (9999, [], [(1, 0, (-1))], [(0, 1, 400), (1, 0, 9999), (2, 10000, 10399)], [], [(0, (0, 1, 0), (0, 0, 0), 2)], [(93, (1, 0, 0), (1, 0, 0)), (93, (1, 0, 19), (0, 1, 0))])] (by decide +kernel) (ρ0 := (fun s => [x0, x1].getD s 0)) hB eF eC ⟨rfl, ⟨rfl, ⟨hv2, ⟨hv3, trivial⟩⟩⟩⟩ trivial ?_
  refine List.forall_mem_cons.mpr ⟨?_, List.forall_mem_cons.mpr ⟨?_, List.forall_mem_cons.mpr ⟨?_, List.forall_mem_cons.mpr ⟨?_, fun _ h => absurd h List.not_mem_nil⟩⟩⟩⟩
  · intro ρ τ Lc stc hx g1 g2 g3 g4 g5 g6 g7 g8
    have e0 : ρ 0 = x0 := hx 0 (by decide)
    have e1 : ρ 1 = x1 := hx 1 (by decide)
    subst e0
    subst e1
    match stc, g8 with
    | [_], ⟨h, _⟩ => cases h; exact l0 τ ρ g1 g2 g3 g4 g5 g6
  · intro ρ τ Lc stc hx g1 g2 g3 g4 g5 g6 g7 g8
    have e0 : ρ 0 = x0 := hx 0 (by decide)
    have e1 : ρ 1 = x1 := hx 1 (by decide)
    subst e0
    subst e1
    match stc, g8 with
    | [_], ⟨h, _⟩ => cases h; exact l1 τ ρ g1 g2 g3 g4 g5 g6
  · intro ρ τ Lc stc hx g1 g2 g3 g4 g5 g6 g7 g8
    have e0 : ρ 0 = x0 := hx 0 (by decide)
    have e1 : ρ 1 = x1 := hx 1 (by decide)
    subst e0
    subst e1
    have g7 := g7 (by decide)
    match Lc, stc, g7, g8 with
    | [v0, v1, v2, v3], [], ⟨hv0, hv1, hv2, hv3, _⟩, _ =>
      cases hv0
      cases hv1
      cases hv2
      exact l2 τ ρ v3 hv3 g1 g2 g3 g4 g5 g6
  · intro ρ τ Lc stc hx g1 g2 g3 g4 g5 g6 g7 g8
    have e0 : ρ 0 = x0 := hx 0 (by decide)
    have e1 : ρ 1 = x1 := hx 1 (by decide)
    subst e0
    subst e1
    match stc, g8 with
    | [_], ⟨h, _⟩ => cases h; exact l3 τ ρ g1 g2 g3 g4 g5 g6
set_option maxRecDepth 100000 in
theorem uf_q19 {σ : pm_S} {Q : Option Value → pm_S → Prop} (x0 x1 x2 : Int) (v3 : Value) (hv3 : v3.category = 1) (hB : an_GB pm_B σ) (eF : (1 ≤ x0 ∧ x0 ≤ 400) ∧ (0 ≤ x1 ∧ x1 ≤ 10) ∧ (0 ≤ x2 ∧ x2 ≤ 10) ∧ True) (eC : (σ.1 93 5).toInt = x2 ∧ True)
    (l0 : ∀ (τ : pm_S) (y : Nat → Int) (v3 : Value), v3.category = 1 → an_GB pm_B τ → FQ [] σ τ → ((1 ≤ x0 ∧ x0 ≤ 400) ∧ (0 ≤ x1 ∧ x1 ≤ 10) ∧ (0 ≤ x2 ∧ x2 ≤ 10) ∧ True) → (True) → (True) → ((τ.1 93 5).toInt = x2 ∧ True) → Ok 212 41 22 [.ref 93, .int (Int32.ofInt (x0)), .int (Int32.ofInt (x1)), v3] [.int (Int32.ofInt (x2)), .int (Int32.ofInt (x1))] τ Q)
    : Ok 212 41 19 [.ref 93, .int (Int32.ofInt (x0)), .int (Int32.ofInt (x1)), v3] [] σ Q := by
  refine an_seg (B := pm_B) (F := []) (T := []) (S := []) (fun _ h => absurd h List.not_mem_nil) (k := 212) (d := 40) (cs := [22]) 5 19 3 [(0, 1, 400), (1, 0, 10), (2, 0, 10)] [(93, (1, 0, 5), (0, 2, 0))] [(2, 93, 0), (0, 0, 0), (0, 1, 0), (5, 0, 0)] [] [(22, [(2, 93, 0), (0, 0, 0), (0, 1, 0), (5, 0, 0)], [(0, 2, 0), (0, 1, 0)], [(0, 1, 400), (1, 0, 10), (2, 0, 10)], [], [], [(93, (1, 0, 5), (0, 2, 0))])] (by decide +kernel) (ρ0 := (fun s => [x0, x1, x2].getD s 0)) hB eF eC ⟨rfl, ⟨rfl, ⟨rfl, ⟨hv3, trivial⟩⟩⟩⟩ trivial ?_
  refine List.forall_mem_cons.mpr ⟨?_, fun _ h => absurd h List.not_mem_nil⟩
  · intro ρ τ Lc stc hx g1 g2 g3 g4 g5 g6 g7 g8
    have e0 : ρ 0 = x0 := hx 0 (by decide)
    have e1 : ρ 1 = x1 := hx 1 (by decide)
    have e2 : ρ 2 = x2 := hx 2 (by decide)
    subst e0
    subst e1
    subst e2
    have g7 := g7 (by decide)
    match Lc, stc, g7, g8 with
    | [v0, v1, v2, v3], [w0, w1], ⟨hv0, hv1, hv2, hv3, _⟩, ⟨hw0, hw1, _⟩ =>
      cases hv0
      cases hv1
      cases hv2
      cases hw0
      cases hw1
      exact l0 τ ρ v3 hv3 g1 g2 g3 g4 g5 g6
set_option maxRecDepth 100000 in
theorem uf_q23 {σ : pm_S} {Q : Option Value → pm_S → Prop} (x0 x1 x2 : Int) (v3 : Value) (hv3 : v3.category = 1) (hB : an_GB pm_B σ) (eF : (1 ≤ x0 ∧ x0 ≤ 400) ∧ (0 ≤ x1 ∧ x1 ≤ 9) ∧ (0 ≤ x2 ∧ x2 ≤ 9) ∧ True) (eC : (σ.1 96 (x1).toNat).toInt = x2 ∧ True)
    (l0 : ∀ (τ : pm_S) (y : Nat → Int) (v3 : Value), v3.category = 1 → an_GB pm_B τ → FQ [] σ τ → ((1 ≤ x0 ∧ x0 ≤ 400) ∧ (0 ≤ x1 ∧ x1 ≤ 9) ∧ (0 ≤ x2 ∧ x2 ≤ 9) ∧ True) → (True) → (True) → ((τ.1 96 (x1).toNat).toInt = x2 ∧ True) → Ok 212 41 30 [.ref 93, .int (Int32.ofInt (x0)), .int (Int32.ofInt (x1)), v3] [.int (Int32.ofInt (x2)), .int (Int32.ofInt (x1)), .ref 99] τ Q)
    : Ok 212 41 23 [.ref 93, .int (Int32.ofInt (x0)), .int (Int32.ofInt (x1)), v3] [] σ Q := by
  refine an_seg (B := pm_B) (F := []) (T := [96]) (S := []) (fun _ h => absurd h List.not_mem_nil) (k := 212) (d := 40) (cs := [30]) 9 23 3 [(0, 1, 400), (1, 0, 9), (2, 0, 9)] [(96, (0, 1, 0), (0, 2, 0))] [(2, 93, 0), (0, 0, 0), (0, 1, 0), (5, 0, 0)] [] [(30, [(2, 93, 0), (0, 0, 0), (0, 1, 0), (5, 0, 0)], [(0, 2, 0), (0, 1, 0), (2, 99, 0)], [(0, 1, 400), (1, 0, 9), (2, 0, 9)], [], [], [(96, (0, 1, 0), (0, 2, 0))])] (by decide +kernel) (ρ0 := (fun s => [x0, x1, x2].getD s 0)) hB eF eC ⟨rfl, ⟨rfl, ⟨rfl, ⟨hv3, trivial⟩⟩⟩⟩ trivial ?_
  refine List.forall_mem_cons.mpr ⟨?_, fun _ h => absurd h List.not_mem_nil⟩
  · intro ρ τ Lc stc hx g1 g2 g3 g4 g5 g6 g7 g8
    have e0 : ρ 0 = x0 := hx 0 (by decide)
    have e1 : ρ 1 = x1 := hx 1 (by decide)
    have e2 : ρ 2 = x2 := hx 2 (by decide)
    subst e0
    subst e1
    subst e2
    have g7 := g7 (by decide)
    match Lc, stc, g7, g8 with
    | [v0, v1, v2, v3], [w0, w1, w2], ⟨hv0, hv1, hv2, hv3, _⟩, ⟨hw0, hw1, hw2, _⟩ =>
      cases hv0
      cases hv1
      cases hv2
      cases hw0
      cases hw1
      cases hw2
      exact l0 τ ρ v3 hv3 g1 g2 g3 g4 g5 g6
set_option maxRecDepth 100000 in
theorem uf_q31 {σ : pm_S} {Q : Option Value → pm_S → Prop} (x0 x1 : Int) (v3 : Value) (hv3 : v3.category = 1) (hB : an_GB pm_B σ) (eF : (1 ≤ x0 ∧ x0 ≤ 400) ∧ (0 ≤ x1 ∧ x1 ≤ 9) ∧ True)
    (l0 : ∀ (τ : pm_S) (y : Nat → Int) (v3 : Value), v3.category = 1 → an_GB pm_B τ → FQ [] σ τ → ((1 ≤ x0 ∧ x0 ≤ 400) ∧ (0 ≤ x1 ∧ x1 ≤ 9) ∧ True) → (True) → (True) → (True) → Ok 212 41 19 [.ref 93, .int (Int32.ofInt (x0)), .int (Int32.ofInt (x1 + 1)), v3] [] τ Q)
    : Ok 212 41 31 [.ref 93, .int (Int32.ofInt (x0)), .int (Int32.ofInt (x1)), v3] [] σ Q := by
  refine an_seg (B := pm_B) (F := []) (T := []) (S := []) (fun _ h => absurd h List.not_mem_nil) (k := 212) (d := 40) (cs := [19]) 4 31 2 [(0, 1, 400), (1, 0, 9)] [] [(2, 93, 0), (0, 0, 0), (0, 1, 0), (5, 0, 0)] [] [(19, [(2, 93, 0), (0, 0, 0), (0, 1, 1), (5, 0, 0)], [], [(0, 1, 400), (1, 0, 9)], [], [], [])] (by decide +kernel) (ρ0 := (fun s => [x0, x1].getD s 0)) hB eF trivial ⟨rfl, ⟨rfl, ⟨rfl, ⟨hv3, trivial⟩⟩⟩⟩ trivial ?_
  refine List.forall_mem_cons.mpr ⟨?_, fun _ h => absurd h List.not_mem_nil⟩
  · intro ρ τ Lc stc hx g1 g2 g3 g4 g5 g6 g7 g8
    have e0 : ρ 0 = x0 := hx 0 (by decide)
    have e1 : ρ 1 = x1 := hx 1 (by decide)
    subst e0
    subst e1
    have g7 := g7 (by decide)
    match Lc, stc, g7, g8 with
    | [v0, v1, v2, v3], [], ⟨hv0, hv1, hv2, hv3, _⟩, _ =>
      cases hv0
      cases hv1
      cases hv2
      exact l0 τ ρ v3 hv3 g1 g2 g3 g4 g5 g6
set_option maxRecDepth 100000 in
theorem uf_q33 {σ : pm_S} {Q : Option Value → pm_S → Prop} (x0 : Int) (v2 : Value) (v3 : Value) (hv2 : v2.category = 1) (hv3 : v3.category = 1) (hB : an_GB pm_B σ) (eF : (1 ≤ x0 ∧ x0 ≤ 400) ∧ True)
    (l0 : ∀ (τ : pm_S) (y : Nat → Int), an_GB pm_B τ → FQ [] σ τ → ((1 ≤ x0 ∧ x0 ≤ 400) ∧ True) → (True) → (True) → (True) → Ok 212 41 37 [.ref 93, .int (Int32.ofInt (x0)), .int (Int32.ofInt 0), .int (Int32.ofInt 0)] [] τ Q)
    : Ok 212 41 33 [.ref 93, .int (Int32.ofInt (x0)), v2, v3] [] σ Q := by
  refine an_seg (B := pm_B) (F := []) (T := []) (S := []) (fun _ h => absurd h List.not_mem_nil) (k := 212) (d := 40) (cs := [37]) 6 33 1 [(0, 1, 400)] [] [(2, 93, 0), (0, 0, 0), (5, 0, 0), (5, 0, 0)] [] [(37, [(2, 93, 0), (0, 0, 0), (1, 0, 0), (1, 0, 0)], [], [(0, 1, 400)], [], [], [])] (by decide +kernel) (ρ0 := (fun s => [x0].getD s 0)) hB eF trivial ⟨rfl, ⟨rfl, ⟨hv2, ⟨hv3, trivial⟩⟩⟩⟩ trivial ?_
  refine List.forall_mem_cons.mpr ⟨?_, fun _ h => absurd h List.not_mem_nil⟩
  · intro ρ τ Lc stc hx g1 g2 g3 g4 g5 g6 g7 g8
    have e0 : ρ 0 = x0 := hx 0 (by decide)
    subst e0
    have g7 := g7 (by decide)
    match Lc, stc, g7, g8 with
    | [v0, v1, v2, v3], [], ⟨hv0, hv1, hv2, hv3, _⟩, _ =>
      cases hv0
      cases hv1
      cases hv2
      cases hv3
      exact l0 τ ρ  g1 g2 g3 g4 g5 g6
set_option maxRecDepth 100000 in
theorem uf_q37 {σ : pm_S} {Q : Option Value → pm_S → Prop} (x0 x1 x2 : Int)  (hB : an_GB pm_B σ) (eF : (1 ≤ x0 ∧ x0 ≤ 400) ∧ (0 ≤ x1 ∧ x1 ≤ 132000) ∧ (0 ≤ x2 ∧ x2 ≤ 400) ∧ True)
    (l0 : ∀ (τ : pm_S) (y : Nat → Int), an_GB pm_B τ → FQ [] σ τ → ((1 ≤ x0 ∧ x0 ≤ 400) ∧ (0 ≤ x1 ∧ x1 ≤ 132000) ∧ (0 ≤ x2 ∧ x2 ≤ 400) ∧ True) → (True) → (True) → (True) → Ok 212 41 39 [.ref 93, .int (Int32.ofInt (x0)), .int (Int32.ofInt (x1)), .int (Int32.ofInt (x2))] [.int (Int32.ofInt (x0)), .int (Int32.ofInt (x2))] τ Q)
    : Ok 212 41 37 [.ref 93, .int (Int32.ofInt (x0)), .int (Int32.ofInt (x1)), .int (Int32.ofInt (x2))] [] σ Q := by
  refine an_seg (B := pm_B) (F := []) (T := []) (S := []) (fun _ h => absurd h List.not_mem_nil) (k := 212) (d := 40) (cs := [39]) 4 37 3 [(0, 1, 400), (1, 0, 132000), (2, 0, 400)] [] [(2, 93, 0), (0, 0, 0), (0, 1, 0), (0, 2, 0)] [] [(39, [(2, 93, 0), (0, 0, 0), (0, 1, 0), (0, 2, 0)], [(0, 0, 0), (0, 2, 0)], [(0, 1, 400), (1, 0, 132000), (2, 0, 400)], [], [], [])] (by decide +kernel) (ρ0 := (fun s => [x0, x1, x2].getD s 0)) hB eF trivial ⟨rfl, ⟨rfl, ⟨rfl, ⟨rfl, trivial⟩⟩⟩⟩ trivial ?_
  refine List.forall_mem_cons.mpr ⟨?_, fun _ h => absurd h List.not_mem_nil⟩
  · intro ρ τ Lc stc hx g1 g2 g3 g4 g5 g6 g7 g8
    have e0 : ρ 0 = x0 := hx 0 (by decide)
    have e1 : ρ 1 = x1 := hx 1 (by decide)
    have e2 : ρ 2 = x2 := hx 2 (by decide)
    subst e0
    subst e1
    subst e2
    have g7 := g7 (by decide)
    match Lc, stc, g7, g8 with
    | [v0, v1, v2, v3], [w0, w1], ⟨hv0, hv1, hv2, hv3, _⟩, ⟨hw0, hw1, _⟩ =>
      cases hv0
      cases hv1
      cases hv2
      cases hv3
      cases hw0
      cases hw1
      exact l0 τ ρ  g1 g2 g3 g4 g5 g6
set_option maxRecDepth 100000 in
theorem uf_q40 {σ : pm_S} {Q : Option Value → pm_S → Prop} (x0 x1 x2 : Int)  (hB : an_GB pm_B σ) (eF : (1 ≤ x0 ∧ x0 ≤ 400) ∧ (0 ≤ x1 ∧ x1 ≤ 132000) ∧ (0 ≤ x2 ∧ x2 ≤ 399) ∧ True)
    (l0 : ∀ (τ : pm_S) (y : Nat → Int), an_GB pm_B τ → FQ [] σ τ → ((1 ≤ x0 ∧ x0 ≤ 400) ∧ (0 ≤ x1 ∧ x1 ≤ 132000) ∧ (0 ≤ x2 ∧ x2 ≤ 399) ∧ True) → (True) → (True) → (True) → Ok 212 41 42 [.ref 93, .int (Int32.ofInt (x0)), .int (Int32.ofInt (x1)), .int (Int32.ofInt (x2))] [.ref 93, .int (Int32.ofInt (x1))] τ Q)
    : Ok 212 41 40 [.ref 93, .int (Int32.ofInt (x0)), .int (Int32.ofInt (x1)), .int (Int32.ofInt (x2))] [] σ Q := by
  refine an_seg (B := pm_B) (F := []) (T := []) (S := []) (fun _ h => absurd h List.not_mem_nil) (k := 212) (d := 40) (cs := [42]) 4 40 3 [(0, 1, 400), (1, 0, 132000), (2, 0, 399)] [] [(2, 93, 0), (0, 0, 0), (0, 1, 0), (0, 2, 0)] [] [(42, [(2, 93, 0), (0, 0, 0), (0, 1, 0), (0, 2, 0)], [(2, 93, 0), (0, 1, 0)], [(0, 1, 400), (1, 0, 132000), (2, 0, 399)], [], [], [])] (by decide +kernel) (ρ0 := (fun s => [x0, x1, x2].getD s 0)) hB eF trivial ⟨rfl, ⟨rfl, ⟨rfl, ⟨rfl, trivial⟩⟩⟩⟩ trivial ?_
  refine List.forall_mem_cons.mpr ⟨?_, fun _ h => absurd h List.not_mem_nil⟩
  · intro ρ τ Lc stc hx g1 g2 g3 g4 g5 g6 g7 g8
    have e0 : ρ 0 = x0 := hx 0 (by decide)
    have e1 : ρ 1 = x1 := hx 1 (by decide)
    have e2 : ρ 2 = x2 := hx 2 (by decide)
    subst e0
    subst e1
    subst e2
    have g7 := g7 (by decide)
    match Lc, stc, g7, g8 with
    | [v0, v1, v2, v3], [w0, w1], ⟨hv0, hv1, hv2, hv3, _⟩, ⟨hw0, hw1, _⟩ =>
      cases hv0
      cases hv1
      cases hv2
      cases hv3
      cases hw0
      cases hw1
      exact l0 τ ρ  g1 g2 g3 g4 g5 g6
set_option maxRecDepth 100000 in
theorem uf_q43 {σ : pm_S} {Q : Option Value → pm_S → Prop} (x0 x1 x2 x3 : Int)  (hB : an_GB pm_B σ) (eF : (1 ≤ x0 ∧ x0 ≤ 400) ∧ (0 ≤ x1 ∧ x1 ≤ 132000) ∧ (0 ≤ x2 ∧ x2 ≤ 399) ∧ (0 ≤ x3 ∧ x3 ≤ 1000) ∧ True)
    (l0 : ∀ (τ : pm_S) (y : Nat → Int), an_GB pm_B τ → FQ [] σ τ → ((1 ≤ x0 ∧ x0 ≤ 400) ∧ (0 ≤ x1 ∧ x1 ≤ 132000) ∧ (0 ≤ x2 ∧ x2 ≤ 399) ∧ (0 ≤ x3 ∧ x3 ≤ 1000) ∧ (0 ≤ y 4 ∧ y 4 ≤ 133000) ∧ True) → (True) → ((an_f 0 (Int32.ofInt (x1)) (Int32.ofInt (x3))).toInt = y 4 ∧ True) → (True) → Ok 212 41 37 [.ref 93, .int (Int32.ofInt (x0)), .int (Int32.ofInt (y 4)), .int (Int32.ofInt (x2 + 1))] [] τ Q)
    : Ok 212 41 43 [.ref 93, .int (Int32.ofInt (x0)), .int (Int32.ofInt (x1)), .int (Int32.ofInt (x2))] [.int (Int32.ofInt (x3)), .int (Int32.ofInt (x1))] σ Q := by
  refine an_seg (B := pm_B) (F := []) (T := []) (S := []) (fun _ h => absurd h List.not_mem_nil) (k := 212) (d := 40) (cs := [37]) 6 43 4 [(0, 1, 400), (1, 0, 132000), (2, 0, 399), (3, 0, 1000)] [] [(2, 93, 0), (0, 0, 0), (0, 1, 0), (0, 2, 0)] [(0, 3, 0), (0, 1, 0)] [(37, [(2, 93, 0), (0, 0, 0), (0, 4, 0), (0, 2, 1)], [], [(0, 1, 400), (1, 0, 132000), (2, 0, 399), (3, 0, 1000), (4, 0, 133000)], [], [(0, (0, 1, 0), (0, 3, 0), 4)], [])] (by decide +kernel) (ρ0 := (fun s => [x0, x1, x2, x3].getD s 0)) hB eF trivial ⟨rfl, ⟨rfl, ⟨rfl, ⟨rfl, trivial⟩⟩⟩⟩ ⟨rfl, ⟨rfl, trivial⟩⟩ ?_
  refine List.forall_mem_cons.mpr ⟨?_, fun _ h => absurd h List.not_mem_nil⟩
  · intro ρ τ Lc stc hx g1 g2 g3 g4 g5 g6 g7 g8
    have e0 : ρ 0 = x0 := hx 0 (by decide)
    have e1 : ρ 1 = x1 := hx 1 (by decide)
    have e2 : ρ 2 = x2 := hx 2 (by decide)
    have e3 : ρ 3 = x3 := hx 3 (by decide)
    subst e0
    subst e1
    subst e2
    subst e3
    have g7 := g7 (by decide)
    match Lc, stc, g7, g8 with
    | [v0, v1, v2, v3], [], ⟨hv0, hv1, hv2, hv3, _⟩, _ =>
      cases hv0
      cases hv1
      cases hv2
      cases hv3
      exact l0 τ ρ  g1 g2 g3 g4 g5 g6
set_option maxRecDepth 100000 in
theorem uf_q47 {σ : pm_S} {Q : Option Value → pm_S → Prop} (x0 x1 x2 : Int)  (hB : an_GB pm_B σ) (eF : (1 ≤ x0 ∧ x0 ≤ 400) ∧ (0 ≤ x1 ∧ x1 ≤ 132000) ∧ (0 ≤ x2 ∧ x2 ≤ 400) ∧ True)
    (l0 : ∀ (τ : pm_S) (y : Nat → Int), an_GB pm_B τ → FQ [] σ τ → ((1 ≤ x0 ∧ x0 ≤ 400) ∧ (0 ≤ x1 ∧ x1 ≤ 132000) ∧ (0 ≤ x2 ∧ x2 ≤ 400) ∧ True) → (True) → (True) → (True) → Q (some (.int (Int32.ofInt (x1)))) τ)
    : Ok 212 41 47 [.ref 93, .int (Int32.ofInt (x0)), .int (Int32.ofInt (x1)), .int (Int32.ofInt (x2))] [] σ Q := by
  refine an_seg (B := pm_B) (F := []) (T := []) (S := []) (fun _ h => absurd h List.not_mem_nil) (k := 212) (d := 40) (cs := []) 4 47 3 [(0, 1, 400), (1, 0, 132000), (2, 0, 400)] [] [(2, 93, 0), (0, 0, 0), (0, 1, 0), (0, 2, 0)] [] [(9999, [], [(0, 1, 0)], [(0, 1, 400), (1, 0, 132000), (2, 0, 400)], [], [], [])] (by decide +kernel) (ρ0 := (fun s => [x0, x1, x2].getD s 0)) hB eF trivial ⟨rfl, ⟨rfl, ⟨rfl, ⟨rfl, trivial⟩⟩⟩⟩ trivial ?_
  refine List.forall_mem_cons.mpr ⟨?_, fun _ h => absurd h List.not_mem_nil⟩
  · intro ρ τ Lc stc hx g1 g2 g3 g4 g5 g6 g7 g8
    have e0 : ρ 0 = x0 := hx 0 (by decide)
    have e1 : ρ 1 = x1 := hx 1 (by decide)
    have e2 : ρ 2 = x2 := hx 2 (by decide)
    subst e0
    subst e1
    subst e2
    match stc, g8 with
    | [_], ⟨h, _⟩ => cases h; exact l0 τ ρ g1 g2 g3 g4 g5 g6
