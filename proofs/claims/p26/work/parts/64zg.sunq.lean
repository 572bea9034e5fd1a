/-! a Sunday but its rounds, the model: pieces -/
set_option maxRecDepth 100000 in
theorem qf_o0 {σ : pm_S} {Q : Option Value → pm_S → Prop} (x0 : Int) (v2 : Value) (v3 : Value) (v4 : Value) (hv2 : v2.category = 1) (hv3 : v3.category = 1) (hv4 : v4.category = 1) (hB : an_GB pm_B σ) (eF : (0 ≤ x0 ∧ x0 ≤ 1) ∧ True)
    (l0 : ∀ (τ : pm_S) (y : Nat → Int) (v3 : Value) (v4 : Value), v3.category = 1 → v4.category = 1 → an_GB pm_B τ → FQ [] σ τ → ((0 ≤ x0 ∧ x0 ≤ 1) ∧ True) → (True) → (True) → (True) → Ok 202 5 2 [.ref 93, .int (Int32.ofInt (x0)), .int (Int32.ofInt 0), v3, v4] [] τ Q)
    : Ok 202 5 0 [.ref 93, .int (Int32.ofInt (x0)), v2, v3, v4] [] σ Q := by
  refine an_seg (B := pm_B) (F := []) (T := []) (S := []) (fun _ h => absurd h List.not_mem_nil) (k := 202) (d := 4) (cs := [2]) 4 0 1 [(0, 0, 1)] [] [(2, 93, 0), (0, 0, 0), (5, 0, 0), (5, 0, 0), (5, 0, 0)] [] [(2, [(2, 93, 0), (0, 0, 0), (1, 0, 0), (5, 0, 0), (5, 0, 0)], [], [(0, 0, 1)], [], [], [])] (by decide +kernel) (ρ0 := (fun s => [x0].getD s 0)) hB eF trivial ⟨rfl, ⟨rfl, ⟨hv2, ⟨hv3, ⟨hv4, trivial⟩⟩⟩⟩⟩ trivial ?_
  refine List.forall_mem_cons.mpr ⟨?_, fun _ h => absurd h List.not_mem_nil⟩
  · intro ρ τ Lc stc hx g1 g2 g3 g4 g5 g6 g7 g8
    have e0 : ρ 0 = x0 := hx 0 (by decide)
    subst e0
    have g7 := g7 (by decide)
    match Lc, stc, g7, g8 with
    | [v0, v1, v2, v3, v4], [], ⟨hv0, hv1, hv2, hv3, hv4, _⟩, _ =>
      cases hv0
      cases hv1
      cases hv2
      exact l0 τ ρ v3 v4 hv3 hv4 g1 g2 g3 g4 g5 g6
set_option maxRecDepth 100000 in
theorem qf_o2 {σ : pm_S} {Q : Option Value → pm_S → Prop} (x0 x1 x2 : Int) (v3 : Value) (v4 : Value) (hv3 : v3.category = 1) (hv4 : v4.category = 1) (hB : an_GB pm_B σ) (eF : (0 ≤ x0 ∧ x0 ≤ 1) ∧ (0 ≤ x1 ∧ x1 ≤ 10) ∧ (0 ≤ x2 ∧ x2 ≤ 10) ∧ True) (eC : (σ.1 93 5).toInt = x2 ∧ True)
    (l0 : ∀ (τ : pm_S) (y : Nat → Int) (v3 : Value) (v4 : Value), v3.category = 1 → v4.category = 1 → an_GB pm_B τ → FQ [] σ τ → ((0 ≤ x0 ∧ x0 ≤ 1) ∧ (0 ≤ x1 ∧ x1 ≤ 10) ∧ (0 ≤ x2 ∧ x2 ≤ 10) ∧ True) → (True) → (True) → ((τ.1 93 5).toInt = x2 ∧ True) → Ok 202 5 5 [.ref 93, .int (Int32.ofInt (x0)), .int (Int32.ofInt (x1)), v3, v4] [.int (Int32.ofInt (x2)), .int (Int32.ofInt (x1))] τ Q)
    : Ok 202 5 2 [.ref 93, .int (Int32.ofInt (x0)), .int (Int32.ofInt (x1)), v3, v4] [] σ Q := by
  refine an_seg (B := pm_B) (F := []) (T := []) (S := []) (fun _ h => absurd h List.not_mem_nil) (k := 202) (d := 4) (cs := [5]) 5 2 3 [(0, 0, 1), (1, 0, 10), (2, 0, 10)] [(93, (1, 0, 5), (0, 2, 0))] [(2, 93, 0), (0, 0, 0), (0, 1, 0), (5, 0, 0), (5, 0, 0)] [] [(5, [(2, 93, 0), (0, 0, 0), (0, 1, 0), (5, 0, 0), (5, 0, 0)], [(0, 2, 0), (0, 1, 0)], [(0, 0, 1), (1, 0, 10), (2, 0, 10)], [], [], [(93, (1, 0, 5), (0, 2, 0))])] (by decide +kernel) (ρ0 := (fun s => [x0, x1, x2].getD s 0)) hB eF eC ⟨rfl, ⟨rfl, ⟨rfl, ⟨hv3, ⟨hv4, trivial⟩⟩⟩⟩⟩ trivial ?_
  refine List.forall_mem_cons.mpr ⟨?_, fun _ h => absurd h List.not_mem_nil⟩
  · intro ρ τ Lc stc hx g1 g2 g3 g4 g5 g6 g7 g8
    have e0 : ρ 0 = x0 := hx 0 (by decide)
    have e1 : ρ 1 = x1 := hx 1 (by decide)
    have e2 : ρ 2 = x2 := hx 2 (by decide)
    subst e0
    subst e1
    subst e2
    have g7 := g7 (by decide)
    match Lc, stc, g7, g8 with
    | [v0, v1, v2, v3, v4], [w0, w1], ⟨hv0, hv1, hv2, hv3, hv4, _⟩, ⟨hw0, hw1, _⟩ =>
      cases hv0
      cases hv1
      cases hv2
      cases hw0
      cases hw1
      exact l0 τ ρ v3 v4 hv3 hv4 g1 g2 g3 g4 g5 g6
set_option maxRecDepth 100000 in
theorem qf_o6f {σ : pm_S} {Q : Option Value → pm_S → Prop} (x0 x1 x2 : Int) (v3 : Value) (v4 : Value) (hv3 : v3.category = 1) (hv4 : v4.category = 1) (hB : an_GB pm_B σ) (eF : (0 ≤ x0 ∧ x0 ≤ 9) ∧ (0 ≤ x1 ∧ x1 ≤ 9) ∧ ((-2147483648) ≤ x2 ∧ x2 ≤ 2147483647) ∧ True) (eC : (σ.1 96 (x0).toNat).toInt = x1 ∧ (σ.1 97 (x0).toNat).toInt = x2 ∧ True)
    (l0 : ∀ (τ : pm_S) (y : Nat → Int), an_GB pm_B τ → FQ [] σ τ → ((0 ≤ x0 ∧ x0 ≤ 9) ∧ (0 ≤ x1 ∧ x1 ≤ 9) ∧ (0 ≤ x2 ∧ x2 ≤ 2147483647) ∧ True) → (True) → (True) → ((τ.1 96 (x0).toNat).toInt = x1 ∧ (τ.1 97 (x0).toNat).toInt = x2 ∧ True) → Ok 202 5 53 [.ref 93, .int (Int32.ofInt 1), .int (Int32.ofInt (x0)), .int (Int32.ofInt (x1)), .int (Int32.ofInt 0)] [.int (Int32.ofInt (x2)), .int (Int32.ofInt (x0)), .ref 97] τ Q)
    (l1 : ∀ (τ : pm_S) (y : Nat → Int), an_GB pm_B τ → FQ [] σ τ → ((0 ≤ x0 ∧ x0 ≤ 9) ∧ (0 ≤ x1 ∧ x1 ≤ 9) ∧ ((-2147483648) ≤ x2 ∧ x2 ≤ (-1)) ∧ True) → (True) → (True) → ((τ.1 96 (x0).toNat).toInt = x1 ∧ (τ.1 97 (x0).toNat).toInt = x2 ∧ True) → Ok 202 5 53 [.ref 93, .int (Int32.ofInt 1), .int (Int32.ofInt (x0)), .int (Int32.ofInt (x1)), .int (Int32.ofInt 0)] [.int (Int32.ofInt (x2)), .int (Int32.ofInt (x0)), .ref 97] τ Q)
    : Ok 202 5 6 [.ref 93, .int (Int32.ofInt 1), .int (Int32.ofInt (x0)), v3, v4] [] σ Q := by
  refine an_seg (B := pm_B) (F := []) (T := [96, 97]) (S := []) (fun _ h => absurd h List.not_mem_nil) (k := 202) (d := 4) (cs := [53]) 41 6 3 [(0, 0, 9), (1, 0, 9), (2, (-2147483648), 2147483647)] [(96, (0, 0, 0), (0, 1, 0)), (97, (0, 0, 0), (0, 2, 0))] [(2, 93, 0), (1, 0, 1), (0, 0, 0), (5, 0, 0), (5, 0, 0)] [] [(53, [(2, 93, 0), (1, 0, 1), (0, 0, 0), (0, 1, 0), (1, 0, 0)], [(0, 2, 0), (0, 0, 0), (2, 97, 0)], [(0, 0, 9), (1, 0, 9), (2, 0, 2147483647)], [], [], [(96, (0, 0, 0), (0, 1, 0)), (97, (0, 0, 0), (0, 2, 0))]),
    (53, [(2, 93, 0), (1, 0, 1), (0, 0, 0), (0, 1, 0), (1, 0, 0)], [(0, 2, 0), (0, 0, 0), (2, 97, 0)], [(0, 0, 9), (1, 0, 9), (2, (-2147483648), (-1))], [], [], [(96, (0, 0, 0), (0, 1, 0)), (97, (0, 0, 0), (0, 2, 0))])] (by decide +kernel) (ρ0 := (fun s => [x0, x1, x2].getD s 0)) hB eF eC ⟨rfl, ⟨rfl, ⟨rfl, ⟨hv3, ⟨hv4, trivial⟩⟩⟩⟩⟩ trivial ?_
  refine List.forall_mem_cons.mpr ⟨?_, List.forall_mem_cons.mpr ⟨?_, fun _ h => absurd h List.not_mem_nil⟩⟩
  · intro ρ τ Lc stc hx g1 g2 g3 g4 g5 g6 g7 g8
    have e0 : ρ 0 = x0 := hx 0 (by decide)
    have e1 : ρ 1 = x1 := hx 1 (by decide)
    have e2 : ρ 2 = x2 := hx 2 (by decide)
    subst e0
    subst e1
    subst e2
    have g7 := g7 (by decide)
    match Lc, stc, g7, g8 with
    | [v0, v1, v2, v3, v4], [w0, w1, w2], ⟨hv0, hv1, hv2, hv3, hv4, _⟩, ⟨hw0, hw1, hw2, _⟩ =>
      cases hv0
      cases hv1
      cases hv2
      cases hv3
      cases hv4
      cases hw0
      cases hw1
      cases hw2
      exact l0 τ ρ  g1 g2 g3 g4 g5 g6
  · intro ρ τ Lc stc hx g1 g2 g3 g4 g5 g6 g7 g8
    have e0 : ρ 0 = x0 := hx 0 (by decide)
    have e1 : ρ 1 = x1 := hx 1 (by decide)
    have e2 : ρ 2 = x2 := hx 2 (by decide)
    subst e0
    subst e1
    subst e2
    have g7 := g7 (by decide)
    match Lc, stc, g7, g8 with
    | [v0, v1, v2, v3, v4], [w0, w1, w2], ⟨hv0, hv1, hv2, hv3, hv4, _⟩, ⟨hw0, hw1, hw2, _⟩ =>
      cases hv0
      cases hv1
      cases hv2
      cases hv3
      cases hv4
      cases hw0
      cases hw1
      cases hw2
      exact l1 τ ρ  g1 g2 g3 g4 g5 g6
set_option maxRecDepth 100000 in
theorem qf_o6 {σ : pm_S} {Q : Option Value → pm_S → Prop} (x0 x1 x2 : Int) (v3 : Value) (v4 : Value) (hv3 : v3.category = 1) (hv4 : v4.category = 1) (hB : an_GB pm_B σ) (eF : (0 ≤ x0 ∧ x0 ≤ 9) ∧ (0 ≤ x1 ∧ x1 ≤ 9) ∧ (0 ≤ x2 ∧ x2 ≤ 9) ∧ True) (eC : (σ.1 96 (x0).toNat).toInt = x1 ∧ (σ.1 99 (x0).toNat).toInt = x2 ∧ True)
    (l0 : ∀ (τ : pm_S) (y : Nat → Int) (v4 : Value), v4.category = 1 → an_GB pm_B τ → FQ [] σ τ → ((0 ≤ x0 ∧ x0 ≤ 9) ∧ (0 ≤ x1 ∧ x1 ≤ 9) ∧ (0 ≤ x2 ∧ x2 ≤ 9) ∧ True) → (True) → (True) → ((τ.1 96 (x0).toNat).toInt = x1 ∧ (τ.1 99 (x0).toNat).toInt = x2 ∧ True) → Ok 202 5 23 [.ref 93, .int (Int32.ofInt 0), .int (Int32.ofInt (x0)), .int (Int32.ofInt (x2)), v4] [.int (Int32.ofInt (x1)), .int (Int32.ofInt (x2))] τ Q)
    : Ok 202 5 6 [.ref 93, .int (Int32.ofInt 0), .int (Int32.ofInt (x0)), v3, v4] [] σ Q := by
  refine an_seg (B := pm_B) (F := []) (T := [96, 99]) (S := []) (fun _ h => absurd h List.not_mem_nil) (k := 202) (d := 4) (cs := [23]) 14 6 3 [(0, 0, 9), (1, 0, 9), (2, 0, 9)] [(96, (0, 0, 0), (0, 1, 0)), (99, (0, 0, 0), (0, 2, 0))] [(2, 93, 0), (1, 0, 0), (0, 0, 0), (5, 0, 0), (5, 0, 0)] [] [(23, [(2, 93, 0), (1, 0, 0), (0, 0, 0), (0, 2, 0), (5, 0, 0)], [(0, 1, 0), (0, 2, 0)], [(0, 0, 9), (1, 0, 9), (2, 0, 9)], [], [], [(96, (0, 0, 0), (0, 1, 0)), (99, (0, 0, 0), (0, 2, 0))])] (by decide +kernel) (ρ0 := (fun s => [x0, x1, x2].getD s 0)) hB eF eC ⟨rfl, ⟨rfl, ⟨rfl, ⟨hv3, ⟨hv4, trivial⟩⟩⟩⟩⟩ trivial ?_
  refine List.forall_mem_cons.mpr ⟨?_, fun _ h => absurd h List.not_mem_nil⟩
  · intro ρ τ Lc stc hx g1 g2 g3 g4 g5 g6 g7 g8
    have e0 : ρ 0 = x0 := hx 0 (by decide)
    have e1 : ρ 1 = x1 := hx 1 (by decide)
    have e2 : ρ 2 = x2 := hx 2 (by decide)
    subst e0
    subst e1
    subst e2
    have g7 := g7 (by decide)
    match Lc, stc, g7, g8 with
    | [v0, v1, v2, v3, v4], [w0, w1], ⟨hv0, hv1, hv2, hv3, hv4, _⟩, ⟨hw0, hw1, _⟩ =>
      cases hv0
      cases hv1
      cases hv2
      cases hv3
      cases hw0
      cases hw1
      exact l0 τ ρ v4 hv4 g1 g2 g3 g4 g5 g6
set_option maxRecDepth 100000 in
theorem qf_o24 {σ : pm_S} {Q : Option Value → pm_S → Prop} (x0 x1 x2 : Int) (v4 : Value) (hv4 : v4.category = 1) (hB : an_GB pm_B σ) (eF : (0 ≤ x0 ∧ x0 ≤ 9) ∧ (0 ≤ x1 ∧ x1 ≤ 9) ∧ ((-2147483648) ≤ x2 ∧ x2 ≤ 2147483647) ∧ True) (eC : (σ.1 96 (x0).toNat).toInt = x1 ∧ (σ.1 97 (x0).toNat).toInt = x2 ∧ True)
    (l0 : ∀ (τ : pm_S) (y : Nat → Int), an_GB pm_B τ → FQ [] σ τ → ((0 ≤ x0 ∧ x0 ≤ 9) ∧ (0 ≤ x1 ∧ x1 ≤ 9) ∧ (0 ≤ x2 ∧ x2 ≤ 2147483647) ∧ True) → (True) → (True) → ((τ.1 96 (x0).toNat).toInt = x1 ∧ (τ.1 97 (x0).toNat).toInt = x2 ∧ True) → Ok 202 5 53 [.ref 93, .int (Int32.ofInt 0), .int (Int32.ofInt (x0)), .int (Int32.ofInt (x1)), .int (Int32.ofInt 0)] [.int (Int32.ofInt (x2)), .int (Int32.ofInt (x0)), .ref 97] τ Q)
    (l1 : ∀ (τ : pm_S) (y : Nat → Int), an_GB pm_B τ → FQ [] σ τ → ((0 ≤ x0 ∧ x0 ≤ 9) ∧ (0 ≤ x1 ∧ x1 ≤ 9) ∧ ((-2147483648) ≤ x2 ∧ x2 ≤ (-1)) ∧ True) → (True) → (True) → ((τ.1 96 (x0).toNat).toInt = x1 ∧ (τ.1 97 (x0).toNat).toInt = x2 ∧ True) → Ok 202 5 53 [.ref 93, .int (Int32.ofInt 0), .int (Int32.ofInt (x0)), .int (Int32.ofInt (x1)), .int (Int32.ofInt 0)] [.int (Int32.ofInt (x2)), .int (Int32.ofInt (x0)), .ref 97] τ Q)
    : Ok 202 5 24 [.ref 93, .int (Int32.ofInt 0), .int (Int32.ofInt (x0)), .int (Int32.ofInt (x1)), v4] [] σ Q := by
  refine an_seg (B := pm_B) (F := []) (T := [96, 97]) (S := []) (fun _ h => absurd h List.not_mem_nil) (k := 202) (d := 4) (cs := [53]) 27 24 3 [(0, 0, 9), (1, 0, 9), (2, (-2147483648), 2147483647)] [(96, (0, 0, 0), (0, 1, 0)), (97, (0, 0, 0), (0, 2, 0))] [(2, 93, 0), (1, 0, 0), (0, 0, 0), (0, 1, 0), (5, 0, 0)] [] [(53, [(2, 93, 0), (1, 0, 0), (0, 0, 0), (0, 1, 0), (1, 0, 0)], [(0, 2, 0), (0, 0, 0), (2, 97, 0)], [(0, 0, 9), (1, 0, 9), (2, 0, 2147483647)], [], [], [(96, (0, 0, 0), (0, 1, 0)), (97, (0, 0, 0), (0, 2, 0))]),
    (53, [(2, 93, 0), (1, 0, 0), (0, 0, 0), (0, 1, 0), (1, 0, 0)], [(0, 2, 0), (0, 0, 0), (2, 97, 0)], [(0, 0, 9), (1, 0, 9), (2, (-2147483648), (-1))], [], [], [(96, (0, 0, 0), (0, 1, 0)), (97, (0, 0, 0), (0, 2, 0))])] (by decide +kernel) (ρ0 := (fun s => [x0, x1, x2].getD s 0)) hB eF eC ⟨rfl, ⟨rfl, ⟨rfl, ⟨rfl, ⟨hv4, trivial⟩⟩⟩⟩⟩ trivial ?_
  refine List.forall_mem_cons.mpr ⟨?_, List.forall_mem_cons.mpr ⟨?_, fun _ h => absurd h List.not_mem_nil⟩⟩
  · intro ρ τ Lc stc hx g1 g2 g3 g4 g5 g6 g7 g8
    have e0 : ρ 0 = x0 := hx 0 (by decide)
    have e1 : ρ 1 = x1 := hx 1 (by decide)
    have e2 : ρ 2 = x2 := hx 2 (by decide)
    subst e0
    subst e1
    subst e2
    have g7 := g7 (by decide)
    match Lc, stc, g7, g8 with
    | [v0, v1, v2, v3, v4], [w0, w1, w2], ⟨hv0, hv1, hv2, hv3, hv4, _⟩, ⟨hw0, hw1, hw2, _⟩ =>
      cases hv0
      cases hv1
      cases hv2
      cases hv3
      cases hv4
      cases hw0
      cases hw1
      cases hw2
      exact l0 τ ρ  g1 g2 g3 g4 g5 g6
  · intro ρ τ Lc stc hx g1 g2 g3 g4 g5 g6 g7 g8
    have e0 : ρ 0 = x0 := hx 0 (by decide)
    have e1 : ρ 1 = x1 := hx 1 (by decide)
    have e2 : ρ 2 = x2 := hx 2 (by decide)
    subst e0
    subst e1
    subst e2
    have g7 := g7 (by decide)
    match Lc, stc, g7, g8 with
    | [v0, v1, v2, v3, v4], [w0, w1, w2], ⟨hv0, hv1, hv2, hv3, hv4, _⟩, ⟨hw0, hw1, hw2, _⟩ =>
      cases hv0
      cases hv1
      cases hv2
      cases hv3
      cases hv4
      cases hw0
      cases hw1
      cases hw2
      exact l1 τ ρ  g1 g2 g3 g4 g5 g6
set_option maxRecDepth 100000 in
theorem qf_o26 {σ : pm_S} {Q : Option Value → pm_S → Prop} (x0 x1 x2 x3 : Int) (v4 : Value) (hv4 : v4.category = 1) (hB : an_GB pm_B σ) (eF : (0 ≤ x0 ∧ x0 ≤ 9) ∧ (0 ≤ x1 ∧ x1 ≤ 9) ∧ ((-2147483648) ≤ x2 ∧ x2 ≤ 2147483647) ∧ (0 ≤ x3 ∧ x3 ≤ 99) ∧ True) (eC : (σ.1 97 (x0).toNat).toInt = x2 ∧ (σ.1 94 (x1).toNat).toInt = x3 ∧ True)
    (l0 : ∀ (τ : pm_S) (y : Nat → Int), an_GB pm_B τ → FQ [] σ τ → ((0 ≤ x0 ∧ x0 ≤ 9) ∧ (0 ≤ x1 ∧ x1 ≤ 9) ∧ ((-2147483648) ≤ x2 ∧ x2 ≤ 2147483647) ∧ (0 ≤ x3 ∧ x3 ≤ 99) ∧ True) → (True) → (True) → ((τ.1 94 (x1).toNat).toInt = x3 ∧ (τ.1 97 (x0).toNat).toInt = x2 ∧ True) → Ok 202 5 36 [.ref 93, .int (Int32.ofInt 0), .int (Int32.ofInt (x0)), .int (Int32.ofInt (x1)), .int (Int32.ofInt (x3))] [.int (Int32.ofInt (x3)), .int (Int32.ofInt (x2))] τ Q)
    : Ok 202 5 26 [.ref 93, .int (Int32.ofInt 0), .int (Int32.ofInt (x0)), .int (Int32.ofInt (x1)), v4] [] σ Q := by
  refine an_seg (B := pm_B) (F := []) (T := [94, 97]) (S := []) (fun _ h => absurd h List.not_mem_nil) (k := 202) (d := 4) (cs := [36]) 12 26 4 [(0, 0, 9), (1, 0, 9), (2, (-2147483648), 2147483647), (3, 0, 99)] [(97, (0, 0, 0), (0, 2, 0)), (94, (0, 1, 0), (0, 3, 0))] [(2, 93, 0), (1, 0, 0), (0, 0, 0), (0, 1, 0), (5, 0, 0)] [] [(36, [(2, 93, 0), (1, 0, 0), (0, 0, 0), (0, 1, 0), (0, 3, 0)], [(0, 3, 0), (0, 2, 0)], [(0, 0, 9), (1, 0, 9), (2, (-2147483648), 2147483647), (3, 0, 99)], [], [], [(94, (0, 1, 0), (0, 3, 0)), (97, (0, 0, 0), (0, 2, 0))])] (by decide +kernel) (ρ0 := (fun s => [x0, x1, x2, x3].getD s 0)) hB eF eC ⟨rfl, ⟨rfl, ⟨rfl, ⟨rfl, ⟨hv4, trivial⟩⟩⟩⟩⟩ trivial ?_
  refine List.forall_mem_cons.mpr ⟨?_, fun _ h => absurd h List.not_mem_nil⟩
  · intro ρ τ Lc stc hx g1 g2 g3 g4 g5 g6 g7 g8
    have e0 : ρ 0 = x0 := hx 0 (by decide)
    have e1 : ρ 1 = x1 := hx 1 (by decide)
    have e2 : ρ 2 = x2 := hx 2 (by decide)
    have e3 : ρ 3 = x3 := hx 3 (by decide)
    subst e0
    subst e1
    subst e2
    subst e3
    have g7 := g7 (by decide)
    match Lc, stc, g7, g8 with
    | [v0, v1, v2, v3, v4], [w0, w1], ⟨hv0, hv1, hv2, hv3, hv4, _⟩, ⟨hw0, hw1, _⟩ =>
      cases hv0
      cases hv1
      cases hv2
      cases hv3
      cases hv4
      cases hw0
      cases hw1
      exact l0 τ ρ  g1 g2 g3 g4 g5 g6
set_option maxRecDepth 100000 in
theorem qf_o37 {σ : pm_S} {Q : Option Value → pm_S → Prop} (x0 x1 x2 : Int) (v3 : Value) (v4 : Value) (hv3 : v3.category = 1) (hv4 : v4.category = 1) (hB : an_GB pm_B σ) (eF : (0 ≤ x0 ∧ x0 ≤ 9) ∧ (0 ≤ x1 ∧ x1 ≤ 9) ∧ ((-2147483648) ≤ x2 ∧ x2 ≤ 2147483647) ∧ True) (eC : (σ.1 96 (x0).toNat).toInt = x1 ∧ (σ.1 97 (x0).toNat).toInt = x2 ∧ True)
    (l0 : ∀ (τ : pm_S) (y : Nat → Int), an_GB pm_B τ → FQ [] σ τ → ((0 ≤ x0 ∧ x0 ≤ 9) ∧ (0 ≤ x1 ∧ x1 ≤ 9) ∧ ((-2147483648) ≤ x2 ∧ x2 ≤ 2147483647) ∧ True) → (True) → (True) → ((τ.1 96 (x0).toNat).toInt = x1 ∧ (τ.1 97 (x0).toNat).toInt = x2 ∧ True) → Ok 202 5 53 [.ref 93, .int (Int32.ofInt 0), .int (Int32.ofInt (x0)), .int (Int32.ofInt (x1)), .int (Int32.ofInt 0)] [.int (Int32.ofInt (x2)), .int (Int32.ofInt (x0)), .ref 97] τ Q)
    : Ok 202 5 37 [.ref 93, .int (Int32.ofInt 0), .int (Int32.ofInt (x0)), v3, v4] [] σ Q := by
  refine an_seg (B := pm_B) (F := []) (T := [96, 97]) (S := []) (fun _ h => absurd h List.not_mem_nil) (k := 202) (d := 4) (cs := [53]) 18 37 3 [(0, 0, 9), (1, 0, 9), (2, (-2147483648), 2147483647)] [(96, (0, 0, 0), (0, 1, 0)), (97, (0, 0, 0), (0, 2, 0))] [(2, 93, 0), (1, 0, 0), (0, 0, 0), (5, 0, 0), (5, 0, 0)] [] [(53, [(2, 93, 0), (1, 0, 0), (0, 0, 0), (0, 1, 0), (1, 0, 0)], [(0, 2, 0), (0, 0, 0), (2, 97, 0)], [(0, 0, 9), (1, 0, 9), (2, (-2147483648), 2147483647)], [], [], [(96, (0, 0, 0), (0, 1, 0)), (97, (0, 0, 0), (0, 2, 0))])] (by decide +kernel) (ρ0 := (fun s => [x0, x1, x2].getD s 0)) hB eF eC ⟨rfl, ⟨rfl, ⟨rfl, ⟨hv3, ⟨hv4, trivial⟩⟩⟩⟩⟩ trivial ?_
  refine List.forall_mem_cons.mpr ⟨?_, fun _ h => absurd h List.not_mem_nil⟩
  · intro ρ τ Lc stc hx g1 g2 g3 g4 g5 g6 g7 g8
    have e0 : ρ 0 = x0 := hx 0 (by decide)
    have e1 : ρ 1 = x1 := hx 1 (by decide)
    have e2 : ρ 2 = x2 := hx 2 (by decide)
    subst e0
    subst e1
    subst e2
    have g7 := g7 (by decide)
    match Lc, stc, g7, g8 with
    | [v0, v1, v2, v3, v4], [w0, w1, w2], ⟨hv0, hv1, hv2, hv3, hv4, _⟩, ⟨hw0, hw1, hw2, _⟩ =>
      cases hv0
      cases hv1
      cases hv2
      cases hv3
      cases hv4
      cases hw0
      cases hw1
      cases hw2
      exact l0 τ ρ  g1 g2 g3 g4 g5 g6
set_option maxRecDepth 100000 in
theorem qf_o44 {σ : pm_S} {Q : Option Value → pm_S → Prop} (x0 x1 x2 x3 : Int)  (hB : an_GB pm_B σ) (eF : (0 ≤ x0 ∧ x0 ≤ 9) ∧ (0 ≤ x1 ∧ x1 ≤ 9) ∧ (0 ≤ x2 ∧ x2 ≤ 99) ∧ ((-2147483648) ≤ x3 ∧ x3 ≤ 2147483647) ∧ True) (eC : (σ.1 97 (x0).toNat).toInt = x3 ∧ True)
    (l0 : ∀ (τ : pm_S) (y : Nat → Int), an_GB pm_B τ → FQ [] σ τ → ((0 ≤ x0 ∧ x0 ≤ 9) ∧ (0 ≤ x1 ∧ x1 ≤ 9) ∧ (0 ≤ x2 ∧ x2 ≤ 99) ∧ ((-2147483648) ≤ x3 ∧ x3 ≤ 2147483647) ∧ ((-2147483648) ≤ y 4 ∧ y 4 ≤ 2147483647) ∧ True) → (True) → ((an_f 1 (Int32.ofInt (x3)) (Int32.ofInt (x2))).toInt = y 4 ∧ True) → ((τ.1 97 (x0).toNat).toInt = x3 ∧ True) → Ok 202 5 53 [.ref 93, .int (Int32.ofInt 0), .int (Int32.ofInt (x0)), .int (Int32.ofInt (x1)), .int (Int32.ofInt (x2))] [.int (Int32.ofInt (y 4)), .int (Int32.ofInt (x0)), .ref 97] τ Q)
    : Ok 202 5 44 [.ref 93, .int (Int32.ofInt 0), .int (Int32.ofInt (x0)), .int (Int32.ofInt (x1)), .int (Int32.ofInt (x2))] [] σ Q := by
  refine an_seg (B := pm_B) (F := []) (T := [97]) (S := []) (fun _ h => absurd h List.not_mem_nil) (k := 202) (d := 4) (cs := [53]) 11 44 4 [(0, 0, 9), (1, 0, 9), (2, 0, 99), (3, (-2147483648), 2147483647)] [(97, (0, 0, 0), (0, 3, 0))] [(2, 93, 0), (1, 0, 0), (0, 0, 0), (0, 1, 0), (0, 2, 0)] [] [(53, [(2, 93, 0), (1, 0, 0), (0, 0, 0), (0, 1, 0), (0, 2, 0)], [(0, 4, 0), (0, 0, 0), (2, 97, 0)], [(0, 0, 9), (1, 0, 9), (2, 0, 99), (3, (-2147483648), 2147483647), (4, (-2147483648), 2147483647)], [], [(1, (0, 3, 0), (0, 2, 0), 4)], [(97, (0, 0, 0), (0, 3, 0))])] (by decide +kernel) (ρ0 := (fun s => [x0, x1, x2, x3].getD s 0)) hB eF eC ⟨rfl, ⟨rfl, ⟨rfl, ⟨rfl, ⟨rfl, trivial⟩⟩⟩⟩⟩ trivial ?_
  refine List.forall_mem_cons.mpr ⟨?_, fun _ h => absurd h List.not_mem_nil⟩
  · intro ρ τ Lc stc hx g1 g2 g3 g4 g5 g6 g7 g8
    have e0 : ρ 0 = x0 := hx 0 (by decide)
    have e1 : ρ 1 = x1 := hx 1 (by decide)
    have e2 : ρ 2 = x2 := hx 2 (by decide)
    have e3 : ρ 3 = x3 := hx 3 (by decide)
    subst e0
    subst e1
    subst e2
    subst e3
    have g7 := g7 (by decide)
    match Lc, stc, g7, g8 with
    | [v0, v1, v2, v3, v4], [w0, w1, w2], ⟨hv0, hv1, hv2, hv3, hv4, _⟩, ⟨hw0, hw1, hw2, _⟩ =>
      cases hv0
      cases hv1
      cases hv2
      cases hv3
      cases hv4
      cases hw0
      cases hw1
      cases hw2
      exact l0 τ ρ  g1 g2 g3 g4 g5 g6
set_option maxRecDepth 100000 in
theorem qf_o54 {σ : pm_S} {Q : Option Value → pm_S → Prop} (x0 x1 x2 x3 x4 : Int) (v4 : Value) (hv4 : v4.category = 1) (hB : an_GB pm_B σ) (eF : (0 ≤ x0 ∧ x0 ≤ 1) ∧ (0 ≤ x1 ∧ x1 ≤ 9) ∧ (0 ≤ x2 ∧ x2 ≤ 9) ∧ (0 ≤ x3 ∧ x3 ≤ 9) ∧ ((-2147483648) ≤ x4 ∧ x4 ≤ 2147483647) ∧ True) (eC : (σ.1 96 (x1).toNat).toInt = x3 ∧ (σ.1 93 20).toInt = x4 ∧ True)
    (l0 : ∀ (τ : pm_S) (y : Nat → Int) (v4 : Value), v4.category = 1 → an_GB pm_B τ → FQ [] σ τ → ((0 ≤ x0 ∧ x0 ≤ 1) ∧ (0 ≤ x1 ∧ x1 ≤ 9) ∧ (0 ≤ x2 ∧ x2 ≤ 9) ∧ (0 ≤ x3 ∧ x3 ≤ 9) ∧ ((-2147483648) ≤ x4 ∧ x4 ≤ 2147483647) ∧ True) → (True) → (True) → ((τ.1 93 20).toInt = x4 ∧ (τ.1 96 (x1).toNat).toInt = x3 ∧ True) → Ok 202 5 64 [.ref 93, .int (Int32.ofInt (x0)), .int (Int32.ofInt (x1)), .int (Int32.ofInt (x2)), v4] [.int (Int32.ofInt (x2)), .int (Int32.ofInt (x3)), .ref 93, .int (Int32.ofInt 2), .int (Int32.ofInt (x4)), .ref 93] τ Q)
    : Ok 202 5 54 [.ref 93, .int (Int32.ofInt (x0)), .int (Int32.ofInt (x1)), .int (Int32.ofInt (x2)), v4] [] σ Q := by
  refine an_seg (B := pm_B) (F := []) (T := [96]) (S := []) (fun _ h => absurd h List.not_mem_nil) (k := 202) (d := 4) (cs := [64]) 12 54 5 [(0, 0, 1), (1, 0, 9), (2, 0, 9), (3, 0, 9), (4, (-2147483648), 2147483647)] [(96, (0, 1, 0), (0, 3, 0)), (93, (1, 0, 20), (0, 4, 0))] [(2, 93, 0), (0, 0, 0), (0, 1, 0), (0, 2, 0), (5, 0, 0)] [] [(64, [(2, 93, 0), (0, 0, 0), (0, 1, 0), (0, 2, 0), (5, 0, 0)], [(0, 2, 0), (0, 3, 0), (2, 93, 0), (1, 0, 2), (0, 4, 0), (2, 93, 0)], [(0, 0, 1), (1, 0, 9), (2, 0, 9), (3, 0, 9), (4, (-2147483648), 2147483647)], [], [], [(93, (1, 0, 20), (0, 4, 0)), (96, (0, 1, 0), (0, 3, 0))])] (by decide +kernel) (ρ0 := (fun s => [x0, x1, x2, x3, x4].getD s 0)) hB eF eC ⟨rfl, ⟨rfl, ⟨rfl, ⟨rfl, ⟨hv4, trivial⟩⟩⟩⟩⟩ trivial ?_
  refine List.forall_mem_cons.mpr ⟨?_, fun _ h => absurd h List.not_mem_nil⟩
  · intro ρ τ Lc stc hx g1 g2 g3 g4 g5 g6 g7 g8
    have e0 : ρ 0 = x0 := hx 0 (by decide)
    have e1 : ρ 1 = x1 := hx 1 (by decide)
    have e2 : ρ 2 = x2 := hx 2 (by decide)
    have e3 : ρ 3 = x3 := hx 3 (by decide)
    have e4 : ρ 4 = x4 := hx 4 (by decide)
    subst e0
    subst e1
    subst e2
    subst e3
    subst e4
    have g7 := g7 (by decide)
    match Lc, stc, g7, g8 with
    | [v0, v1, v2, v3, v4], [w0, w1, w2, w3, w4, w5], ⟨hv0, hv1, hv2, hv3, hv4, _⟩, ⟨hw0, hw1, hw2, hw3, hw4, hw5, _⟩ =>
      cases hv0
      cases hv1
      cases hv2
      cases hv3
      cases hw0
      cases hw1
      cases hw2
      cases hw3
      cases hw4
      cases hw5
      exact l0 τ ρ v4 hv4 g1 g2 g3 g4 g5 g6
set_option maxRecDepth 100000 in
theorem qf_o65 {σ : pm_S} {Q : Option Value → pm_S → Prop} (x0 x1 x2 x3 x4 : Int) (v4 : Value) (hv4 : v4.category = 1) (hB : an_GB pm_B σ) (eF : (0 ≤ x0 ∧ x0 ≤ 1) ∧ (0 ≤ x1 ∧ x1 ≤ 9) ∧ (0 ≤ x2 ∧ x2 ≤ 9) ∧ ((-2147483648) ≤ x3 ∧ x3 ≤ 2147483647) ∧ ((-2147483648) ≤ x4 ∧ x4 ≤ 2147483647) ∧ True)
    (l0 : ∀ (τ : pm_S) (y : Nat → Int) (v4 : Value), v4.category = 1 → an_GB pm_B τ → FQ [(93, 20)] σ τ → ((0 ≤ x0 ∧ x0 ≤ 1) ∧ (0 ≤ x1 ∧ x1 ≤ 9) ∧ (0 ≤ x2 ∧ x2 ≤ 9) ∧ ((-2147483648) ≤ x3 ∧ x3 ≤ 2147483647) ∧ ((-2147483648) ≤ x4 ∧ x4 ≤ 2147483647) ∧ ((-2147483648) ≤ y 5 ∧ y 5 ≤ 2147483647) ∧ ((-2147483648) ≤ y 6 ∧ y 6 ≤ 2147483647) ∧ True) → (True) → ((an_f 2 (Int32.ofInt (2)) (Int32.ofInt (x3))).toInt = y 5 ∧ (an_f 0 (Int32.ofInt (x4)) (Int32.ofInt (y 5))).toInt = y 6 ∧ True) → ((τ.1 93 20).toInt = y 6 ∧ True) → Ok 202 5 74 [.ref 93, .int (Int32.ofInt (x0)), .int (Int32.ofInt (x1)), .int (Int32.ofInt (x2)), v4] [.int (Int32.ofInt (x2 + 1)), .int (Int32.ofInt (x1)), .ref 100] τ Q)
    : Ok 202 5 65 [.ref 93, .int (Int32.ofInt (x0)), .int (Int32.ofInt (x1)), .int (Int32.ofInt (x2)), v4] [.int (Int32.ofInt (x3)), .int (Int32.ofInt 2), .int (Int32.ofInt (x4)), .ref 93] σ Q := by
  refine an_seg (B := pm_B) (F := [(93, 20)]) (T := []) (S := []) (fun _ h => absurd h List.not_mem_nil) (k := 202) (d := 4) (cs := [74]) 11 65 5 [(0, 0, 1), (1, 0, 9), (2, 0, 9), (3, (-2147483648), 2147483647), (4, (-2147483648), 2147483647)] [] [(2, 93, 0), (0, 0, 0), (0, 1, 0), (0, 2, 0), (5, 0, 0)] [(0, 3, 0), (1, 0, 2), (0, 4, 0), (2, 93, 0)] [(74, [(2, 93, 0), (0, 0, 0), (0, 1, 0), (0, 2, 0), (5, 0, 0)], [(0, 2, 1), (0, 1, 0), (2, 100, 0)], [(0, 0, 1), (1, 0, 9), (2, 0, 9), (3, (-2147483648), 2147483647), (4, (-2147483648), 2147483647), (5, (-2147483648), 2147483647), (6, (-2147483648), 2147483647)], [], [(2, (1, 0, 2), (0, 3, 0), 5), (0, (0, 4, 0), (0, 5, 0), 6)], [(93, (1, 0, 20), (0, 6, 0))])] (by decide +kernel) (ρ0 := (fun s => [x0, x1, x2, x3, x4].getD s 0)) hB eF trivial ⟨rfl, ⟨rfl, ⟨rfl, ⟨rfl, ⟨hv4, trivial⟩⟩⟩⟩⟩ ⟨rfl, ⟨rfl, ⟨rfl, ⟨rfl, trivial⟩⟩⟩⟩ ?_
  refine List.forall_mem_cons.mpr ⟨?_, fun _ h => absurd h List.not_mem_nil⟩
  · intro ρ τ Lc stc hx g1 g2 g3 g4 g5 g6 g7 g8
    have e0 : ρ 0 = x0 := hx 0 (by decide)
    have e1 : ρ 1 = x1 := hx 1 (by decide)
    have e2 : ρ 2 = x2 := hx 2 (by decide)
    have e3 : ρ 3 = x3 := hx 3 (by decide)
    have e4 : ρ 4 = x4 := hx 4 (by decide)
    subst e0
    subst e1
    subst e2
    subst e3
    subst e4
    have g7 := g7 (by decide)
    match Lc, stc, g7, g8 with
    | [v0, v1, v2, v3, v4], [w0, w1, w2], ⟨hv0, hv1, hv2, hv3, hv4, _⟩, ⟨hw0, hw1, hw2, _⟩ =>
      cases hv0
      cases hv1
      cases hv2
      cases hv3
      cases hw0
      cases hw1
      cases hw2
      exact l0 τ ρ v4 hv4 g1 g2 g3 g4 g5 g6
set_option maxRecDepth 100000 in
theorem qf_o75 {σ : pm_S} {Q : Option Value → pm_S → Prop} (x0 x1 : Int) (v3 : Value) (v4 : Value) (hv3 : v3.category = 1) (hv4 : v4.category = 1) (hB : an_GB pm_B σ) (eF : (0 ≤ x0 ∧ x0 ≤ 1) ∧ (0 ≤ x1 ∧ x1 ≤ 9) ∧ True)
    (l0 : ∀ (τ : pm_S) (y : Nat → Int) (v3 : Value) (v4 : Value), v3.category = 1 → v4.category = 1 → an_GB pm_B τ → FQ [] σ τ → ((0 ≤ x0 ∧ x0 ≤ 1) ∧ (0 ≤ x1 ∧ x1 ≤ 9) ∧ True) → (True) → (True) → (True) → Ok 202 5 2 [.ref 93, .int (Int32.ofInt (x0)), .int (Int32.ofInt (x1 + 1)), v3, v4] [] τ Q)
    : Ok 202 5 75 [.ref 93, .int (Int32.ofInt (x0)), .int (Int32.ofInt (x1)), v3, v4] [] σ Q := by
  refine an_seg (B := pm_B) (F := []) (T := []) (S := []) (fun _ h => absurd h List.not_mem_nil) (k := 202) (d := 4) (cs := [2]) 4 75 2 [(0, 0, 1), (1, 0, 9)] [] [(2, 93, 0), (0, 0, 0), (0, 1, 0), (5, 0, 0), (5, 0, 0)] [] [(2, [(2, 93, 0), (0, 0, 0), (0, 1, 1), (5, 0, 0), (5, 0, 0)], [], [(0, 0, 1), (1, 0, 9)], [], [], [])] (by decide +kernel) (ρ0 := (fun s => [x0, x1].getD s 0)) hB eF trivial ⟨rfl, ⟨rfl, ⟨rfl, ⟨hv3, ⟨hv4, trivial⟩⟩⟩⟩⟩ trivial ?_
  refine List.forall_mem_cons.mpr ⟨?_, fun _ h => absurd h List.not_mem_nil⟩
  · intro ρ τ Lc stc hx g1 g2 g3 g4 g5 g6 g7 g8
    have e0 : ρ 0 = x0 := hx 0 (by decide)
    have e1 : ρ 1 = x1 := hx 1 (by decide)
    subst e0
    subst e1
    have g7 := g7 (by decide)
    match Lc, stc, g7, g8 with
    | [v0, v1, v2, v3, v4], [], ⟨hv0, hv1, hv2, hv3, hv4, _⟩, _ =>
      cases hv0
      cases hv1
      cases hv2
      exact l0 τ ρ v3 v4 hv3 hv4 g1 g2 g3 g4 g5 g6
set_option maxRecDepth 100000 in
theorem qf_o77 {σ : pm_S} {Q : Option Value → pm_S → Prop} (v1 : Value) (v2 : Value) (v3 : Value) (v4 : Value) (hv1 : v1.category = 1) (hv2 : v2.category = 1) (hv3 : v3.category = 1) (hv4 : v4.category = 1) (hB : an_GB pm_B σ)
    (l0 : ∀ (τ : pm_S) (y : Nat → Int), an_GB pm_B τ → FQ [] σ τ → (True) → (True) → (True) → (True) → Q none τ)
    : Ok 202 5 77 [.ref 93, v1, v2, v3, v4] [] σ Q := by
  refine an_seg (B := pm_B) (F := []) (T := []) (S := []) (fun _ h => absurd h List.not_mem_nil) (k := 202) (d := 4) (cs := []) 3 77 0 [] [] [(2, 93, 0), (5, 0, 0), (5, 0, 0), (5, 0, 0), (5, 0, 0)] [] [(9999, [], [], [], [], [], [])] (by decide +kernel) (ρ0 := (fun s => [].getD s 0)) hB trivial trivial ⟨rfl, ⟨hv1, ⟨hv2, ⟨hv3, ⟨hv4, trivial⟩⟩⟩⟩⟩ trivial ?_
  refine List.forall_mem_cons.mpr ⟨?_, fun _ h => absurd h List.not_mem_nil⟩
  · intro ρ τ Lc stc hx g1 g2 g3 g4 g5 g6 g7 g8
    match stc, g8 with
    | [], _ => exact l0 τ ρ g1 g2 g3 g4 g5 g6
set_option maxRecDepth 100000 in
theorem qf_a0 {σ : pm_S} {Q : Option Value → pm_S → Prop} (x0 x1 x2 : Int)  (hB : an_GB pm_B σ) (eF : (0 ≤ x0 ∧ x0 ≤ 29) ∧ (0 ≤ x1 ∧ x1 ≤ 9) ∧ (0 ≤ x2 ∧ x2 ≤ 9) ∧ True) (eC : (σ.1 104 (x0).toNat).toInt = x2 ∧ True)
    (l0 : ∀ (τ : pm_S) (y : Nat → Int), an_GB pm_B τ → FQ [] σ τ → ((0 ≤ x0 ∧ x0 ≤ 29) ∧ (0 ≤ x1 ∧ x1 ≤ 9) ∧ (0 ≤ x2 ∧ x2 ≤ 9) ∧ True) → (True) → (True) → ((τ.1 104 (x0).toNat).toInt = x2 ∧ True) → Ok 203 2 5 [.ref 93, .int (Int32.ofInt (x0)), .int (Int32.ofInt (x1))] [.int (Int32.ofInt (x1)), .int (Int32.ofInt (x2))] τ Q)
    : Ok 203 2 0 [.ref 93, .int (Int32.ofInt (x0)), .int (Int32.ofInt (x1))] [] σ Q := by
  refine an_seg (B := pm_B) (F := []) (T := [104]) (S := []) (fun _ h => absurd h List.not_mem_nil) (k := 203) (d := 1) (cs := [5]) 7 0 3 [(0, 0, 29), (1, 0, 9), (2, 0, 9)] [(104, (0, 0, 0), (0, 2, 0))] [(2, 93, 0), (0, 0, 0), (0, 1, 0)] [] [(5, [(2, 93, 0), (0, 0, 0), (0, 1, 0)], [(0, 1, 0), (0, 2, 0)], [(0, 0, 29), (1, 0, 9), (2, 0, 9)], [], [], [(104, (0, 0, 0), (0, 2, 0))])] (by decide +kernel) (ρ0 := (fun s => [x0, x1, x2].getD s 0)) hB eF eC ⟨rfl, ⟨rfl, ⟨rfl, trivial⟩⟩⟩ trivial ?_
  refine List.forall_mem_cons.mpr ⟨?_, fun _ h => absurd h List.not_mem_nil⟩
  · intro ρ τ Lc stc hx g1 g2 g3 g4 g5 g6 g7 g8
    have e0 : ρ 0 = x0 := hx 0 (by decide)
    have e1 : ρ 1 = x1 := hx 1 (by decide)
    have e2 : ρ 2 = x2 := hx 2 (by decide)
    subst e0
    subst e1
    subst e2
    have g7 := g7 (by decide)
    match Lc, stc, g7, g8 with
    | [v0, v1, v2], [w0, w1], ⟨hv0, hv1, hv2, _⟩, ⟨hw0, hw1, _⟩ =>
      cases hv0
      cases hv1
      cases hv2
      cases hw0
      cases hw1
      exact l0 τ ρ  g1 g2 g3 g4 g5 g6
set_option maxRecDepth 100000 in
theorem qf_a6 {σ : pm_S} {Q : Option Value → pm_S → Prop} (x0 x1 x2 x3 : Int)  (hB : an_GB pm_B σ) (eF : (0 ≤ x0 ∧ x0 ≤ 29) ∧ (0 ≤ x1 ∧ x1 ≤ 9) ∧ (0 ≤ x2 ∧ x2 ≤ 9) ∧ (0 ≤ x3 ∧ x3 ≤ 10) ∧ True) (eC : (σ.1 101 (x0).toNat).toInt = x2 ∧ (σ.1 100 (x2).toNat).toInt = x3 ∧ True)
    (l0 : ∀ (τ : pm_S) (y : Nat → Int), an_GB pm_B τ → FQ [] σ τ → ((0 ≤ x0 ∧ x0 ≤ 29) ∧ (0 ≤ x1 ∧ x1 ≤ 9) ∧ (0 ≤ x2 ∧ x2 ≤ 9) ∧ (0 ≤ x3 ∧ x3 ≤ 10) ∧ True) → (True) → (True) → ((τ.1 100 (x2).toNat).toInt = x3 ∧ (τ.1 101 (x0).toNat).toInt = x2 ∧ True) → Ok 203 2 16 [.ref 93, .int (Int32.ofInt (x0)), .int (Int32.ofInt (x1))] [.int (Int32.ofInt (x1 + 1)), .int (Int32.ofInt (x3))] τ Q)
    : Ok 203 2 6 [.ref 93, .int (Int32.ofInt (x0)), .int (Int32.ofInt (x1))] [] σ Q := by
  refine an_seg (B := pm_B) (F := []) (T := [100, 101]) (S := []) (fun _ h => absurd h List.not_mem_nil) (k := 203) (d := 1) (cs := [16]) 12 6 4 [(0, 0, 29), (1, 0, 9), (2, 0, 9), (3, 0, 10)] [(101, (0, 0, 0), (0, 2, 0)), (100, (0, 2, 0), (0, 3, 0))] [(2, 93, 0), (0, 0, 0), (0, 1, 0)] [] [(16, [(2, 93, 0), (0, 0, 0), (0, 1, 0)], [(0, 1, 1), (0, 3, 0)], [(0, 0, 29), (1, 0, 9), (2, 0, 9), (3, 0, 10)], [], [], [(100, (0, 2, 0), (0, 3, 0)), (101, (0, 0, 0), (0, 2, 0))])] (by decide +kernel) (ρ0 := (fun s => [x0, x1, x2, x3].getD s 0)) hB eF eC ⟨rfl, ⟨rfl, ⟨rfl, trivial⟩⟩⟩ trivial ?_
  refine List.forall_mem_cons.mpr ⟨?_, fun _ h => absurd h List.not_mem_nil⟩
  · intro ρ τ Lc stc hx g1 g2 g3 g4 g5 g6 g7 g8
    have e0 : ρ 0 = x0 := hx 0 (by decide)
    have e1 : ρ 1 = x1 := hx 1 (by decide)
    have e2 : ρ 2 = x2 := hx 2 (by decide)
    have e3 : ρ 3 = x3 := hx 3 (by decide)
    subst e0
    subst e1
    subst e2
    subst e3
    have g7 := g7 (by decide)
    match Lc, stc, g7, g8 with
    | [v0, v1, v2], [w0, w1], ⟨hv0, hv1, hv2, _⟩, ⟨hw0, hw1, _⟩ =>
      cases hv0
      cases hv1
      cases hv2
      cases hw0
      cases hw1
      exact l0 τ ρ  g1 g2 g3 g4 g5 g6
set_option maxRecDepth 100000 in
theorem qf_a17 {σ : pm_S} {Q : Option Value → pm_S → Prop} (x0 x1 x2 x3 : Int)  (hB : an_GB pm_B σ) (eF : (0 ≤ x0 ∧ x0 ≤ 29) ∧ (0 ≤ x1 ∧ x1 ≤ 9) ∧ (0 ≤ x2 ∧ x2 ≤ 9) ∧ (0 ≤ x3 ∧ x3 ≤ 10) ∧ True) (eC : (σ.1 102 (x0).toNat).toInt = x2 ∧ (σ.1 100 (x2).toNat).toInt = x3 ∧ True)
    (l0 : ∀ (τ : pm_S) (y : Nat → Int), an_GB pm_B τ → FQ [] σ τ → ((0 ≤ x0 ∧ x0 ≤ 29) ∧ (0 ≤ x1 ∧ x1 ≤ 9) ∧ (0 ≤ x2 ∧ x2 ≤ 9) ∧ (0 ≤ x3 ∧ x3 ≤ 10) ∧ True) → (True) → (True) → ((τ.1 100 (x2).toNat).toInt = x3 ∧ (τ.1 102 (x0).toNat).toInt = x2 ∧ True) → Ok 203 2 27 [.ref 93, .int (Int32.ofInt (x0)), .int (Int32.ofInt (x1))] [.int (Int32.ofInt (x1 + 1)), .int (Int32.ofInt (x3))] τ Q)
    : Ok 203 2 17 [.ref 93, .int (Int32.ofInt (x0)), .int (Int32.ofInt (x1))] [] σ Q := by
  refine an_seg (B := pm_B) (F := []) (T := [100, 102]) (S := []) (fun _ h => absurd h List.not_mem_nil) (k := 203) (d := 1) (cs := [27]) 12 17 4 [(0, 0, 29), (1, 0, 9), (2, 0, 9), (3, 0, 10)] [(102, (0, 0, 0), (0, 2, 0)), (100, (0, 2, 0), (0, 3, 0))] [(2, 93, 0), (0, 0, 0), (0, 1, 0)] [] [(27, [(2, 93, 0), (0, 0, 0), (0, 1, 0)], [(0, 1, 1), (0, 3, 0)], [(0, 0, 29), (1, 0, 9), (2, 0, 9), (3, 0, 10)], [], [], [(100, (0, 2, 0), (0, 3, 0)), (102, (0, 0, 0), (0, 2, 0))])] (by decide +kernel) (ρ0 := (fun s => [x0, x1, x2, x3].getD s 0)) hB eF eC ⟨rfl, ⟨rfl, ⟨rfl, trivial⟩⟩⟩ trivial ?_
  refine List.forall_mem_cons.mpr ⟨?_, fun _ h => absurd h List.not_mem_nil⟩
  · intro ρ τ Lc stc hx g1 g2 g3 g4 g5 g6 g7 g8
    have e0 : ρ 0 = x0 := hx 0 (by decide)
    have e1 : ρ 1 = x1 := hx 1 (by decide)
    have e2 : ρ 2 = x2 := hx 2 (by decide)
    have e3 : ρ 3 = x3 := hx 3 (by decide)
    subst e0
    subst e1
    subst e2
    subst e3
    have g7 := g7 (by decide)
    match Lc, stc, g7, g8 with
    | [v0, v1, v2], [w0, w1], ⟨hv0, hv1, hv2, _⟩, ⟨hw0, hw1, _⟩ =>
      cases hv0
      cases hv1
      cases hv2
      cases hw0
      cases hw1
      exact l0 τ ρ  g1 g2 g3 g4 g5 g6
set_option maxRecDepth 100000 in
theorem qf_a28 {σ : pm_S} {Q : Option Value → pm_S → Prop} (x0 x1 : Int)  (hB : an_GB pm_B σ) (eF : (0 ≤ x0 ∧ x0 ≤ 29) ∧ (0 ≤ x1 ∧ x1 ≤ 9) ∧ True)
    (l0 : ∀ (τ : pm_S) (y : Nat → Int), an_GB pm_B τ → FQ [] σ τ → ((0 ≤ x0 ∧ x0 ≤ 29) ∧ (0 ≤ x1 ∧ x1 ≤ 9) ∧ True) → (True) → (True) → (True) → Q (some (.int (Int32.ofInt 1))) τ)
    : Ok 203 2 28 [.ref 93, .int (Int32.ofInt (x0)), .int (Int32.ofInt (x1))] [] σ Q := by
  refine an_seg (B := pm_B) (F := []) (T := []) (S := []) (fun _ h => absurd h List.not_mem_nil) (k := 203) (d := 1) (cs := []) 5 28 2 [(0, 0, 29), (1, 0, 9)] [] [(2, 93, 0), (0, 0, 0), (0, 1, 0)] [] [(9999, [], [(1, 0, 1)], [(0, 0, 29), (1, 0, 9)], [], [], [])] (by decide +kernel) (ρ0 := (fun s => [x0, x1].getD s 0)) hB eF trivial ⟨rfl, ⟨rfl, ⟨rfl, trivial⟩⟩⟩ trivial ?_
  refine List.forall_mem_cons.mpr ⟨?_, fun _ h => absurd h List.not_mem_nil⟩
  · intro ρ τ Lc stc hx g1 g2 g3 g4 g5 g6 g7 g8
    have e0 : ρ 0 = x0 := hx 0 (by decide)
    have e1 : ρ 1 = x1 := hx 1 (by decide)
    subst e0
    subst e1
    match stc, g8 with
    | [_], ⟨h, _⟩ => cases h; exact l0 τ ρ g1 g2 g3 g4 g5 g6
set_option maxRecDepth 100000 in
theorem qf_a30 {σ : pm_S} {Q : Option Value → pm_S → Prop} (x0 x1 : Int)  (hB : an_GB pm_B σ) (eF : (0 ≤ x0 ∧ x0 ≤ 29) ∧ (0 ≤ x1 ∧ x1 ≤ 9) ∧ True)
    (l0 : ∀ (τ : pm_S) (y : Nat → Int), an_GB pm_B τ → FQ [] σ τ → ((0 ≤ x0 ∧ x0 ≤ 29) ∧ (0 ≤ x1 ∧ x1 ≤ 9) ∧ True) → (True) → (True) → (True) → Q (some (.int (Int32.ofInt 0))) τ)
    : Ok 203 2 30 [.ref 93, .int (Int32.ofInt (x0)), .int (Int32.ofInt (x1))] [] σ Q := by
  refine an_seg (B := pm_B) (F := []) (T := []) (S := []) (fun _ h => absurd h List.not_mem_nil) (k := 203) (d := 1) (cs := []) 4 30 2 [(0, 0, 29), (1, 0, 9)] [] [(2, 93, 0), (0, 0, 0), (0, 1, 0)] [] [(9999, [], [(1, 0, 0)], [(0, 0, 29), (1, 0, 9)], [], [], [])] (by decide +kernel) (ρ0 := (fun s => [x0, x1].getD s 0)) hB eF trivial ⟨rfl, ⟨rfl, ⟨rfl, trivial⟩⟩⟩ trivial ?_
  refine List.forall_mem_cons.mpr ⟨?_, fun _ h => absurd h List.not_mem_nil⟩
  · intro ρ τ Lc stc hx g1 g2 g3 g4 g5 g6 g7 g8
    have e0 : ρ 0 = x0 := hx 0 (by decide)
    have e1 : ρ 1 = x1 := hx 1 (by decide)
    subst e0
    subst e1
    match stc, g8 with
    | [_], ⟨h, _⟩ => cases h; exact l0 τ ρ g1 g2 g3 g4 g5 g6
set_option maxRecDepth 100000 in
theorem qf_p0 {σ : pm_S} {Q : Option Value → pm_S → Prop} (x0 x1 x2 : Int)  (hB : an_GB pm_B σ) (eF : (0 ≤ x0 ∧ x0 ≤ 29) ∧ ((-2147483648) ≤ x1 ∧ x1 ≤ 2147483647) ∧ (0 ≤ x2 ∧ x2 ≤ 9) ∧ True) (eC : (σ.1 107 (x0).toNat).toInt = x1 ∧ (σ.1 104 (x0).toNat).toInt = x2 ∧ True)
    (l0 : ∀ (τ : pm_S) (y : Nat → Int), an_GB pm_B τ → FQ [] σ τ → ((0 ≤ x0 ∧ x0 ≤ 29) ∧ ((-2147483648) ≤ x1 ∧ x1 ≤ 2147483647) ∧ (0 ≤ x2 ∧ x2 ≤ 9) ∧ True) → (x1 ≠ 0 ∧ True) → (True) → ((τ.1 104 (x0).toNat).toInt = x2 ∧ (τ.1 107 (x0).toNat).toInt = x1 ∧ True) → Q none τ)
    (l1 : ∀ (τ : pm_S) (y : Nat → Int), an_GB pm_B τ → FQ [] σ τ → ((0 ≤ x0 ∧ x0 ≤ 29) ∧ (0 ≤ x1 ∧ x1 ≤ 0) ∧ (0 ≤ x2 ∧ x2 ≤ 9) ∧ True) → (True) → (True) → ((τ.1 104 (x0).toNat).toInt = x2 ∧ (τ.1 107 (x0).toNat).toInt = x1 ∧ True) → Ok 209 12 10 [.ref 93, .int (Int32.ofInt (x0))] [.int (Int32.ofInt (x2)), .int (Int32.ofInt (x0)), .ref 93] τ Q)
    : Ok 209 12 0 [.ref 93, .int (Int32.ofInt (x0))] [] σ Q := by
  refine an_seg (B := pm_B) (F := []) (T := [104, 107]) (S := []) (fun _ h => absurd h List.not_mem_nil) (k := 209) (d := 11) (cs := [10]) 20 0 3 [(0, 0, 29), (1, (-2147483648), 2147483647), (2, 0, 9)] [(107, (0, 0, 0), (0, 1, 0)), (104, (0, 0, 0), (0, 2, 0))] [(2, 93, 0), (0, 0, 0)] [] [(9999, [], [], [(0, 0, 29), (1, (-2147483648), 2147483647), (2, 0, 9)], [(3, 1, 1, 0)], [], [(104, (0, 0, 0), (0, 2, 0)), (107, (0, 0, 0), (0, 1, 0))]),
    (10, [(2, 93, 0), (0, 0, 0)], [(0, 2, 0), (0, 0, 0), (2, 93, 0)], [(0, 0, 29), (1, 0, 0), (2, 0, 9)], [], [], [(104, (0, 0, 0), (0, 2, 0)), (107, (0, 0, 0), (0, 1, 0))])] (by decide +kernel) (ρ0 := (fun s => [x0, x1, x2].getD s 0)) hB eF eC ⟨rfl, ⟨rfl, trivial⟩⟩ trivial ?_
  refine List.forall_mem_cons.mpr ⟨?_, List.forall_mem_cons.mpr ⟨?_, fun _ h => absurd h List.not_mem_nil⟩⟩
  · intro ρ τ Lc stc hx g1 g2 g3 g4 g5 g6 g7 g8
    have e0 : ρ 0 = x0 := hx 0 (by decide)
    have e1 : ρ 1 = x1 := hx 1 (by decide)
    have e2 : ρ 2 = x2 := hx 2 (by decide)
    subst e0
    subst e1
    subst e2
    match stc, g8 with
    | [], _ => exact l0 τ ρ g1 g2 g3 g4 g5 g6
  · intro ρ τ Lc stc hx g1 g2 g3 g4 g5 g6 g7 g8
    have e0 : ρ 0 = x0 := hx 0 (by decide)
    have e1 : ρ 1 = x1 := hx 1 (by decide)
    have e2 : ρ 2 = x2 := hx 2 (by decide)
    subst e0
    subst e1
    subst e2
    have g7 := g7 (by decide)
    match Lc, stc, g7, g8 with
    | [v0, v1], [w0, w1, w2], ⟨hv0, hv1, _⟩, ⟨hw0, hw1, hw2, _⟩ =>
      cases hv0
      cases hv1
      cases hw0
      cases hw1
      cases hw2
      exact l1 τ ρ  g1 g2 g3 g4 g5 g6
set_option maxRecDepth 100000 in
theorem qf_p11 {σ : pm_S} {Q : Option Value → pm_S → Prop} (x0 x1 : Int)  (hB : an_GB pm_B σ) (eF : (0 ≤ x0 ∧ x0 ≤ 29) ∧ (0 ≤ x1 ∧ x1 ≤ 1) ∧ True)
    (l0 : ∀ (τ : pm_S) (y : Nat → Int), an_GB pm_B τ → FQ [] σ τ → ((0 ≤ x0 ∧ x0 ≤ 29) ∧ (0 ≤ x1 ∧ x1 ≤ 0) ∧ True) → (True) → (True) → (True) → Q none τ)
    (l1 : ∀ (τ : pm_S) (y : Nat → Int), an_GB pm_B τ → FQ [] σ τ → ((0 ≤ x0 ∧ x0 ≤ 29) ∧ (1 ≤ x1 ∧ x1 ≤ 1) ∧ True) → (True) → (True) → (True) → Ok 209 12 14 [.ref 93, .int (Int32.ofInt (x0))] [.int (Int32.ofInt (x0)), .ref 93] τ Q)
    : Ok 209 12 11 [.ref 93, .int (Int32.ofInt (x0))] [.int (Int32.ofInt (x1))] σ Q := by
  refine an_seg (B := pm_B) (F := []) (T := []) (S := []) (fun _ h => absurd h List.not_mem_nil) (k := 209) (d := 11) (cs := [14]) 5 11 2 [(0, 0, 29), (1, 0, 1)] [] [(2, 93, 0), (0, 0, 0)] [(0, 1, 0)] [(9999, [], [], [(0, 0, 29), (1, 0, 0)], [], [], []),
    (14, [(2, 93, 0), (0, 0, 0)], [(0, 0, 0), (2, 93, 0)], [(0, 0, 29), (1, 1, 1)], [], [], [])] (by decide +kernel) (ρ0 := (fun s => [x0, x1].getD s 0)) hB eF trivial ⟨rfl, ⟨rfl, trivial⟩⟩ ⟨rfl, trivial⟩ ?_
  refine List.forall_mem_cons.mpr ⟨?_, List.forall_mem_cons.mpr ⟨?_, fun _ h => absurd h List.not_mem_nil⟩⟩
  · intro ρ τ Lc stc hx g1 g2 g3 g4 g5 g6 g7 g8
    have e0 : ρ 0 = x0 := hx 0 (by decide)
    have e1 : ρ 1 = x1 := hx 1 (by decide)
    subst e0
    subst e1
    match stc, g8 with
    | [], _ => exact l0 τ ρ g1 g2 g3 g4 g5 g6
  · intro ρ τ Lc stc hx g1 g2 g3 g4 g5 g6 g7 g8
    have e0 : ρ 0 = x0 := hx 0 (by decide)
    have e1 : ρ 1 = x1 := hx 1 (by decide)
    subst e0
    subst e1
    have g7 := g7 (by decide)
    match Lc, stc, g7, g8 with
    | [v0, v1], [w0, w1], ⟨hv0, hv1, _⟩, ⟨hw0, hw1, _⟩ =>
      cases hv0
      cases hv1
      cases hw0
      cases hw1
      exact l1 τ ρ  g1 g2 g3 g4 g5 g6
set_option maxRecDepth 100000 in
theorem qf_p15 {σ : pm_S} {Q : Option Value → pm_S → Prop} (x0 x1 x2 x3 x4 : Int)  (hB : an_GB pm_B σ) (eF : (0 ≤ x0 ∧ x0 ≤ 29) ∧ (0 ≤ x1 ∧ x1 ≤ 1) ∧ (0 ≤ x2 ∧ x2 ≤ 9) ∧ ((-2147483648) ≤ x3 ∧ x3 ≤ 2147483647) ∧ ((-2147483648) ≤ x4 ∧ x4 ≤ 2147483647) ∧ True) (eC : (σ.1 101 (x0).toNat).toInt = x2 ∧ (σ.1 97 (x2).toNat).toInt = x3 ∧ (σ.1 103 (x0).toNat).toInt = x4 ∧ True)
    (l0 : ∀ (τ : pm_S) (y : Nat → Int), an_GB pm_B τ → FQ [] σ τ → ((0 ≤ x0 ∧ x0 ≤ 29) ∧ (0 ≤ x1 ∧ x1 ≤ 0) ∧ (0 ≤ x2 ∧ x2 ≤ 9) ∧ ((-2147483648) ≤ x3 ∧ x3 ≤ 2147483647) ∧ ((-2147483648) ≤ x4 ∧ x4 ≤ 2147483647) ∧ True) → (True) → (True) → ((τ.1 97 (x2).toNat).toInt = x3 ∧ (τ.1 101 (x0).toNat).toInt = x2 ∧ (τ.1 103 (x0).toNat).toInt = x4 ∧ True) → Q none τ)
    (l1 : ∀ (τ : pm_S) (y : Nat → Int), an_GB pm_B τ → FQ [] σ τ → ((0 ≤ x0 ∧ x0 ≤ 29) ∧ (1 ≤ x1 ∧ x1 ≤ 1) ∧ (0 ≤ x2 ∧ x2 ≤ 9) ∧ ((-2147483648) ≤ x3 ∧ x3 ≤ 2147483647) ∧ ((-2147483648) ≤ x4 ∧ x4 ≤ 2147483647) ∧ True) → (True) → (True) → ((τ.1 97 (x2).toNat).toInt = x3 ∧ (τ.1 101 (x0).toNat).toInt = x2 ∧ (τ.1 103 (x0).toNat).toInt = x4 ∧ True) → Ok 209 12 27 [.ref 93, .int (Int32.ofInt (x0))] [.int (Int32.ofInt (x4)), .int (Int32.ofInt (x3))] τ Q)
    : Ok 209 12 15 [.ref 93, .int (Int32.ofInt (x0))] [.int (Int32.ofInt (x1))] σ Q := by
  refine an_seg (B := pm_B) (F := []) (T := [97, 101, 103]) (S := []) (fun _ h => absurd h List.not_mem_nil) (k := 209) (d := 11) (cs := [27]) 14 15 5 [(0, 0, 29), (1, 0, 1), (2, 0, 9), (3, (-2147483648), 2147483647), (4, (-2147483648), 2147483647)] [(101, (0, 0, 0), (0, 2, 0)), (97, (0, 2, 0), (0, 3, 0)), (103, (0, 0, 0), (0, 4, 0))] [(2, 93, 0), (0, 0, 0)] [(0, 1, 0)] [(9999, [], [], [(0, 0, 29), (1, 0, 0), (2, 0, 9), (3, (-2147483648), 2147483647), (4, (-2147483648), 2147483647)], [], [], [(97, (0, 2, 0), (0, 3, 0)), (101, (0, 0, 0), (0, 2, 0)), (103, (0, 0, 0), (0, 4, 0))]),
    (27, [(2, 93, 0), (0, 0, 0)], [(0, 4, 0), (0, 3, 0)], [(0, 0, 29), (1, 1, 1), (2, 0, 9), (3, (-2147483648), 2147483647), (4, (-2147483648), 2147483647)], [], [], [(97, (0, 2, 0), (0, 3, 0)), (101, (0, 0, 0), (0, 2, 0)), (103, (0, 0, 0), (0, 4, 0))])] (by decide +kernel) (ρ0 := (fun s => [x0, x1, x2, x3, x4].getD s 0)) hB eF eC ⟨rfl, ⟨rfl, trivial⟩⟩ ⟨rfl, trivial⟩ ?_
  refine List.forall_mem_cons.mpr ⟨?_, List.forall_mem_cons.mpr ⟨?_, fun _ h => absurd h List.not_mem_nil⟩⟩
  · intro ρ τ Lc stc hx g1 g2 g3 g4 g5 g6 g7 g8
    have e0 : ρ 0 = x0 := hx 0 (by decide)
    have e1 : ρ 1 = x1 := hx 1 (by decide)
    have e2 : ρ 2 = x2 := hx 2 (by decide)
    have e3 : ρ 3 = x3 := hx 3 (by decide)
    have e4 : ρ 4 = x4 := hx 4 (by decide)
    subst e0
    subst e1
    subst e2
    subst e3
    subst e4
    match stc, g8 with
    | [], _ => exact l0 τ ρ g1 g2 g3 g4 g5 g6
  · intro ρ τ Lc stc hx g1 g2 g3 g4 g5 g6 g7 g8
    have e0 : ρ 0 = x0 := hx 0 (by decide)
    have e1 : ρ 1 = x1 := hx 1 (by decide)
    have e2 : ρ 2 = x2 := hx 2 (by decide)
    have e3 : ρ 3 = x3 := hx 3 (by decide)
    have e4 : ρ 4 = x4 := hx 4 (by decide)
    subst e0
    subst e1
    subst e2
    subst e3
    subst e4
    have g7 := g7 (by decide)
    match Lc, stc, g7, g8 with
    | [v0, v1], [w0, w1], ⟨hv0, hv1, _⟩, ⟨hw0, hw1, _⟩ =>
      cases hv0
      cases hv1
      cases hw0
      cases hw1
      exact l1 τ ρ  g1 g2 g3 g4 g5 g6
set_option maxRecDepth 100000 in
theorem qf_p28 {σ : pm_S} {Q : Option Value → pm_S → Prop} (x0 : Int)  (hB : an_GB pm_B σ) (eF : (0 ≤ x0 ∧ x0 ≤ 29) ∧ True)
    (l0 : ∀ (τ : pm_S) (y : Nat → Int), an_GB pm_B τ → FQ [] σ τ → ((0 ≤ x0 ∧ x0 ≤ 29) ∧ True) → (True) → (True) → (True) → Q none τ)
    : Ok 209 12 28 [.ref 93, .int (Int32.ofInt (x0))] [] σ Q := by
  refine an_seg (B := pm_B) (F := []) (T := []) (S := []) (fun _ h => absurd h List.not_mem_nil) (k := 209) (d := 11) (cs := []) 3 28 1 [(0, 0, 29)] [] [(2, 93, 0), (0, 0, 0)] [] [(9999, [], [], [(0, 0, 29)], [], [], [])] (by decide +kernel) (ρ0 := (fun s => [x0].getD s 0)) hB eF trivial ⟨rfl, ⟨rfl, trivial⟩⟩ trivial ?_
  refine List.forall_mem_cons.mpr ⟨?_, fun _ h => absurd h List.not_mem_nil⟩
  · intro ρ τ Lc stc hx g1 g2 g3 g4 g5 g6 g7 g8
    have e0 : ρ 0 = x0 := hx 0 (by decide)
    subst e0
    match stc, g8 with
    | [], _ => exact l0 τ ρ g1 g2 g3 g4 g5 g6
set_option maxRecDepth 100000 in
theorem qf_p29 {σ : pm_S} {Q : Option Value → pm_S → Prop} (x0 x1 x2 x3 : Int)  (hB : an_GB pm_B σ) (eF : (0 ≤ x0 ∧ x0 ≤ 29) ∧ (0 ≤ x1 ∧ x1 ≤ 9) ∧ ((-2147483648) ≤ x2 ∧ x2 ≤ 2147483647) ∧ ((-2147483648) ≤ x3 ∧ x3 ≤ 2147483647) ∧ True) (eC : (σ.1 101 (x0).toNat).toInt = x1 ∧ (σ.1 97 (x1).toNat).toInt = x2 ∧ (σ.1 103 (x0).toNat).toInt = x3 ∧ True)
    (l0 : ∀ (τ : pm_S) (y : Nat → Int), an_GB pm_B τ → FQ [] σ τ → ((0 ≤ x0 ∧ x0 ≤ 29) ∧ (0 ≤ x1 ∧ x1 ≤ 9) ∧ ((-2147483648) ≤ x2 ∧ x2 ≤ 2147483647) ∧ ((-2147483648) ≤ x3 ∧ x3 ≤ 2147483647) ∧ ((-2147483648) ≤ y 4 ∧ y 4 ≤ 2147483647) ∧ True) → (True) → ((an_f 1 (Int32.ofInt (x2)) (Int32.ofInt (x3))).toInt = y 4 ∧ True) → ((τ.1 97 (x1).toNat).toInt = x2 ∧ (τ.1 101 (x0).toNat).toInt = x1 ∧ (τ.1 103 (x0).toNat).toInt = x3 ∧ True) → Ok 209 12 47 [.ref 93, .int (Int32.ofInt (x0))] [.int (Int32.ofInt (y 4)), .int (Int32.ofInt (x1)), .ref 97] τ Q)
    : Ok 209 12 29 [.ref 93, .int (Int32.ofInt (x0))] [] σ Q := by
  refine an_seg (B := pm_B) (F := []) (T := [97, 101, 103]) (S := []) (fun _ h => absurd h List.not_mem_nil) (k := 209) (d := 11) (cs := [47]) 20 29 4 [(0, 0, 29), (1, 0, 9), (2, (-2147483648), 2147483647), (3, (-2147483648), 2147483647)] [(101, (0, 0, 0), (0, 1, 0)), (97, (0, 1, 0), (0, 2, 0)), (103, (0, 0, 0), (0, 3, 0))] [(2, 93, 0), (0, 0, 0)] [] [(47, [(2, 93, 0), (0, 0, 0)], [(0, 4, 0), (0, 1, 0), (2, 97, 0)], [(0, 0, 29), (1, 0, 9), (2, (-2147483648), 2147483647), (3, (-2147483648), 2147483647), (4, (-2147483648), 2147483647)], [], [(1, (0, 2, 0), (0, 3, 0), 4)], [(97, (0, 1, 0), (0, 2, 0)), (101, (0, 0, 0), (0, 1, 0)), (103, (0, 0, 0), (0, 3, 0))])] (by decide +kernel) (ρ0 := (fun s => [x0, x1, x2, x3].getD s 0)) hB eF eC ⟨rfl, ⟨rfl, trivial⟩⟩ trivial ?_
  refine List.forall_mem_cons.mpr ⟨?_, fun _ h => absurd h List.not_mem_nil⟩
  · intro ρ τ Lc stc hx g1 g2 g3 g4 g5 g6 g7 g8
    have e0 : ρ 0 = x0 := hx 0 (by decide)
    have e1 : ρ 1 = x1 := hx 1 (by decide)
    have e2 : ρ 2 = x2 := hx 2 (by decide)
    have e3 : ρ 3 = x3 := hx 3 (by decide)
    subst e0
    subst e1
    subst e2
    subst e3
    have g7 := g7 (by decide)
    match Lc, stc, g7, g8 with
    | [v0, v1], [w0, w1, w2], ⟨hv0, hv1, _⟩, ⟨hw0, hw1, hw2, _⟩ =>
      cases hv0
      cases hv1
      cases hw0
      cases hw1
      cases hw2
      exact l0 τ ρ  g1 g2 g3 g4 g5 g6
set_option maxRecDepth 100000 in
theorem qf_p48 {σ : pm_S} {Q : Option Value → pm_S → Prop} (x0 x1 x2 x3 : Int)  (hB : an_GB pm_B σ) (eF : (0 ≤ x0 ∧ x0 ≤ 29) ∧ (0 ≤ x1 ∧ x1 ≤ 9) ∧ ((-2147483648) ≤ x2 ∧ x2 ≤ 2147483647) ∧ ((-2147483648) ≤ x3 ∧ x3 ≤ 2147483647) ∧ True) (eC : (σ.1 102 (x0).toNat).toInt = x1 ∧ (σ.1 97 (x1).toNat).toInt = x2 ∧ (σ.1 103 (x0).toNat).toInt = x3 ∧ True)
    (l0 : ∀ (τ : pm_S) (y : Nat → Int), an_GB pm_B τ → FQ [] σ τ → ((0 ≤ x0 ∧ x0 ≤ 29) ∧ (0 ≤ x1 ∧ x1 ≤ 9) ∧ ((-2147483648) ≤ x2 ∧ x2 ≤ 2147483647) ∧ ((-2147483648) ≤ x3 ∧ x3 ≤ 2147483647) ∧ ((-2147483648) ≤ y 4 ∧ y 4 ≤ 2147483647) ∧ True) → (True) → ((an_f 0 (Int32.ofInt (x2)) (Int32.ofInt (x3))).toInt = y 4 ∧ True) → ((τ.1 97 (x1).toNat).toInt = x2 ∧ (τ.1 102 (x0).toNat).toInt = x1 ∧ (τ.1 103 (x0).toNat).toInt = x3 ∧ True) → Ok 209 12 66 [.ref 93, .int (Int32.ofInt (x0))] [.int (Int32.ofInt (y 4)), .int (Int32.ofInt (x1)), .ref 97] τ Q)
    : Ok 209 12 48 [.ref 93, .int (Int32.ofInt (x0))] [] σ Q := by
  refine an_seg (B := pm_B) (F := []) (T := [97, 102, 103]) (S := []) (fun _ h => absurd h List.not_mem_nil) (k := 209) (d := 11) (cs := [66]) 20 48 4 [(0, 0, 29), (1, 0, 9), (2, (-2147483648), 2147483647), (3, (-2147483648), 2147483647)] [(102, (0, 0, 0), (0, 1, 0)), (97, (0, 1, 0), (0, 2, 0)), (103, (0, 0, 0), (0, 3, 0))] [(2, 93, 0), (0, 0, 0)] [] [(66, [(2, 93, 0), (0, 0, 0)], [(0, 4, 0), (0, 1, 0), (2, 97, 0)], [(0, 0, 29), (1, 0, 9), (2, (-2147483648), 2147483647), (3, (-2147483648), 2147483647), (4, (-2147483648), 2147483647)], [], [(0, (0, 2, 0), (0, 3, 0), 4)], [(97, (0, 1, 0), (0, 2, 0)), (102, (0, 0, 0), (0, 1, 0)), (103, (0, 0, 0), (0, 3, 0))])] (by decide +kernel) (ρ0 := (fun s => [x0, x1, x2, x3].getD s 0)) hB eF eC ⟨rfl, ⟨rfl, trivial⟩⟩ trivial ?_
  refine List.forall_mem_cons.mpr ⟨?_, fun _ h => absurd h List.not_mem_nil⟩
  · intro ρ τ Lc stc hx g1 g2 g3 g4 g5 g6 g7 g8
    have e0 : ρ 0 = x0 := hx 0 (by decide)
    have e1 : ρ 1 = x1 := hx 1 (by decide)
    have e2 : ρ 2 = x2 := hx 2 (by decide)
    have e3 : ρ 3 = x3 := hx 3 (by decide)
    subst e0
    subst e1
    subst e2
    subst e3
    have g7 := g7 (by decide)
    match Lc, stc, g7, g8 with
    | [v0, v1], [w0, w1, w2], ⟨hv0, hv1, _⟩, ⟨hw0, hw1, hw2, _⟩ =>
      cases hv0
      cases hv1
      cases hw0
      cases hw1
      cases hw2
      exact l0 τ ρ  g1 g2 g3 g4 g5 g6
set_option maxRecDepth 100000 in
theorem qf_p67 {σ : pm_S} {Q : Option Value → pm_S → Prop} (x0 : Int)  (hB : an_GB pm_B σ) (eF : (0 ≤ x0 ∧ x0 ≤ 29) ∧ True)
    (l0 : ∀ (τ : pm_S) (y : Nat → Int), an_GB pm_B τ → FQ [] σ τ → ((0 ≤ x0 ∧ x0 ≤ 29) ∧ True) → (True) → (True) → (True) → Ok 209 12 70 [.ref 93, .int (Int32.ofInt (x0))] [.int (Int32.ofInt 1), .int (Int32.ofInt (x0)), .ref 93] τ Q)
    : Ok 209 12 67 [.ref 93, .int (Int32.ofInt (x0))] [] σ Q := by
  refine an_seg (B := pm_B) (F := []) (T := []) (S := []) (fun _ h => absurd h List.not_mem_nil) (k := 209) (d := 11) (cs := [70]) 5 67 1 [(0, 0, 29)] [] [(2, 93, 0), (0, 0, 0)] [] [(70, [(2, 93, 0), (0, 0, 0)], [(1, 0, 1), (0, 0, 0), (2, 93, 0)], [(0, 0, 29)], [], [], [])] (by decide +kernel) (ρ0 := (fun s => [x0].getD s 0)) hB eF trivial ⟨rfl, ⟨rfl, trivial⟩⟩ trivial ?_
  refine List.forall_mem_cons.mpr ⟨?_, fun _ h => absurd h List.not_mem_nil⟩
  · intro ρ τ Lc stc hx g1 g2 g3 g4 g5 g6 g7 g8
    have e0 : ρ 0 = x0 := hx 0 (by decide)
    subst e0
    have g7 := g7 (by decide)
    match Lc, stc, g7, g8 with
    | [v0, v1], [w0, w1, w2], ⟨hv0, hv1, _⟩, ⟨hw0, hw1, hw2, _⟩ =>
      cases hv0
      cases hv1
      cases hw0
      cases hw1
      cases hw2
      exact l0 τ ρ  g1 g2 g3 g4 g5 g6
set_option maxRecDepth 100000 in
theorem qf_p71 {σ : pm_S} {Q : Option Value → pm_S → Prop} (x0 : Int)  (hB : an_GB pm_B σ) (eF : (0 ≤ x0 ∧ x0 ≤ 29) ∧ True)
    (l0 : ∀ (τ : pm_S) (y : Nat → Int), an_GB pm_B τ → FQ [] σ τ → ((0 ≤ x0 ∧ x0 ≤ 29) ∧ True) → (True) → (True) → (True) → Q none τ)
    : Ok 209 12 71 [.ref 93, .int (Int32.ofInt (x0))] [] σ Q := by
  refine an_seg (B := pm_B) (F := []) (T := []) (S := []) (fun _ h => absurd h List.not_mem_nil) (k := 209) (d := 11) (cs := []) 3 71 1 [(0, 0, 29)] [] [(2, 93, 0), (0, 0, 0)] [] [(9999, [], [], [(0, 0, 29)], [], [], [])] (by decide +kernel) (ρ0 := (fun s => [x0].getD s 0)) hB eF trivial ⟨rfl, ⟨rfl, trivial⟩⟩ trivial ?_
  refine List.forall_mem_cons.mpr ⟨?_, fun _ h => absurd h List.not_mem_nil⟩
  · intro ρ τ Lc stc hx g1 g2 g3 g4 g5 g6 g7 g8
    have e0 : ρ 0 = x0 := hx 0 (by decide)
    subst e0
    match stc, g8 with
    | [], _ => exact l0 τ ρ g1 g2 g3 g4 g5 g6
set_option maxRecDepth 100000 in
theorem qf_i0 {σ : pm_S} {Q : Option Value → pm_S → Prop} (x0 x1 : Int)  (hB : an_GB pm_B σ) (eF : (0 ≤ x0 ∧ x0 ≤ 29) ∧ (1 ≤ x1 ∧ x1 ≤ 2) ∧ True)
    (l0 : ∀ (τ : pm_S) (y : Nat → Int), an_GB pm_B τ → FQ [] σ τ → ((0 ≤ x0 ∧ x0 ≤ 29) ∧ (1 ≤ x1 ∧ x1 ≤ 2) ∧ True) → (True) → (True) → (True) → Ok 206 2 4 [.ref 93, .int (Int32.ofInt (x0)), .int (Int32.ofInt (x1))] [.int (Int32.ofInt (x1)), .int (Int32.ofInt (x0)), .ref 107] τ Q)
    : Ok 206 2 0 [.ref 93, .int (Int32.ofInt (x0)), .int (Int32.ofInt (x1))] [] σ Q := by
  refine an_seg (B := pm_B) (F := []) (T := []) (S := []) (fun _ h => absurd h List.not_mem_nil) (k := 206) (d := 1) (cs := [4]) 6 0 2 [(0, 0, 29), (1, 1, 2)] [] [(2, 93, 0), (0, 0, 0), (0, 1, 0)] [] [(4, [(2, 93, 0), (0, 0, 0), (0, 1, 0)], [(0, 1, 0), (0, 0, 0), (2, 107, 0)], [(0, 0, 29), (1, 1, 2)], [], [], [])] (by decide +kernel) (ρ0 := (fun s => [x0, x1].getD s 0)) hB eF trivial ⟨rfl, ⟨rfl, ⟨rfl, trivial⟩⟩⟩ trivial ?_
  refine List.forall_mem_cons.mpr ⟨?_, fun _ h => absurd h List.not_mem_nil⟩
  · intro ρ τ Lc stc hx g1 g2 g3 g4 g5 g6 g7 g8
    have e0 : ρ 0 = x0 := hx 0 (by decide)
    have e1 : ρ 1 = x1 := hx 1 (by decide)
    subst e0
    subst e1
    have g7 := g7 (by decide)
    match Lc, stc, g7, g8 with
    | [v0, v1, v2], [w0, w1, w2], ⟨hv0, hv1, hv2, _⟩, ⟨hw0, hw1, hw2, _⟩ =>
      cases hv0
      cases hv1
      cases hv2
      cases hw0
      cases hw1
      cases hw2
      exact l0 τ ρ  g1 g2 g3 g4 g5 g6
set_option maxRecDepth 100000 in
theorem qf_i5 {σ : pm_S} {Q : Option Value → pm_S → Prop} (x0 x1 x2 : Int)  (hB : an_GB pm_B σ) (eF : (0 ≤ x0 ∧ x0 ≤ 29) ∧ (1 ≤ x1 ∧ x1 ≤ 2) ∧ ((-2147483648) ≤ x2 ∧ x2 ≤ 2147483647) ∧ True) (eC : (σ.1 93 19).toInt = x2 ∧ True)
    (l0 : ∀ (τ : pm_S) (y : Nat → Int), an_GB pm_B τ → FQ [] σ τ → ((0 ≤ x0 ∧ x0 ≤ 29) ∧ (1 ≤ x1 ∧ x1 ≤ 2) ∧ ((-2147483648) ≤ x2 ∧ x2 ≤ 2147483647) ∧ True) → (True) → (True) → ((τ.1 93 19).toInt = x2 ∧ True) → Ok 206 2 10 [.ref 93, .int (Int32.ofInt (x0)), .int (Int32.ofInt (x1))] [.int (Int32.ofInt (x2)), .int (Int32.ofInt (x0)), .ref 106] τ Q)
    : Ok 206 2 5 [.ref 93, .int (Int32.ofInt (x0)), .int (Int32.ofInt (x1))] [] σ Q := by
  refine an_seg (B := pm_B) (F := []) (T := []) (S := []) (fun _ h => absurd h List.not_mem_nil) (k := 206) (d := 1) (cs := [10]) 7 5 3 [(0, 0, 29), (1, 1, 2), (2, (-2147483648), 2147483647)] [(93, (1, 0, 19), (0, 2, 0))] [(2, 93, 0), (0, 0, 0), (0, 1, 0)] [] [(10, [(2, 93, 0), (0, 0, 0), (0, 1, 0)], [(0, 2, 0), (0, 0, 0), (2, 106, 0)], [(0, 0, 29), (1, 1, 2), (2, (-2147483648), 2147483647)], [], [], [(93, (1, 0, 19), (0, 2, 0))])] (by decide +kernel) (ρ0 := (fun s => [x0, x1, x2].getD s 0)) hB eF eC ⟨rfl, ⟨rfl, ⟨rfl, trivial⟩⟩⟩ trivial ?_
  refine List.forall_mem_cons.mpr ⟨?_, fun _ h => absurd h List.not_mem_nil⟩
  · intro ρ τ Lc stc hx g1 g2 g3 g4 g5 g6 g7 g8
    have e0 : ρ 0 = x0 := hx 0 (by decide)
    have e1 : ρ 1 = x1 := hx 1 (by decide)
    have e2 : ρ 2 = x2 := hx 2 (by decide)
    subst e0
    subst e1
    subst e2
    have g7 := g7 (by decide)
    match Lc, stc, g7, g8 with
    | [v0, v1, v2], [w0, w1, w2], ⟨hv0, hv1, hv2, _⟩, ⟨hw0, hw1, hw2, _⟩ =>
      cases hv0
      cases hv1
      cases hv2
      cases hw0
      cases hw1
      cases hw2
      exact l0 τ ρ  g1 g2 g3 g4 g5 g6
set_option maxRecDepth 100000 in
theorem qf_i11 {σ : pm_S} {Q : Option Value → pm_S → Prop} (x0 x1 x2 : Int)  (hB : an_GB pm_B σ) (eF : (0 ≤ x0 ∧ x0 ≤ 29) ∧ (1 ≤ x1 ∧ x1 ≤ 2) ∧ (0 ≤ x2 ∧ x2 ≤ 1000) ∧ True) (eC : (σ.1 93 53).toInt = x2 ∧ True)
    (l0 : ∀ (τ : pm_S) (y : Nat → Int), an_GB pm_B τ → FQ [(93, 53)] σ τ → ((0 ≤ x0 ∧ x0 ≤ 29) ∧ (1 ≤ x1 ∧ x1 ≤ 2) ∧ (0 ≤ x2 ∧ x2 ≤ 1000) ∧ True) → (True) → (True) → ((τ.1 93 53).toInt = x2 + 1 ∧ True) → Q none τ)
    : Ok 206 2 11 [.ref 93, .int (Int32.ofInt (x0)), .int (Int32.ofInt (x1))] [] σ Q := by
  refine an_seg (B := pm_B) (F := [(93, 53)]) (T := []) (S := []) (fun _ h => absurd h List.not_mem_nil) (k := 206) (d := 1) (cs := []) 9 11 3 [(0, 0, 29), (1, 1, 2), (2, 0, 1000)] [(93, (1, 0, 53), (0, 2, 0))] [(2, 93, 0), (0, 0, 0), (0, 1, 0)] [] [(9999, [], [], [(0, 0, 29), (1, 1, 2), (2, 0, 1000)], [], [], [(93, (1, 0, 53), (0, 2, 1))])] (by decide +kernel) (ρ0 := (fun s => [x0, x1, x2].getD s 0)) hB eF eC ⟨rfl, ⟨rfl, ⟨rfl, trivial⟩⟩⟩ trivial ?_
  refine List.forall_mem_cons.mpr ⟨?_, fun _ h => absurd h List.not_mem_nil⟩
  · intro ρ τ Lc stc hx g1 g2 g3 g4 g5 g6 g7 g8
    have e0 : ρ 0 = x0 := hx 0 (by decide)
    have e1 : ρ 1 = x1 := hx 1 (by decide)
    have e2 : ρ 2 = x2 := hx 2 (by decide)
    subst e0
    subst e1
    subst e2
    match stc, g8 with
    | [], _ => exact l0 τ ρ g1 g2 g3 g4 g5 g6
set_option maxRecDepth 100000 in
theorem qf_g0 {σ : pm_S} {Q : Option Value → pm_S → Prop} (x0 x1 : Int) (v1 : Value) (v2 : Value) (v3 : Value) (hv1 : v1.category = 1) (hv2 : v2.category = 1) (hv3 : v3.category = 1) (hB : an_GB pm_B σ) (eF : (0 ≤ x0 ∧ x0 ≤ 100) ∧ ((-2147483648) ≤ x1 ∧ x1 ≤ 2147483647) ∧ True) (eC : (σ.1 108 0).toInt = x0 ∧ (σ.1 93 1).toInt = x1 ∧ True)
    (l0 : ∀ (τ : pm_S) (y : Nat → Int) (v2 : Value) (v3 : Value), v2.category = 1 → v3.category = 1 → an_GB pm_B τ → FQ [(93, 53), (93, 1), (93, 21)] σ τ → ((0 ≤ x0 ∧ x0 ≤ 0) ∧ ((-2147483648) ≤ x1 ∧ x1 ≤ 2147483647) ∧ True) → (True) → (True) → ((τ.1 93 1).toInt = x1 ∧ (τ.1 93 21).toInt = 0 ∧ (τ.1 93 53).toInt = 0 ∧ (τ.1 108 0).toInt = x0 ∧ True) → Ok 210 40 29 [.ref 93, .int (Int32.ofInt 0), v2, v3] [.int (Int32.ofInt 0), .ref 93] τ Q)
    (l1 : ∀ (τ : pm_S) (y : Nat → Int) (v1 : Value) (v2 : Value) (v3 : Value), v1.category = 1 → v2.category = 1 → v3.category = 1 → an_GB pm_B τ → FQ [(93, 53), (93, 1), (93, 21)] σ τ → ((1 ≤ x0 ∧ x0 ≤ 100) ∧ ((-2147483648) ≤ x1 ∧ x1 ≤ 2147483647) ∧ ((-2147483648) ≤ y 2 ∧ y 2 ≤ 2147483647) ∧ ((-2147483648) ≤ y 3 ∧ y 3 ≤ 2147483647) ∧ (0 ≤ y 4 ∧ y 4 ≤ 16777215) ∧ (0 ≤ y 5 ∧ y 5 ≤ 99) ∧ True) → (True) → ((an_f 2 (Int32.ofInt (1664525)) (Int32.ofInt (x1))).toInt = y 2 ∧ (an_f 0 (Int32.ofInt (y 2)) (Int32.ofInt (1013904223))).toInt = y 3 ∧ (an_f 8 (Int32.ofInt (y 3)) (Int32.ofInt (8))).toInt = y 4 ∧ (an_f 10 (Int32.ofInt (y 4)) (Int32.ofInt (100))).toInt = y 5 ∧ True) → ((τ.1 93 1).toInt = y 3 ∧ (τ.1 93 53).toInt = 0 ∧ (τ.1 108 0).toInt = x0 ∧ True) → Ok 210 40 15 [.ref 93, v1, v2, v3] [.int (Int32.ofInt (x0)), .int (Int32.ofInt (y 5))] τ Q)
    : Ok 210 40 0 [.ref 93, v1, v2, v3] [] σ Q := by
  refine an_seg (B := pm_B) (F := [(93, 53), (93, 1), (93, 21)]) (T := []) (S := []) (fun _ h => absurd h List.not_mem_nil) (k := 210) (d := 39) (cs := [15, 29]) 32 0 2 [(0, 0, 100), (1, (-2147483648), 2147483647)] [(108, (1, 0, 0), (0, 0, 0)), (93, (1, 0, 1), (0, 1, 0))] [(2, 93, 0), (5, 0, 0), (5, 0, 0), (5, 0, 0)] [] [(29, [(2, 93, 0), (1, 0, 0), (5, 0, 0), (5, 0, 0)], [(1, 0, 0), (2, 93, 0)], [(0, 0, 0), (1, (-2147483648), 2147483647)], [], [], [(93, (1, 0, 1), (0, 1, 0)), (93, (1, 0, 21), (1, 0, 0)), (93, (1, 0, 53), (1, 0, 0)), (108, (1, 0, 0), (0, 0, 0))]),
    (15, [(2, 93, 0), (5, 0, 0), (5, 0, 0), (5, 0, 0)], [(0, 0, 0), (0, 5, 0)], [(0, 1, 100), (1, (-2147483648), 2147483647), (2, (-2147483648), 2147483647), (3, (-2147483648), 2147483647), (4, 0, 16777215), (5, 0, 99)], [], [(2, (1, 0, 1664525), (0, 1, 0), 2), (0, (0, 2, 0), (1, 0, 1013904223), 3), (8, (0, 3, 0), (1, 0, 8), 4), (10, (0, 4, 0), (1, 0, 100), 5)], [(93, (1, 0, 1), (0, 3, 0)), (93, (1, 0, 53), (1, 0, 0)), (108, (1, 0, 0), (0, 0, 0))])] (by decide +kernel) (ρ0 := (fun s => [x0, x1].getD s 0)) hB eF eC ⟨rfl, ⟨hv1, ⟨hv2, ⟨hv3, trivial⟩⟩⟩⟩ trivial ?_
  refine List.forall_mem_cons.mpr ⟨?_, List.forall_mem_cons.mpr ⟨?_, fun _ h => absurd h List.not_mem_nil⟩⟩
  · intro ρ τ Lc stc hx g1 g2 g3 g4 g5 g6 g7 g8
    have e0 : ρ 0 = x0 := hx 0 (by decide)
    have e1 : ρ 1 = x1 := hx 1 (by decide)
    subst e0
    subst e1
    have g7 := g7 (by decide)
    match Lc, stc, g7, g8 with
    | [v0, v1, v2, v3], [w0, w1], ⟨hv0, hv1, hv2, hv3, _⟩, ⟨hw0, hw1, _⟩ =>
      cases hv0
      cases hv1
      cases hw0
      cases hw1
      exact l0 τ ρ v2 v3 hv2 hv3 g1 g2 g3 g4 g5 g6
  · intro ρ τ Lc stc hx g1 g2 g3 g4 g5 g6 g7 g8
    have e0 : ρ 0 = x0 := hx 0 (by decide)
    have e1 : ρ 1 = x1 := hx 1 (by decide)
    subst e0
    subst e1
    have g7 := g7 (by decide)
    match Lc, stc, g7, g8 with
    | [v0, v1, v2, v3], [w0, w1], ⟨hv0, hv1, hv2, hv3, _⟩, ⟨hw0, hw1, _⟩ =>
      cases hv0
      cases hw0
      cases hw1
      exact l1 τ ρ v1 v2 v3 hv1 hv2 hv3 g1 g2 g3 g4 g5 g6
set_option maxRecDepth 100000 in
theorem qf_g16 {σ : pm_S} {Q : Option Value → pm_S → Prop} (v1 : Value) (v2 : Value) (v3 : Value) (hv1 : v1.category = 1) (hv2 : v2.category = 1) (hv3 : v3.category = 1) (hB : an_GB pm_B σ)
    (l0 : ∀ (τ : pm_S) (y : Nat → Int) (v2 : Value) (v3 : Value), v2.category = 1 → v3.category = 1 → an_GB pm_B τ → FQ [(93, 21)] σ τ → (True) → (True) → (True) → ((τ.1 93 21).toInt = 1 ∧ True) → Ok 210 40 29 [.ref 93, .int (Int32.ofInt 1), v2, v3] [.int (Int32.ofInt 1), .ref 93] τ Q)
    : Ok 210 40 16 [.ref 93, v1, v2, v3] [] σ Q := by
  refine an_seg (B := pm_B) (F := [(93, 21)]) (T := []) (S := []) (fun _ h => absurd h List.not_mem_nil) (k := 210) (d := 39) (cs := [29]) 13 16 0 [] [] [(2, 93, 0), (5, 0, 0), (5, 0, 0), (5, 0, 0)] [] [(29, [(2, 93, 0), (1, 0, 1), (5, 0, 0), (5, 0, 0)], [(1, 0, 1), (2, 93, 0)], [], [], [], [(93, (1, 0, 21), (1, 0, 1))])] (by decide +kernel) (ρ0 := (fun s => [].getD s 0)) hB trivial trivial ⟨rfl, ⟨hv1, ⟨hv2, ⟨hv3, trivial⟩⟩⟩⟩ trivial ?_
  refine List.forall_mem_cons.mpr ⟨?_, fun _ h => absurd h List.not_mem_nil⟩
  · intro ρ τ Lc stc hx g1 g2 g3 g4 g5 g6 g7 g8
    have g7 := g7 (by decide)
    match Lc, stc, g7, g8 with
    | [v0, v1, v2, v3], [w0, w1], ⟨hv0, hv1, hv2, hv3, _⟩, ⟨hw0, hw1, _⟩ =>
      cases hv0
      cases hv1
      cases hw0
      cases hw1
      exact l0 τ ρ v2 v3 hv2 hv3 g1 g2 g3 g4 g5 g6
set_option maxRecDepth 100000 in
theorem qf_g18 {σ : pm_S} {Q : Option Value → pm_S → Prop} (v1 : Value) (v2 : Value) (v3 : Value) (hv1 : v1.category = 1) (hv2 : v2.category = 1) (hv3 : v3.category = 1) (hB : an_GB pm_B σ)
    (l0 : ∀ (τ : pm_S) (y : Nat → Int) (v2 : Value) (v3 : Value), v2.category = 1 → v3.category = 1 → an_GB pm_B τ → FQ [(93, 21)] σ τ → (True) → (True) → (True) → ((τ.1 93 21).toInt = 0 ∧ True) → Ok 210 40 29 [.ref 93, .int (Int32.ofInt 0), v2, v3] [.int (Int32.ofInt 0), .ref 93] τ Q)
    : Ok 210 40 18 [.ref 93, v1, v2, v3] [] σ Q := by
  refine an_seg (B := pm_B) (F := [(93, 21)]) (T := []) (S := []) (fun _ h => absurd h List.not_mem_nil) (k := 210) (d := 39) (cs := [29]) 11 18 0 [] [] [(2, 93, 0), (5, 0, 0), (5, 0, 0), (5, 0, 0)] [] [(29, [(2, 93, 0), (1, 0, 0), (5, 0, 0), (5, 0, 0)], [(1, 0, 0), (2, 93, 0)], [], [], [], [(93, (1, 0, 21), (1, 0, 0))])] (by decide +kernel) (ρ0 := (fun s => [].getD s 0)) hB trivial trivial ⟨rfl, ⟨hv1, ⟨hv2, ⟨hv3, trivial⟩⟩⟩⟩ trivial ?_
  refine List.forall_mem_cons.mpr ⟨?_, fun _ h => absurd h List.not_mem_nil⟩
  · intro ρ τ Lc stc hx g1 g2 g3 g4 g5 g6 g7 g8
    have g7 := g7 (by decide)
    match Lc, stc, g7, g8 with
    | [v0, v1, v2, v3], [w0, w1], ⟨hv0, hv1, hv2, hv3, _⟩, ⟨hw0, hw1, _⟩ =>
      cases hv0
      cases hv1
      cases hw0
      cases hw1
      exact l0 τ ρ v2 v3 hv2 hv3 g1 g2 g3 g4 g5 g6
set_option maxRecDepth 100000 in
theorem qf_g30 {σ : pm_S} {Q : Option Value → pm_S → Prop} (x0 : Int) (v2 : Value) (v3 : Value) (hv2 : v2.category = 1) (hv3 : v3.category = 1) (hB : an_GB pm_B σ) (eF : (0 ≤ x0 ∧ x0 ≤ 1) ∧ True)
    (l0 : ∀ (τ : pm_S) (y : Nat → Int) (v3 : Value), v3.category = 1 → an_GB pm_B τ → FQ [] σ τ → ((0 ≤ x0 ∧ x0 ≤ 1) ∧ True) → (True) → (True) → (True) → Ok 210 40 32 [.ref 93, .int (Int32.ofInt (x0)), .int (Int32.ofInt 0), v3] [] τ Q)
    : Ok 210 40 30 [.ref 93, .int (Int32.ofInt (x0)), v2, v3] [] σ Q := by
  refine an_seg (B := pm_B) (F := []) (T := []) (S := []) (fun _ h => absurd h List.not_mem_nil) (k := 210) (d := 39) (cs := [32]) 4 30 1 [(0, 0, 1)] [] [(2, 93, 0), (0, 0, 0), (5, 0, 0), (5, 0, 0)] [] [(32, [(2, 93, 0), (0, 0, 0), (1, 0, 0), (5, 0, 0)], [], [(0, 0, 1)], [], [], [])] (by decide +kernel) (ρ0 := (fun s => [x0].getD s 0)) hB eF trivial ⟨rfl, ⟨rfl, ⟨hv2, ⟨hv3, trivial⟩⟩⟩⟩ trivial ?_
  refine List.forall_mem_cons.mpr ⟨?_, fun _ h => absurd h List.not_mem_nil⟩
  · intro ρ τ Lc stc hx g1 g2 g3 g4 g5 g6 g7 g8
    have e0 : ρ 0 = x0 := hx 0 (by decide)
    subst e0
    have g7 := g7 (by decide)
    match Lc, stc, g7, g8 with
    | [v0, v1, v2, v3], [], ⟨hv0, hv1, hv2, hv3, _⟩, _ =>
      cases hv0
      cases hv1
      cases hv2
      exact l0 τ ρ v3 hv3 g1 g2 g3 g4 g5 g6
set_option maxRecDepth 100000 in
theorem qf_g32 {σ : pm_S} {Q : Option Value → pm_S → Prop} (x0 x1 x2 : Int) (v3 : Value) (hv3 : v3.category = 1) (hB : an_GB pm_B σ) (eF : (0 ≤ x0 ∧ x0 ≤ 1) ∧ (0 ≤ x1 ∧ x1 ≤ 10) ∧ (0 ≤ x2 ∧ x2 ≤ 10) ∧ True) (eC : (σ.1 93 2).toInt = x2 ∧ True)
    (l0 : ∀ (τ : pm_S) (y : Nat → Int) (v3 : Value), v3.category = 1 → an_GB pm_B τ → FQ [] σ τ → ((0 ≤ x0 ∧ x0 ≤ 1) ∧ (0 ≤ x1 ∧ x1 ≤ 10) ∧ (0 ≤ x2 ∧ x2 ≤ 10) ∧ True) → (True) → (True) → ((τ.1 93 2).toInt = x2 ∧ True) → Ok 210 40 35 [.ref 93, .int (Int32.ofInt (x0)), .int (Int32.ofInt (x1)), v3] [.int (Int32.ofInt (x2)), .int (Int32.ofInt (x1))] τ Q)
    : Ok 210 40 32 [.ref 93, .int (Int32.ofInt (x0)), .int (Int32.ofInt (x1)), v3] [] σ Q := by
  refine an_seg (B := pm_B) (F := []) (T := []) (S := []) (fun _ h => absurd h List.not_mem_nil) (k := 210) (d := 39) (cs := [35]) 5 32 3 [(0, 0, 1), (1, 0, 10), (2, 0, 10)] [(93, (1, 0, 2), (0, 2, 0))] [(2, 93, 0), (0, 0, 0), (0, 1, 0), (5, 0, 0)] [] [(35, [(2, 93, 0), (0, 0, 0), (0, 1, 0), (5, 0, 0)], [(0, 2, 0), (0, 1, 0)], [(0, 0, 1), (1, 0, 10), (2, 0, 10)], [], [], [(93, (1, 0, 2), (0, 2, 0))])] (by decide +kernel) (ρ0 := (fun s => [x0, x1, x2].getD s 0)) hB eF eC ⟨rfl, ⟨rfl, ⟨rfl, ⟨hv3, trivial⟩⟩⟩⟩ trivial ?_
  refine List.forall_mem_cons.mpr ⟨?_, fun _ h => absurd h List.not_mem_nil⟩
  · intro ρ τ Lc stc hx g1 g2 g3 g4 g5 g6 g7 g8
    have e0 : ρ 0 = x0 := hx 0 (by decide)
    have e1 : ρ 1 = x1 := hx 1 (by decide)
    have e2 : ρ 2 = x2 := hx 2 (by decide)
    subst e0
    subst e1
    subst e2
    have g7 := g7 (by decide)
    match Lc, stc, g7, g8 with
    | [v0, v1, v2, v3], [w0, w1], ⟨hv0, hv1, hv2, hv3, _⟩, ⟨hw0, hw1, _⟩ =>
      cases hv0
      cases hv1
      cases hv2
      cases hw0
      cases hw1
      exact l0 τ ρ v3 hv3 g1 g2 g3 g4 g5 g6
set_option maxRecDepth 100000 in
theorem qf_g36 {σ : pm_S} {Q : Option Value → pm_S → Prop} (x0 x1 x2 : Int) (v3 : Value) (hv3 : v3.category = 1) (hB : an_GB pm_B σ) (eF : (0 ≤ x0 ∧ x0 ≤ 1) ∧ (0 ≤ x1 ∧ x1 ≤ 9) ∧ (0 ≤ x2 ∧ x2 ≤ 1) ∧ True) (eC : (σ.1 108 2).toInt = x2 ∧ True)
    (l0 : ∀ (τ : pm_S) (y : Nat → Int) (v3 : Value), v3.category = 1 → an_GB pm_B τ → FQ [] σ τ → ((0 ≤ x0 ∧ x0 ≤ 1) ∧ (0 ≤ x1 ∧ x1 ≤ 9) ∧ (0 ≤ x2 ∧ x2 ≤ 0) ∧ True) → (True) → (True) → ((τ.1 108 2).toInt = x2 ∧ True) → Ok 210 40 49 [.ref 93, .int (Int32.ofInt (x0)), .int (Int32.ofInt 0), v3] [] τ Q)
    (l1 : ∀ (τ : pm_S) (y : Nat → Int) (v3 : Value), v3.category = 1 → an_GB pm_B τ → FQ [] σ τ → ((0 ≤ x0 ∧ x0 ≤ 1) ∧ (0 ≤ x1 ∧ x1 ≤ 9) ∧ (1 ≤ x2 ∧ x2 ≤ 1) ∧ True) → (True) → (True) → ((τ.1 108 2).toInt = x2 ∧ True) → Ok 210 40 44 [.ref 93, .int (Int32.ofInt (x0)), .int (Int32.ofInt (x1)), v3] [.int (Int32.ofInt (x1)), .ref 93] τ Q)
    : Ok 210 40 36 [.ref 93, .int (Int32.ofInt (x0)), .int (Int32.ofInt (x1)), v3] [] σ Q := by
  refine an_seg (B := pm_B) (F := []) (T := []) (S := []) (fun _ h => absurd h List.not_mem_nil) (k := 210) (d := 39) (cs := [44, 49]) 10 36 3 [(0, 0, 1), (1, 0, 9), (2, 0, 1)] [(108, (1, 0, 2), (0, 2, 0))] [(2, 93, 0), (0, 0, 0), (0, 1, 0), (5, 0, 0)] [] [(49, [(2, 93, 0), (0, 0, 0), (1, 0, 0), (5, 0, 0)], [], [(0, 0, 1), (1, 0, 9), (2, 0, 0)], [], [], [(108, (1, 0, 2), (0, 2, 0))]),
    (44, [(2, 93, 0), (0, 0, 0), (0, 1, 0), (5, 0, 0)], [(0, 1, 0), (2, 93, 0)], [(0, 0, 1), (1, 0, 9), (2, 1, 1)], [], [], [(108, (1, 0, 2), (0, 2, 0))])] (by decide +kernel) (ρ0 := (fun s => [x0, x1, x2].getD s 0)) hB eF eC ⟨rfl, ⟨rfl, ⟨rfl, ⟨hv3, trivial⟩⟩⟩⟩ trivial ?_
  refine List.forall_mem_cons.mpr ⟨?_, List.forall_mem_cons.mpr ⟨?_, fun _ h => absurd h List.not_mem_nil⟩⟩
  · intro ρ τ Lc stc hx g1 g2 g3 g4 g5 g6 g7 g8
    have e0 : ρ 0 = x0 := hx 0 (by decide)
    have e1 : ρ 1 = x1 := hx 1 (by decide)
    have e2 : ρ 2 = x2 := hx 2 (by decide)
    subst e0
    subst e1
    subst e2
    have g7 := g7 (by decide)
    match Lc, stc, g7, g8 with
    | [v0, v1, v2, v3], [], ⟨hv0, hv1, hv2, hv3, _⟩, _ =>
      cases hv0
      cases hv1
      cases hv2
      exact l0 τ ρ v3 hv3 g1 g2 g3 g4 g5 g6
  · intro ρ τ Lc stc hx g1 g2 g3 g4 g5 g6 g7 g8
    have e0 : ρ 0 = x0 := hx 0 (by decide)
    have e1 : ρ 1 = x1 := hx 1 (by decide)
    have e2 : ρ 2 = x2 := hx 2 (by decide)
    subst e0
    subst e1
    subst e2
    have g7 := g7 (by decide)
    match Lc, stc, g7, g8 with
    | [v0, v1, v2, v3], [w0, w1], ⟨hv0, hv1, hv2, hv3, _⟩, ⟨hw0, hw1, _⟩ =>
      cases hv0
      cases hv1
      cases hv2
      cases hw0
      cases hw1
      exact l1 τ ρ v3 hv3 g1 g2 g3 g4 g5 g6
set_option maxRecDepth 100000 in
theorem qf_g45 {σ : pm_S} {Q : Option Value → pm_S → Prop} (x0 x1 : Int) (v3 : Value) (hv3 : v3.category = 1) (hB : an_GB pm_B σ) (eF : (0 ≤ x0 ∧ x0 ≤ 1) ∧ (0 ≤ x1 ∧ x1 ≤ 9) ∧ True)
    (l0 : ∀ (τ : pm_S) (y : Nat → Int) (v3 : Value), v3.category = 1 → an_GB pm_B τ → FQ [] σ τ → ((0 ≤ x0 ∧ x0 ≤ 1) ∧ (0 ≤ x1 ∧ x1 ≤ 9) ∧ True) → (True) → (True) → (True) → Ok 210 40 32 [.ref 93, .int (Int32.ofInt (x0)), .int (Int32.ofInt (x1 + 1)), v3] [] τ Q)
    : Ok 210 40 45 [.ref 93, .int (Int32.ofInt (x0)), .int (Int32.ofInt (x1)), v3] [] σ Q := by
  refine an_seg (B := pm_B) (F := []) (T := []) (S := []) (fun _ h => absurd h List.not_mem_nil) (k := 210) (d := 39) (cs := [32]) 4 45 2 [(0, 0, 1), (1, 0, 9)] [] [(2, 93, 0), (0, 0, 0), (0, 1, 0), (5, 0, 0)] [] [(32, [(2, 93, 0), (0, 0, 0), (0, 1, 1), (5, 0, 0)], [], [(0, 0, 1), (1, 0, 9)], [], [], [])] (by decide +kernel) (ρ0 := (fun s => [x0, x1].getD s 0)) hB eF trivial ⟨rfl, ⟨rfl, ⟨rfl, ⟨hv3, trivial⟩⟩⟩⟩ trivial ?_
  refine List.forall_mem_cons.mpr ⟨?_, fun _ h => absurd h List.not_mem_nil⟩
  · intro ρ τ Lc stc hx g1 g2 g3 g4 g5 g6 g7 g8
    have e0 : ρ 0 = x0 := hx 0 (by decide)
    have e1 : ρ 1 = x1 := hx 1 (by decide)
    subst e0
    subst e1
    have g7 := g7 (by decide)
    match Lc, stc, g7, g8 with
    | [v0, v1, v2, v3], [], ⟨hv0, hv1, hv2, hv3, _⟩, _ =>
      cases hv0
      cases hv1
      cases hv2
      exact l0 τ ρ v3 hv3 g1 g2 g3 g4 g5 g6
set_option maxRecDepth 100000 in
theorem qf_g47 {σ : pm_S} {Q : Option Value → pm_S → Prop} (x0 : Int) (v2 : Value) (v3 : Value) (hv2 : v2.category = 1) (hv3 : v3.category = 1) (hB : an_GB pm_B σ) (eF : (0 ≤ x0 ∧ x0 ≤ 1) ∧ True)
    (l0 : ∀ (τ : pm_S) (y : Nat → Int) (v3 : Value), v3.category = 1 → an_GB pm_B τ → FQ [] σ τ → ((0 ≤ x0 ∧ x0 ≤ 1) ∧ True) → (True) → (True) → (True) → Ok 210 40 49 [.ref 93, .int (Int32.ofInt (x0)), .int (Int32.ofInt 0), v3] [] τ Q)
    : Ok 210 40 47 [.ref 93, .int (Int32.ofInt (x0)), v2, v3] [] σ Q := by
  refine an_seg (B := pm_B) (F := []) (T := []) (S := []) (fun _ h => absurd h List.not_mem_nil) (k := 210) (d := 39) (cs := [49]) 4 47 1 [(0, 0, 1)] [] [(2, 93, 0), (0, 0, 0), (5, 0, 0), (5, 0, 0)] [] [(49, [(2, 93, 0), (0, 0, 0), (1, 0, 0), (5, 0, 0)], [], [(0, 0, 1)], [], [], [])] (by decide +kernel) (ρ0 := (fun s => [x0].getD s 0)) hB eF trivial ⟨rfl, ⟨rfl, ⟨hv2, ⟨hv3, trivial⟩⟩⟩⟩ trivial ?_
  refine List.forall_mem_cons.mpr ⟨?_, fun _ h => absurd h List.not_mem_nil⟩
  · intro ρ τ Lc stc hx g1 g2 g3 g4 g5 g6 g7 g8
    have e0 : ρ 0 = x0 := hx 0 (by decide)
    subst e0
    have g7 := g7 (by decide)
    match Lc, stc, g7, g8 with
    | [v0, v1, v2, v3], [], ⟨hv0, hv1, hv2, hv3, _⟩, _ =>
      cases hv0
      cases hv1
      cases hv2
      exact l0 τ ρ v3 hv3 g1 g2 g3 g4 g5 g6
set_option maxRecDepth 100000 in
theorem qf_g49 {σ : pm_S} {Q : Option Value → pm_S → Prop} (x0 x1 x2 : Int) (v3 : Value) (hv3 : v3.category = 1) (hB : an_GB pm_B σ) (eF : (0 ≤ x0 ∧ x0 ≤ 1) ∧ (0 ≤ x1 ∧ x1 ≤ 30) ∧ (0 ≤ x2 ∧ x2 ≤ 30) ∧ True) (eC : (σ.1 93 11).toInt = x2 ∧ True)
    (l0 : ∀ (τ : pm_S) (y : Nat → Int) (v3 : Value), v3.category = 1 → an_GB pm_B τ → FQ [] σ τ → ((0 ≤ x0 ∧ x0 ≤ 1) ∧ (0 ≤ x1 ∧ x1 ≤ 30) ∧ (0 ≤ x2 ∧ x2 ≤ 30) ∧ True) → (True) → (True) → ((τ.1 93 11).toInt = x2 ∧ True) → Ok 210 40 52 [.ref 93, .int (Int32.ofInt (x0)), .int (Int32.ofInt (x1)), v3] [.int (Int32.ofInt (x2)), .int (Int32.ofInt (x1))] τ Q)
    : Ok 210 40 49 [.ref 93, .int (Int32.ofInt (x0)), .int (Int32.ofInt (x1)), v3] [] σ Q := by
  refine an_seg (B := pm_B) (F := []) (T := []) (S := []) (fun _ h => absurd h List.not_mem_nil) (k := 210) (d := 39) (cs := [52]) 5 49 3 [(0, 0, 1), (1, 0, 30), (2, 0, 30)] [(93, (1, 0, 11), (0, 2, 0))] [(2, 93, 0), (0, 0, 0), (0, 1, 0), (5, 0, 0)] [] [(52, [(2, 93, 0), (0, 0, 0), (0, 1, 0), (5, 0, 0)], [(0, 2, 0), (0, 1, 0)], [(0, 0, 1), (1, 0, 30), (2, 0, 30)], [], [], [(93, (1, 0, 11), (0, 2, 0))])] (by decide +kernel) (ρ0 := (fun s => [x0, x1, x2].getD s 0)) hB eF eC ⟨rfl, ⟨rfl, ⟨rfl, ⟨hv3, trivial⟩⟩⟩⟩ trivial ?_
  refine List.forall_mem_cons.mpr ⟨?_, fun _ h => absurd h List.not_mem_nil⟩
  · intro ρ τ Lc stc hx g1 g2 g3 g4 g5 g6 g7 g8
    have e0 : ρ 0 = x0 := hx 0 (by decide)
    have e1 : ρ 1 = x1 := hx 1 (by decide)
    have e2 : ρ 2 = x2 := hx 2 (by decide)
    subst e0
    subst e1
    subst e2
    have g7 := g7 (by decide)
    match Lc, stc, g7, g8 with
    | [v0, v1, v2, v3], [w0, w1], ⟨hv0, hv1, hv2, hv3, _⟩, ⟨hw0, hw1, _⟩ =>
      cases hv0
      cases hv1
      cases hv2
      cases hw0
      cases hw1
      exact l0 τ ρ v3 hv3 g1 g2 g3 g4 g5 g6
set_option maxRecDepth 100000 in
theorem qf_g53 {σ : pm_S} {Q : Option Value → pm_S → Prop} (x0 x1 : Int) (v3 : Value) (hv3 : v3.category = 1) (hB : an_GB pm_B σ) (eF : (0 ≤ x0 ∧ x0 ≤ 1) ∧ (0 ≤ x1 ∧ x1 ≤ 29) ∧ True)
    (l0 : ∀ (τ : pm_S) (y : Nat → Int) (v3 : Value), v3.category = 1 → an_GB pm_B τ → FQ [] σ τ → ((0 ≤ x0 ∧ x0 ≤ 1) ∧ (0 ≤ x1 ∧ x1 ≤ 29) ∧ True) → (True) → (True) → (True) → Ok 210 40 55 [.ref 93, .int (Int32.ofInt (x0)), .int (Int32.ofInt (x1)), v3] [.int (Int32.ofInt (x1)), .ref 93] τ Q)
    : Ok 210 40 53 [.ref 93, .int (Int32.ofInt (x0)), .int (Int32.ofInt (x1)), v3] [] σ Q := by
  refine an_seg (B := pm_B) (F := []) (T := []) (S := []) (fun _ h => absurd h List.not_mem_nil) (k := 210) (d := 39) (cs := [55]) 4 53 2 [(0, 0, 1), (1, 0, 29)] [] [(2, 93, 0), (0, 0, 0), (0, 1, 0), (5, 0, 0)] [] [(55, [(2, 93, 0), (0, 0, 0), (0, 1, 0), (5, 0, 0)], [(0, 1, 0), (2, 93, 0)], [(0, 0, 1), (1, 0, 29)], [], [], [])] (by decide +kernel) (ρ0 := (fun s => [x0, x1].getD s 0)) hB eF trivial ⟨rfl, ⟨rfl, ⟨rfl, ⟨hv3, trivial⟩⟩⟩⟩ trivial ?_
  refine List.forall_mem_cons.mpr ⟨?_, fun _ h => absurd h List.not_mem_nil⟩
  · intro ρ τ Lc stc hx g1 g2 g3 g4 g5 g6 g7 g8
    have e0 : ρ 0 = x0 := hx 0 (by decide)
    have e1 : ρ 1 = x1 := hx 1 (by decide)
    subst e0
    subst e1
    have g7 := g7 (by decide)
    match Lc, stc, g7, g8 with
    | [v0, v1, v2, v3], [w0, w1], ⟨hv0, hv1, hv2, hv3, _⟩, ⟨hw0, hw1, _⟩ =>
      cases hv0
      cases hv1
      cases hv2
      cases hw0
      cases hw1
      exact l0 τ ρ v3 hv3 g1 g2 g3 g4 g5 g6
set_option maxRecDepth 100000 in
theorem qf_g56 {σ : pm_S} {Q : Option Value → pm_S → Prop} (x0 x1 : Int) (v3 : Value) (hv3 : v3.category = 1) (hB : an_GB pm_B σ) (eF : (0 ≤ x0 ∧ x0 ≤ 1) ∧ (0 ≤ x1 ∧ x1 ≤ 29) ∧ True)
    (l0 : ∀ (τ : pm_S) (y : Nat → Int) (v3 : Value), v3.category = 1 → an_GB pm_B τ → FQ [] σ τ → ((0 ≤ x0 ∧ x0 ≤ 1) ∧ (0 ≤ x1 ∧ x1 ≤ 29) ∧ True) → (True) → (True) → (True) → Ok 210 40 49 [.ref 93, .int (Int32.ofInt (x0)), .int (Int32.ofInt (x1 + 1)), v3] [] τ Q)
    : Ok 210 40 56 [.ref 93, .int (Int32.ofInt (x0)), .int (Int32.ofInt (x1)), v3] [] σ Q := by
  refine an_seg (B := pm_B) (F := []) (T := []) (S := []) (fun _ h => absurd h List.not_mem_nil) (k := 210) (d := 39) (cs := [49]) 4 56 2 [(0, 0, 1), (1, 0, 29)] [] [(2, 93, 0), (0, 0, 0), (0, 1, 0), (5, 0, 0)] [] [(49, [(2, 93, 0), (0, 0, 0), (0, 1, 1), (5, 0, 0)], [], [(0, 0, 1), (1, 0, 29)], [], [], [])] (by decide +kernel) (ρ0 := (fun s => [x0, x1].getD s 0)) hB eF trivial ⟨rfl, ⟨rfl, ⟨rfl, ⟨hv3, trivial⟩⟩⟩⟩ trivial ?_
  refine List.forall_mem_cons.mpr ⟨?_, fun _ h => absurd h List.not_mem_nil⟩
  · intro ρ τ Lc stc hx g1 g2 g3 g4 g5 g6 g7 g8
    have e0 : ρ 0 = x0 := hx 0 (by decide)
    have e1 : ρ 1 = x1 := hx 1 (by decide)
    subst e0
    subst e1
    have g7 := g7 (by decide)
    match Lc, stc, g7, g8 with
    | [v0, v1, v2, v3], [], ⟨hv0, hv1, hv2, hv3, _⟩, _ =>
      cases hv0
      cases hv1
      cases hv2
      exact l0 τ ρ v3 hv3 g1 g2 g3 g4 g5 g6
set_option maxRecDepth 100000 in
theorem qf_g58 {σ : pm_S} {Q : Option Value → pm_S → Prop} (x0 x1 : Int) (v2 : Value) (v3 : Value) (hv2 : v2.category = 1) (hv3 : v3.category = 1) (hB : an_GB pm_B σ) (eF : (0 ≤ x0 ∧ x0 ≤ 1) ∧ (0 ≤ x1 ∧ x1 ≤ 9998) ∧ True) (eC : (σ.1 93 19).toInt = x1 ∧ True)
    (l0 : ∀ (τ : pm_S) (y : Nat → Int) (v3 : Value), v3.category = 1 → an_GB pm_B τ → FQ [(93, 19)] σ τ → ((0 ≤ x0 ∧ x0 ≤ 1) ∧ (0 ≤ x1 ∧ x1 ≤ 9998) ∧ True) → (True) → (True) → ((τ.1 93 19).toInt = x1 + 1 ∧ True) → Ok 210 40 66 [.ref 93, .int (Int32.ofInt (x0)), .int (Int32.ofInt 0), v3] [] τ Q)
    : Ok 210 40 58 [.ref 93, .int (Int32.ofInt (x0)), v2, v3] [] σ Q := by
  refine an_seg (B := pm_B) (F := [(93, 19)]) (T := []) (S := []) (fun _ h => absurd h List.not_mem_nil) (k := 210) (d := 39) (cs := [66]) 10 58 2 [(0, 0, 1), (1, 0, 9998)] [(93, (1, 0, 19), (0, 1, 0))] [(2, 93, 0), (0, 0, 0), (5, 0, 0), (5, 0, 0)] [] [(66, [(2, 93, 0), (0, 0, 0), (1, 0, 0), (5, 0, 0)], [], [(0, 0, 1), (1, 0, 9998)], [], [], [(93, (1, 0, 19), (0, 1, 1))])] (by decide +kernel) (ρ0 := (fun s => [x0, x1].getD s 0)) hB eF eC ⟨rfl, ⟨rfl, ⟨hv2, ⟨hv3, trivial⟩⟩⟩⟩ trivial ?_
  refine List.forall_mem_cons.mpr ⟨?_, fun _ h => absurd h List.not_mem_nil⟩
  · intro ρ τ Lc stc hx g1 g2 g3 g4 g5 g6 g7 g8
    have e0 : ρ 0 = x0 := hx 0 (by decide)
    have e1 : ρ 1 = x1 := hx 1 (by decide)
    subst e0
    subst e1
    have g7 := g7 (by decide)
    match Lc, stc, g7, g8 with
    | [v0, v1, v2, v3], [], ⟨hv0, hv1, hv2, hv3, _⟩, _ =>
      cases hv0
      cases hv1
      cases hv2
      exact l0 τ ρ v3 hv3 g1 g2 g3 g4 g5 g6
set_option maxRecDepth 100000 in
theorem qf_g66 {σ : pm_S} {Q : Option Value → pm_S → Prop} (x0 x1 x2 : Int) (v3 : Value) (hv3 : v3.category = 1) (hB : an_GB pm_B σ) (eF : (0 ≤ x0 ∧ x0 ≤ 1) ∧ (0 ≤ x1 ∧ x1 ≤ 30) ∧ (0 ≤ x2 ∧ x2 ≤ 30) ∧ True) (eC : (σ.1 93 11).toInt = x2 ∧ True)
    (l0 : ∀ (τ : pm_S) (y : Nat → Int) (v3 : Value), v3.category = 1 → an_GB pm_B τ → FQ [] σ τ → ((0 ≤ x0 ∧ x0 ≤ 1) ∧ (0 ≤ x1 ∧ x1 ≤ 30) ∧ (0 ≤ x2 ∧ x2 ≤ 30) ∧ True) → (True) → (True) → ((τ.1 93 11).toInt = x2 ∧ True) → Ok 210 40 69 [.ref 93, .int (Int32.ofInt (x0)), .int (Int32.ofInt (x1)), v3] [.int (Int32.ofInt (x2)), .int (Int32.ofInt (x1))] τ Q)
    : Ok 210 40 66 [.ref 93, .int (Int32.ofInt (x0)), .int (Int32.ofInt (x1)), v3] [] σ Q := by
  refine an_seg (B := pm_B) (F := []) (T := []) (S := []) (fun _ h => absurd h List.not_mem_nil) (k := 210) (d := 39) (cs := [69]) 5 66 3 [(0, 0, 1), (1, 0, 30), (2, 0, 30)] [(93, (1, 0, 11), (0, 2, 0))] [(2, 93, 0), (0, 0, 0), (0, 1, 0), (5, 0, 0)] [] [(69, [(2, 93, 0), (0, 0, 0), (0, 1, 0), (5, 0, 0)], [(0, 2, 0), (0, 1, 0)], [(0, 0, 1), (1, 0, 30), (2, 0, 30)], [], [], [(93, (1, 0, 11), (0, 2, 0))])] (by decide +kernel) (ρ0 := (fun s => [x0, x1, x2].getD s 0)) hB eF eC ⟨rfl, ⟨rfl, ⟨rfl, ⟨hv3, trivial⟩⟩⟩⟩ trivial ?_
  refine List.forall_mem_cons.mpr ⟨?_, fun _ h => absurd h List.not_mem_nil⟩
  · intro ρ τ Lc stc hx g1 g2 g3 g4 g5 g6 g7 g8
    have e0 : ρ 0 = x0 := hx 0 (by decide)
    have e1 : ρ 1 = x1 := hx 1 (by decide)
    have e2 : ρ 2 = x2 := hx 2 (by decide)
    subst e0
    subst e1
    subst e2
    have g7 := g7 (by decide)
    match Lc, stc, g7, g8 with
    | [v0, v1, v2, v3], [w0, w1], ⟨hv0, hv1, hv2, hv3, _⟩, ⟨hw0, hw1, _⟩ =>
      cases hv0
      cases hv1
      cases hv2
      cases hw0
      cases hw1
      exact l0 τ ρ v3 hv3 g1 g2 g3 g4 g5 g6
set_option maxRecDepth 100000 in
theorem qf_g70 {σ : pm_S} {Q : Option Value → pm_S → Prop} (x0 x1 x2 x3 x4 x5 x6 x7 : Int) (v3 : Value) (hv3 : v3.category = 1) (hB : an_GB pm_B σ) (eF : (0 ≤ x0 ∧ x0 ≤ 1) ∧ (0 ≤ x1 ∧ x1 ≤ 29) ∧ ((-2147483648) ≤ x2 ∧ x2 ≤ 2147483647) ∧ (0 ≤ x3 ∧ x3 ≤ 10000) ∧ ((-2147483648) ≤ x4 ∧ x4 ≤ 2147483647) ∧ (1 ≤ x5 ∧ x5 ≤ 52) ∧ (0 ≤ x6 ∧ x6 ≤ 99999) ∧ (0 ≤ x7 ∧ x7 ≤ 99) ∧ True) (eC : (σ.1 107 (x1).toNat).toInt = x2 ∧ (σ.1 93 19).toInt = x3 ∧ (σ.1 105 (x1).toNat).toInt = x4 ∧ (σ.1 108 3).toInt = x5 ∧ (σ.1 103 (x1).toNat).toInt = x6 ∧ (σ.1 108 1).toInt = x7 ∧ True)
    (l0 : ∀ (τ : pm_S) (y : Nat → Int) (v3 : Value), v3.category = 1 → an_GB pm_B τ → FQ [] σ τ → ((0 ≤ x0 ∧ x0 ≤ 1) ∧ (0 ≤ x1 ∧ x1 ≤ 29) ∧ ((-2147483648) ≤ x2 ∧ x2 ≤ 2147483647) ∧ (0 ≤ x3 ∧ x3 ≤ 10000) ∧ ((-2147483648) ≤ x4 ∧ x4 ≤ 2147483647) ∧ (1 ≤ x5 ∧ x5 ≤ 52) ∧ (0 ≤ x6 ∧ x6 ≤ 99999) ∧ (0 ≤ x7 ∧ x7 ≤ 99) ∧ True) → (x2 ≠ 0 ∧ True) → (True) → ((τ.1 93 19).toInt = x3 ∧ (τ.1 103 (x1).toNat).toInt = x6 ∧ (τ.1 105 (x1).toNat).toInt = x4 ∧ (τ.1 107 (x1).toNat).toInt = x2 ∧ (τ.1 108 1).toInt = x7 ∧ (τ.1 108 3).toInt = x5 ∧ True) → Ok 210 40 66 [.ref 93, .int (Int32.ofInt (x0)), .int (Int32.ofInt (x1 + 1)), v3] [] τ Q)
    (l1 : ∀ (τ : pm_S) (y : Nat → Int), an_GB pm_B τ → FQ [] σ τ → ((0 ≤ x0 ∧ x0 ≤ 1) ∧ (0 ≤ x1 ∧ x1 ≤ 29) ∧ (0 ≤ x2 ∧ x2 ≤ 0) ∧ (0 ≤ x3 ∧ x3 ≤ 10000) ∧ ((-2147483648) ≤ x4 ∧ x4 ≤ 2147483647) ∧ (1 ≤ x5 ∧ x5 ≤ 52) ∧ (0 ≤ x6 ∧ x6 ≤ 99999) ∧ (0 ≤ x7 ∧ x7 ≤ 99) ∧ ((-2147483648) ≤ y 8 ∧ y 8 ≤ 2147483647) ∧ (0 ≤ y 9 ∧ y 9 ≤ 0) ∧ (0 ≤ y 10 ∧ y 10 ≤ 9899901) ∧ (0 ≤ y 11 ∧ y 11 ≤ 98999) ∧ (99999 ≤ y 12 ∧ y 12 ≤ 198998) ∧ True) → (y 9 ≤ x5 + (-1) ∧ (y 9).natAbs < (x5).natAbs ∧ True) → ((an_f 1 (Int32.ofInt (x3)) (Int32.ofInt (x4))).toInt = y 8 ∧ (an_f 10 (Int32.ofInt (y 8)) (Int32.ofInt (x5))).toInt = y 9 ∧ (an_f 2 (Int32.ofInt (x6)) (Int32.ofInt (x7))).toInt = y 10 ∧ (an_f 9 (Int32.ofInt (y 10)) (Int32.ofInt (100))).toInt = y 11 ∧ (an_f 0 (Int32.ofInt (x6)) (Int32.ofInt (y 11))).toInt = y 12 ∧ True) → ((τ.1 93 19).toInt = x3 ∧ (τ.1 103 (x1).toNat).toInt = x6 ∧ (τ.1 105 (x1).toNat).toInt = x4 ∧ (τ.1 107 (x1).toNat).toInt = x2 ∧ (τ.1 108 1).toInt = x7 ∧ (τ.1 108 3).toInt = x5 ∧ True) → Ok 210 40 114 [.ref 93, .int (Int32.ofInt (x0)), .int (Int32.ofInt (x1)), .int (Int32.ofInt (y 12))] [.int (Int32.ofInt 99999), .int (Int32.ofInt (x1)), .ref 103] τ Q)
    (l2 : ∀ (τ : pm_S) (y : Nat → Int), an_GB pm_B τ → FQ [] σ τ → ((0 ≤ x0 ∧ x0 ≤ 1) ∧ (0 ≤ x1 ∧ x1 ≤ 29) ∧ (0 ≤ x2 ∧ x2 ≤ 0) ∧ (0 ≤ x3 ∧ x3 ≤ 10000) ∧ ((-2147483648) ≤ x4 ∧ x4 ≤ 2147483647) ∧ (1 ≤ x5 ∧ x5 ≤ 52) ∧ (0 ≤ x6 ∧ x6 ≤ 99999) ∧ (0 ≤ x7 ∧ x7 ≤ 99) ∧ ((-2147483648) ≤ y 8 ∧ y 8 ≤ 2147483647) ∧ (0 ≤ y 9 ∧ y 9 ≤ 0) ∧ (0 ≤ y 10 ∧ y 10 ≤ 9899901) ∧ (0 ≤ y 11 ∧ y 11 ≤ 98999) ∧ (0 ≤ y 12 ∧ y 12 ≤ 99998) ∧ True) → (y 9 ≤ x5 + (-1) ∧ (y 9).natAbs < (x5).natAbs ∧ True) → ((an_f 1 (Int32.ofInt (x3)) (Int32.ofInt (x4))).toInt = y 8 ∧ (an_f 10 (Int32.ofInt (y 8)) (Int32.ofInt (x5))).toInt = y 9 ∧ (an_f 2 (Int32.ofInt (x6)) (Int32.ofInt (x7))).toInt = y 10 ∧ (an_f 9 (Int32.ofInt (y 10)) (Int32.ofInt (100))).toInt = y 11 ∧ (an_f 0 (Int32.ofInt (x6)) (Int32.ofInt (y 11))).toInt = y 12 ∧ True) → ((τ.1 93 19).toInt = x3 ∧ (τ.1 103 (x1).toNat).toInt = x6 ∧ (τ.1 105 (x1).toNat).toInt = x4 ∧ (τ.1 107 (x1).toNat).toInt = x2 ∧ (τ.1 108 1).toInt = x7 ∧ (τ.1 108 3).toInt = x5 ∧ True) → Ok 210 40 114 [.ref 93, .int (Int32.ofInt (x0)), .int (Int32.ofInt (x1)), .int (Int32.ofInt (y 12))] [.int (Int32.ofInt (y 12)), .int (Int32.ofInt (x1)), .ref 103] τ Q)
    (l3 : ∀ (τ : pm_S) (y : Nat → Int) (v3 : Value), v3.category = 1 → an_GB pm_B τ → FQ [] σ τ → ((0 ≤ x0 ∧ x0 ≤ 1) ∧ (0 ≤ x1 ∧ x1 ≤ 29) ∧ (0 ≤ x2 ∧ x2 ≤ 0) ∧ (0 ≤ x3 ∧ x3 ≤ 10000) ∧ ((-2147483648) ≤ x4 ∧ x4 ≤ 2147483647) ∧ (1 ≤ x5 ∧ x5 ≤ 52) ∧ (0 ≤ x6 ∧ x6 ≤ 99999) ∧ (0 ≤ x7 ∧ x7 ≤ 99) ∧ ((-2147483648) ≤ y 8 ∧ y 8 ≤ 2147483647) ∧ ((-51) ≤ y 9 ∧ y 9 ≤ 51) ∧ True) → (y 9 ≠ 0 ∧ y 9 ≤ x5 + (-1) ∧ (y 9).natAbs < (x5).natAbs ∧ True) → ((an_f 1 (Int32.ofInt (x3)) (Int32.ofInt (x4))).toInt = y 8 ∧ (an_f 10 (Int32.ofInt (y 8)) (Int32.ofInt (x5))).toInt = y 9 ∧ True) → ((τ.1 93 19).toInt = x3 ∧ (τ.1 103 (x1).toNat).toInt = x6 ∧ (τ.1 105 (x1).toNat).toInt = x4 ∧ (τ.1 107 (x1).toNat).toInt = x2 ∧ (τ.1 108 1).toInt = x7 ∧ (τ.1 108 3).toInt = x5 ∧ True) → Ok 210 40 66 [.ref 93, .int (Int32.ofInt (x0)), .int (Int32.ofInt (x1 + 1)), v3] [] τ Q)
    : Ok 210 40 70 [.ref 93, .int (Int32.ofInt (x0)), .int (Int32.ofInt (x1)), v3] [] σ Q := by
  refine an_seg (B := pm_B) (F := []) (T := [103, 105, 107]) (S := []) (fun _ h => absurd h List.not_mem_nil) (k := 210) (d := 39) (cs := [66, 114]) 52 70 8 [(0, 0, 1), (1, 0, 29), (2, (-2147483648), 2147483647), (3, 0, 10000), (4, (-2147483648), 2147483647), (5, 1, 52), (6, 0, 99999), (7, 0, 99)] [(107, (0, 1, 0), (0, 2, 0)), (93, (1, 0, 19), (0, 3, 0)), (105, (0, 1, 0), (0, 4, 0)), (108, (1, 0, 3), (0, 5, 0)), (103, (0, 1, 0), (0, 6, 0)), (108, (1, 0, 1), (0, 7, 0))] [(2, 93, 0), (0, 0, 0), (0, 1, 0), (5, 0, 0)] [] [(66, [(2, 93, 0), (0, 0, 0), (0, 1, 1), (5, 0, 0)], [], [(0, 0, 1), (1, 0, 29), (2, (-2147483648), 2147483647), (3, 0, 10000), (4, (-2147483648), 2147483647), (5, 1, 52), (6, 0, 99999), (7, 0, 99)], [(3, 2, 2, 0)], [], [(93, (1, 0, 19), (0, 3, 0)), (103, (0, 1, 0), (0, 6, 0)), (105, (0, 1, 0), (0, 4, 0)), (107, (0, 1, 0), (0, 2, 0)), (108, (1, 0, 1), (0, 7, 0)), (108, (1, 0, 3), (0, 5, 0))]),
    (114, [(2, 93, 0), (0, 0, 0), (0, 1, 0), (0, 12, 0)], [(1, 0, 99999), (0, 1, 0), (2, 103, 0)], [(0, 0, 1), (1, 0, 29), (2, 0, 0), (3, 0, 10000), (4, (-2147483648), 2147483647), (5, 1, 52), (6, 0, 99999), (7, 0, 99), (8, (-2147483648), 2147483647), (9, 0, 0), (10, 0, 9899901), (11, 0, 98999), (12, 99999, 198998)], [(1, 9, 5, (-1)), (2, 9, 5, 0)], [(1, (0, 3, 0), (0, 4, 0), 8), (10, (0, 8, 0), (0, 5, 0), 9), (2, (0, 6, 0), (0, 7, 0), 10), (9, (0, 10, 0), (1, 0, 100), 11), (0, (0, 6, 0), (0, 11, 0), 12)], [(93, (1, 0, 19), (0, 3, 0)), (103, (0, 1, 0), (0, 6, 0)), (105, (0, 1, 0), (0, 4, 0)), (107, (0, 1, 0), (0, 2, 0)), (108, (1, 0, 1), (0, 7, 0)), (108, (1, 0, 3), (0, 5, 0))]),
    (114, [(2, 93, 0), (0, 0, 0), (0, 1, 0), (0, 12, 0)], [(0, 12, 0), (0, 1, 0), (2, 103, 0)], [(0, 0, 1), (1, 0, 29), (2, 0, 0), (3, 0, 10000), (4, (-2147483648), 2147483647), (5, 1, 52), (6, 0, 99999), (7, 0, 99), (8, (-2147483648), 2147483647), (9, 0, 0), (10, 0, 9899901), (11, 0, 98999), (12, 0, 99998)], [(1, 9, 5, (-1)), (2, 9, 5, 0)], [(1, (0, 3, 0), (0, 4, 0), 8), (10, (0, 8, 0), (0, 5, 0), 9), (2, (0, 6, 0), (0, 7, 0), 10), (9, (0, 10, 0), (1, 0, 100), 11), (0, (0, 6, 0), (0, 11, 0), 12)], [(93, (1, 0, 19), (0, 3, 0)), (103, (0, 1, 0), (0, 6, 0)), (105, (0, 1, 0), (0, 4, 0)), (107, (0, 1, 0), (0, 2, 0)), (108, (1, 0, 1), (0, 7, 0)), (108, (1, 0, 3), (0, 5, 0))]),
    (66, [(2, 93, 0), (0, 0, 0), (0, 1, 1), (5, 0, 0)], [], [(0, 0, 1), (1, 0, 29), (2, 0, 0), (3, 0, 10000), (4, (-2147483648), 2147483647), (5, 1, 52), (6, 0, 99999), (7, 0, 99), (8, (-2147483648), 2147483647), (9, (-51), 51)], [(3, 9, 9, 0), (1, 9, 5, (-1)), (2, 9, 5, 0)], [(1, (0, 3, 0), (0, 4, 0), 8), (10, (0, 8, 0), (0, 5, 0), 9)], [(93, (1, 0, 19), (0, 3, 0)), (103, (0, 1, 0), (0, 6, 0)), (105, (0, 1, 0), (0, 4, 0)), (107, (0, 1, 0), (0, 2, 0)), (108, (1, 0, 1), (0, 7, 0)), (108, (1, 0, 3), (0, 5, 0))])] (by decide +kernel) (ρ0 := (fun s => [x0, x1, x2, x3, x4, x5, x6, x7].getD s 0)) hB eF eC ⟨rfl, ⟨rfl, ⟨rfl, ⟨hv3, trivial⟩⟩⟩⟩ trivial ?_
  refine List.forall_mem_cons.mpr ⟨?_, List.forall_mem_cons.mpr ⟨?_, List.forall_mem_cons.mpr ⟨?_, List.forall_mem_cons.mpr ⟨?_, fun _ h => absurd h List.not_mem_nil⟩⟩⟩⟩
  · intro ρ τ Lc stc hx g1 g2 g3 g4 g5 g6 g7 g8
    have e0 : ρ 0 = x0 := hx 0 (by decide)
    have e1 : ρ 1 = x1 := hx 1 (by decide)
    have e2 : ρ 2 = x2 := hx 2 (by decide)
    have e3 : ρ 3 = x3 := hx 3 (by decide)
    have e4 : ρ 4 = x4 := hx 4 (by decide)
    have e5 : ρ 5 = x5 := hx 5 (by decide)
    have e6 : ρ 6 = x6 := hx 6 (by decide)
    have e7 : ρ 7 = x7 := hx 7 (by decide)
    subst e0
    subst e1
    subst e2
    subst e3
    subst e4
    subst e5
    subst e6
    subst e7
    have g7 := g7 (by decide)
    match Lc, stc, g7, g8 with
    | [v0, v1, v2, v3], [], ⟨hv0, hv1, hv2, hv3, _⟩, _ =>
      cases hv0
      cases hv1
      cases hv2
      exact l0 τ ρ v3 hv3 g1 g2 g3 g4 g5 g6
  · intro ρ τ Lc stc hx g1 g2 g3 g4 g5 g6 g7 g8
    have e0 : ρ 0 = x0 := hx 0 (by decide)
    have e1 : ρ 1 = x1 := hx 1 (by decide)
    have e2 : ρ 2 = x2 := hx 2 (by decide)
    have e3 : ρ 3 = x3 := hx 3 (by decide)
    have e4 : ρ 4 = x4 := hx 4 (by decide)
    have e5 : ρ 5 = x5 := hx 5 (by decide)
    have e6 : ρ 6 = x6 := hx 6 (by decide)
    have e7 : ρ 7 = x7 := hx 7 (by decide)
    subst e0
    subst e1
    subst e2
    subst e3
    subst e4
    subst e5
    subst e6
    subst e7
    have g7 := g7 (by decide)
    match Lc, stc, g7, g8 with
    | [v0, v1, v2, v3], [w0, w1, w2], ⟨hv0, hv1, hv2, hv3, _⟩, ⟨hw0, hw1, hw2, _⟩ =>
      cases hv0
      cases hv1
      cases hv2
      cases hv3
      cases hw0
      cases hw1
      cases hw2
      exact l1 τ ρ  g1 g2 g3 g4 g5 g6
  · intro ρ τ Lc stc hx g1 g2 g3 g4 g5 g6 g7 g8
    have e0 : ρ 0 = x0 := hx 0 (by decide)
    have e1 : ρ 1 = x1 := hx 1 (by decide)
    have e2 : ρ 2 = x2 := hx 2 (by decide)
    have e3 : ρ 3 = x3 := hx 3 (by decide)
    have e4 : ρ 4 = x4 := hx 4 (by decide)
    have e5 : ρ 5 = x5 := hx 5 (by decide)
    have e6 : ρ 6 = x6 := hx 6 (by decide)
    have e7 : ρ 7 = x7 := hx 7 (by decide)
    subst e0
    subst e1
    subst e2
    subst e3
    subst e4
    subst e5
    subst e6
    subst e7
    have g7 := g7 (by decide)
    match Lc, stc, g7, g8 with
    | [v0, v1, v2, v3], [w0, w1, w2], ⟨hv0, hv1, hv2, hv3, _⟩, ⟨hw0, hw1, hw2, _⟩ =>
      cases hv0
      cases hv1
      cases hv2
      cases hv3
      cases hw0
      cases hw1
      cases hw2
      exact l2 τ ρ  g1 g2 g3 g4 g5 g6
  · intro ρ τ Lc stc hx g1 g2 g3 g4 g5 g6 g7 g8
    have e0 : ρ 0 = x0 := hx 0 (by decide)
    have e1 : ρ 1 = x1 := hx 1 (by decide)
    have e2 : ρ 2 = x2 := hx 2 (by decide)
    have e3 : ρ 3 = x3 := hx 3 (by decide)
    have e4 : ρ 4 = x4 := hx 4 (by decide)
    have e5 : ρ 5 = x5 := hx 5 (by decide)
    have e6 : ρ 6 = x6 := hx 6 (by decide)
    have e7 : ρ 7 = x7 := hx 7 (by decide)
    subst e0
    subst e1
    subst e2
    subst e3
    subst e4
    subst e5
    subst e6
    subst e7
    have g7 := g7 (by decide)
    match Lc, stc, g7, g8 with
    | [v0, v1, v2, v3], [], ⟨hv0, hv1, hv2, hv3, _⟩, _ =>
      cases hv0
      cases hv1
      cases hv2
      exact l3 τ ρ v3 hv3 g1 g2 g3 g4 g5 g6
set_option maxRecDepth 100000 in
theorem qf_g115 {σ : pm_S} {Q : Option Value → pm_S → Prop} (x0 x1 : Int) (v3 : Value) (hv3 : v3.category = 1) (hB : an_GB pm_B σ) (eF : (0 ≤ x0 ∧ x0 ≤ 1) ∧ (0 ≤ x1 ∧ x1 ≤ 29) ∧ True)
    (l0 : ∀ (τ : pm_S) (y : Nat → Int) (v3 : Value), v3.category = 1 → an_GB pm_B τ → FQ [] σ τ → ((0 ≤ x0 ∧ x0 ≤ 1) ∧ (0 ≤ x1 ∧ x1 ≤ 29) ∧ True) → (True) → (True) → (True) → Ok 210 40 66 [.ref 93, .int (Int32.ofInt (x0)), .int (Int32.ofInt (x1 + 1)), v3] [] τ Q)
    : Ok 210 40 115 [.ref 93, .int (Int32.ofInt (x0)), .int (Int32.ofInt (x1)), v3] [] σ Q := by
  refine an_seg (B := pm_B) (F := []) (T := []) (S := []) (fun _ h => absurd h List.not_mem_nil) (k := 210) (d := 39) (cs := [66]) 4 115 2 [(0, 0, 1), (1, 0, 29)] [] [(2, 93, 0), (0, 0, 0), (0, 1, 0), (5, 0, 0)] [] [(66, [(2, 93, 0), (0, 0, 0), (0, 1, 1), (5, 0, 0)], [], [(0, 0, 1), (1, 0, 29)], [], [], [])] (by decide +kernel) (ρ0 := (fun s => [x0, x1].getD s 0)) hB eF trivial ⟨rfl, ⟨rfl, ⟨rfl, ⟨hv3, trivial⟩⟩⟩⟩ trivial ?_
  refine List.forall_mem_cons.mpr ⟨?_, fun _ h => absurd h List.not_mem_nil⟩
  · intro ρ τ Lc stc hx g1 g2 g3 g4 g5 g6 g7 g8
    have e0 : ρ 0 = x0 := hx 0 (by decide)
    have e1 : ρ 1 = x1 := hx 1 (by decide)
    subst e0
    subst e1
    have g7 := g7 (by decide)
    match Lc, stc, g7, g8 with
    | [v0, v1, v2, v3], [], ⟨hv0, hv1, hv2, hv3, _⟩, _ =>
      cases hv0
      cases hv1
      cases hv2
      exact l0 τ ρ v3 hv3 g1 g2 g3 g4 g5 g6
set_option maxRecDepth 100000 in
theorem qf_g117 {σ : pm_S} {Q : Option Value → pm_S → Prop} (x0 : Int) (v2 : Value) (v3 : Value) (hv2 : v2.category = 1) (hv3 : v3.category = 1) (hB : an_GB pm_B σ) (eF : (0 ≤ x0 ∧ x0 ≤ 1) ∧ True)
    (l0 : ∀ (τ : pm_S) (y : Nat → Int) (v3 : Value), v3.category = 1 → an_GB pm_B τ → FQ [] σ τ → ((0 ≤ x0 ∧ x0 ≤ 1) ∧ True) → (True) → (True) → (True) → Ok 210 40 119 [.ref 93, .int (Int32.ofInt (x0)), .int (Int32.ofInt 0), v3] [] τ Q)
    : Ok 210 40 117 [.ref 93, .int (Int32.ofInt (x0)), v2, v3] [] σ Q := by
  refine an_seg (B := pm_B) (F := []) (T := []) (S := []) (fun _ h => absurd h List.not_mem_nil) (k := 210) (d := 39) (cs := [119]) 4 117 1 [(0, 0, 1)] [] [(2, 93, 0), (0, 0, 0), (5, 0, 0), (5, 0, 0)] [] [(119, [(2, 93, 0), (0, 0, 0), (1, 0, 0), (5, 0, 0)], [], [(0, 0, 1)], [], [], [])] (by decide +kernel) (ρ0 := (fun s => [x0].getD s 0)) hB eF trivial ⟨rfl, ⟨rfl, ⟨hv2, ⟨hv3, trivial⟩⟩⟩⟩ trivial ?_
  refine List.forall_mem_cons.mpr ⟨?_, fun _ h => absurd h List.not_mem_nil⟩
  · intro ρ τ Lc stc hx g1 g2 g3 g4 g5 g6 g7 g8
    have e0 : ρ 0 = x0 := hx 0 (by decide)
    subst e0
    have g7 := g7 (by decide)
    match Lc, stc, g7, g8 with
    | [v0, v1, v2, v3], [], ⟨hv0, hv1, hv2, hv3, _⟩, _ =>
      cases hv0
      cases hv1
      cases hv2
      exact l0 τ ρ v3 hv3 g1 g2 g3 g4 g5 g6
set_option maxRecDepth 100000 in
theorem qf_g119 {σ : pm_S} {Q : Option Value → pm_S → Prop} (x0 x1 x2 : Int) (v3 : Value) (hv3 : v3.category = 1) (hB : an_GB pm_B σ) (eF : (0 ≤ x0 ∧ x0 ≤ 1) ∧ (0 ≤ x1 ∧ x1 ≤ 10) ∧ (0 ≤ x2 ∧ x2 ≤ 10) ∧ True) (eC : (σ.1 93 5).toInt = x2 ∧ True)
    (l0 : ∀ (τ : pm_S) (y : Nat → Int) (v3 : Value), v3.category = 1 → an_GB pm_B τ → FQ [] σ τ → ((0 ≤ x0 ∧ x0 ≤ 1) ∧ (0 ≤ x1 ∧ x1 ≤ 10) ∧ (0 ≤ x2 ∧ x2 ≤ 10) ∧ True) → (True) → (True) → ((τ.1 93 5).toInt = x2 ∧ True) → Ok 210 40 122 [.ref 93, .int (Int32.ofInt (x0)), .int (Int32.ofInt (x1)), v3] [.int (Int32.ofInt (x2)), .int (Int32.ofInt (x1))] τ Q)
    : Ok 210 40 119 [.ref 93, .int (Int32.ofInt (x0)), .int (Int32.ofInt (x1)), v3] [] σ Q := by
  refine an_seg (B := pm_B) (F := []) (T := []) (S := []) (fun _ h => absurd h List.not_mem_nil) (k := 210) (d := 39) (cs := [122]) 5 119 3 [(0, 0, 1), (1, 0, 10), (2, 0, 10)] [(93, (1, 0, 5), (0, 2, 0))] [(2, 93, 0), (0, 0, 0), (0, 1, 0), (5, 0, 0)] [] [(122, [(2, 93, 0), (0, 0, 0), (0, 1, 0), (5, 0, 0)], [(0, 2, 0), (0, 1, 0)], [(0, 0, 1), (1, 0, 10), (2, 0, 10)], [], [], [(93, (1, 0, 5), (0, 2, 0))])] (by decide +kernel) (ρ0 := (fun s => [x0, x1, x2].getD s 0)) hB eF eC ⟨rfl, ⟨rfl, ⟨rfl, ⟨hv3, trivial⟩⟩⟩⟩ trivial ?_
  refine List.forall_mem_cons.mpr ⟨?_, fun _ h => absurd h List.not_mem_nil⟩
  · intro ρ τ Lc stc hx g1 g2 g3 g4 g5 g6 g7 g8
    have e0 : ρ 0 = x0 := hx 0 (by decide)
    have e1 : ρ 1 = x1 := hx 1 (by decide)
    have e2 : ρ 2 = x2 := hx 2 (by decide)
    subst e0
    subst e1
    subst e2
    have g7 := g7 (by decide)
    match Lc, stc, g7, g8 with
    | [v0, v1, v2, v3], [w0, w1], ⟨hv0, hv1, hv2, hv3, _⟩, ⟨hw0, hw1, _⟩ =>
      cases hv0
      cases hv1
      cases hv2
      cases hw0
      cases hw1
      exact l0 τ ρ v3 hv3 g1 g2 g3 g4 g5 g6
set_option maxRecDepth 100000 in
theorem qf_g123 {σ : pm_S} {Q : Option Value → pm_S → Prop} (x0 x1 x2 : Int) (v3 : Value) (hv3 : v3.category = 1) (hB : an_GB pm_B σ) (eF : (0 ≤ x0 ∧ x0 ≤ 1) ∧ (0 ≤ x1 ∧ x1 ≤ 9) ∧ (0 ≤ x2 ∧ x2 ≤ 9) ∧ True) (eC : (σ.1 96 (x1).toNat).toInt = x2 ∧ True)
    (l0 : ∀ (τ : pm_S) (y : Nat → Int) (v3 : Value), v3.category = 1 → an_GB pm_B τ → FQ [] σ τ → ((0 ≤ x0 ∧ x0 ≤ 1) ∧ (0 ≤ x1 ∧ x1 ≤ 9) ∧ (0 ≤ x2 ∧ x2 ≤ 9) ∧ True) → (True) → (True) → ((τ.1 96 (x1).toNat).toInt = x2 ∧ True) → Ok 210 40 130 [.ref 93, .int (Int32.ofInt (x0)), .int (Int32.ofInt (x1)), v3] [.int (Int32.ofInt (x2)), .int (Int32.ofInt (x1)), .ref 99] τ Q)
    : Ok 210 40 123 [.ref 93, .int (Int32.ofInt (x0)), .int (Int32.ofInt (x1)), v3] [] σ Q := by
  refine an_seg (B := pm_B) (F := []) (T := [96]) (S := []) (fun _ h => absurd h List.not_mem_nil) (k := 210) (d := 39) (cs := [130]) 9 123 3 [(0, 0, 1), (1, 0, 9), (2, 0, 9)] [(96, (0, 1, 0), (0, 2, 0))] [(2, 93, 0), (0, 0, 0), (0, 1, 0), (5, 0, 0)] [] [(130, [(2, 93, 0), (0, 0, 0), (0, 1, 0), (5, 0, 0)], [(0, 2, 0), (0, 1, 0), (2, 99, 0)], [(0, 0, 1), (1, 0, 9), (2, 0, 9)], [], [], [(96, (0, 1, 0), (0, 2, 0))])] (by decide +kernel) (ρ0 := (fun s => [x0, x1, x2].getD s 0)) hB eF eC ⟨rfl, ⟨rfl, ⟨rfl, ⟨hv3, trivial⟩⟩⟩⟩ trivial ?_
  refine List.forall_mem_cons.mpr ⟨?_, fun _ h => absurd h List.not_mem_nil⟩
  · intro ρ τ Lc stc hx g1 g2 g3 g4 g5 g6 g7 g8
    have e0 : ρ 0 = x0 := hx 0 (by decide)
    have e1 : ρ 1 = x1 := hx 1 (by decide)
    have e2 : ρ 2 = x2 := hx 2 (by decide)
    subst e0
    subst e1
    subst e2
    have g7 := g7 (by decide)
    match Lc, stc, g7, g8 with
    | [v0, v1, v2, v3], [w0, w1, w2], ⟨hv0, hv1, hv2, hv3, _⟩, ⟨hw0, hw1, hw2, _⟩ =>
      cases hv0
      cases hv1
      cases hv2
      cases hw0
      cases hw1
      cases hw2
      exact l0 τ ρ v3 hv3 g1 g2 g3 g4 g5 g6
set_option maxRecDepth 100000 in
theorem qf_g131 {σ : pm_S} {Q : Option Value → pm_S → Prop} (x0 x1 : Int) (v3 : Value) (hv3 : v3.category = 1) (hB : an_GB pm_B σ) (eF : (0 ≤ x0 ∧ x0 ≤ 1) ∧ (0 ≤ x1 ∧ x1 ≤ 9) ∧ True)
    (l0 : ∀ (τ : pm_S) (y : Nat → Int) (v3 : Value), v3.category = 1 → an_GB pm_B τ → FQ [] σ τ → ((0 ≤ x0 ∧ x0 ≤ 1) ∧ (0 ≤ x1 ∧ x1 ≤ 9) ∧ True) → (True) → (True) → (True) → Ok 210 40 119 [.ref 93, .int (Int32.ofInt (x0)), .int (Int32.ofInt (x1 + 1)), v3] [] τ Q)
    : Ok 210 40 131 [.ref 93, .int (Int32.ofInt (x0)), .int (Int32.ofInt (x1)), v3] [] σ Q := by
  refine an_seg (B := pm_B) (F := []) (T := []) (S := []) (fun _ h => absurd h List.not_mem_nil) (k := 210) (d := 39) (cs := [119]) 4 131 2 [(0, 0, 1), (1, 0, 9)] [] [(2, 93, 0), (0, 0, 0), (0, 1, 0), (5, 0, 0)] [] [(119, [(2, 93, 0), (0, 0, 0), (0, 1, 1), (5, 0, 0)], [], [(0, 0, 1), (1, 0, 9)], [], [], [])] (by decide +kernel) (ρ0 := (fun s => [x0, x1].getD s 0)) hB eF trivial ⟨rfl, ⟨rfl, ⟨rfl, ⟨hv3, trivial⟩⟩⟩⟩ trivial ?_
  refine List.forall_mem_cons.mpr ⟨?_, fun _ h => absurd h List.not_mem_nil⟩
  · intro ρ τ Lc stc hx g1 g2 g3 g4 g5 g6 g7 g8
    have e0 : ρ 0 = x0 := hx 0 (by decide)
    have e1 : ρ 1 = x1 := hx 1 (by decide)
    subst e0
    subst e1
    have g7 := g7 (by decide)
    match Lc, stc, g7, g8 with
    | [v0, v1, v2, v3], [], ⟨hv0, hv1, hv2, hv3, _⟩, _ =>
      cases hv0
      cases hv1
      cases hv2
      exact l0 τ ρ v3 hv3 g1 g2 g3 g4 g5 g6
set_option maxRecDepth 100000 in
theorem qf_g133 {σ : pm_S} {Q : Option Value → pm_S → Prop} (x0 x1 : Int) (v2 : Value) (v3 : Value) (hv2 : v2.category = 1) (hv3 : v3.category = 1) (hB : an_GB pm_B σ) (eF : (0 ≤ x0 ∧ x0 ≤ 1) ∧ (0 ≤ x1 ∧ x1 ≤ 1000) ∧ True) (eC : (σ.1 93 53).toInt = x1 ∧ True)
    (l0 : ∀ (τ : pm_S) (y : Nat → Int), an_GB pm_B τ → FQ [] σ τ → ((0 ≤ x0 ∧ x0 ≤ 1) ∧ (0 ≤ x1 ∧ x1 ≤ 1000) ∧ True) → (True) → (True) → ((τ.1 93 53).toInt = x1 ∧ True) → Q (some (.int (Int32.ofInt (x1)))) τ)
    : Ok 210 40 133 [.ref 93, .int (Int32.ofInt (x0)), v2, v3] [] σ Q := by
  refine an_seg (B := pm_B) (F := []) (T := []) (S := []) (fun _ h => absurd h List.not_mem_nil) (k := 210) (d := 39) (cs := []) 5 133 2 [(0, 0, 1), (1, 0, 1000)] [(93, (1, 0, 53), (0, 1, 0))] [(2, 93, 0), (0, 0, 0), (5, 0, 0), (5, 0, 0)] [] [(9999, [], [(0, 1, 0)], [(0, 0, 1), (1, 0, 1000)], [], [], [(93, (1, 0, 53), (0, 1, 0))])] (by decide +kernel) (ρ0 := (fun s => [x0, x1].getD s 0)) hB eF eC ⟨rfl, ⟨rfl, ⟨hv2, ⟨hv3, trivial⟩⟩⟩⟩ trivial ?_
  refine List.forall_mem_cons.mpr ⟨?_, fun _ h => absurd h List.not_mem_nil⟩
  · intro ρ τ Lc stc hx g1 g2 g3 g4 g5 g6 g7 g8
    have e0 : ρ 0 = x0 := hx 0 (by decide)
    have e1 : ρ 1 = x1 := hx 1 (by decide)
    subst e0
    subst e1
    match stc, g8 with
    | [_], ⟨h, _⟩ => cases h; exact l0 τ ρ g1 g2 g3 g4 g5 g6
