/-! wrong: pieces -/
set_option maxRecDepth 100000 in
theorem wzws_0 {σ : pm_S} {Q : Option Value → pm_S → Prop} (x0 x1 : Int)  (hB : an_GB pm_B σ) (eF : ((-1) ≤ x0 ∧ x0 ≤ 9) ∧ (0 ≤ x1 ∧ x1 ≤ 10) ∧ True)
    (l0 : ∀ (τ : pm_S) (y : Nat → Int), an_GB pm_B τ → FQ [] σ τ → (((-1) ≤ x0 ∧ x0 ≤ (-1)) ∧ (0 ≤ x1 ∧ x1 ≤ 10) ∧ True) → (True) → (True) → (True) → Q (some (.int (Int32.ofInt (x1)))) τ)
    (l1 : ∀ (τ : pm_S) (y : Nat → Int), an_GB pm_B τ → FQ [] σ τ → ((0 ≤ x0 ∧ x0 ≤ 9) ∧ (0 ≤ x1 ∧ x1 ≤ 10) ∧ ((-1) ≤ y 2 ∧ y 2 ≤ (-1)) ∧ True) → (True) → (True) → ((τ.1 27 (x0).toNat).toInt = y 2 ∧ True) → Ok 54 9 17 [.ref 21, .int (Int32.ofInt (x0)), .int (Int32.ofInt (x1))] [.int (Int32.ofInt (x1)), .int (Int32.ofInt (x0)), .ref 27] τ Q)
    (l2 : ∀ (τ : pm_S) (y : Nat → Int), an_GB pm_B τ → FQ [] σ τ → ((0 ≤ x0 ∧ x0 ≤ 9) ∧ (0 ≤ x1 ∧ x1 ≤ 10) ∧ ((-2147483648) ≤ y 2 ∧ y 2 ≤ 2147483647) ∧ True) → (y 2 ≠ (-1) ∧ True) → (True) → ((τ.1 27 (x0).toNat).toInt = y 2 ∧ True) → Q (some (.int (Int32.ofInt (x1)))) τ)
    : Ok 54 9 0 [.ref 21, .int (Int32.ofInt (x0)), .int (Int32.ofInt (x1))] [] σ Q := by
  refine an_seg (B := pm_B) (F := []) (T := [27]) (S := []) (fun _ h => absurd h List.not_mem_nil) (k := 54) (d := 8) (cs := [17]) 17 0 2 [(0, (-1), 9), (1, 0, 10)] [] [(2, 21, 0), (0, 0, 0), (0, 1, 0)] [] [(9999, [], [(0, 1, 0)], [(0, (-1), (-1)), (1, 0, 10)], [], [], []),
    (17, [(2, 21, 0), (0, 0, 0), (0, 1, 0)], [(0, 1, 0), (0, 0, 0), (2, 27, 0)], [(0, 0, 9), (1, 0, 10), (2, (-1), (-1))], [], [], [(27, (0, 0, 0), (0, 2, 0))]),
    (9999, [], [(0, 1, 0)], [(0, 0, 9), (1, 0, 10), (2, (-2147483648), 2147483647)], [(3, 2, 2, (-1))], [], [(27, (0, 0, 0), (0, 2, 0))])] (by decide +kernel) (ρ0 := (fun s => [x0, x1].getD s 0)) hB eF trivial ⟨rfl, ⟨rfl, ⟨rfl, trivial⟩⟩⟩ trivial ?_
  refine List.forall_mem_cons.mpr ⟨?_, List.forall_mem_cons.mpr ⟨?_, List.forall_mem_cons.mpr ⟨?_, fun _ h => absurd h List.not_mem_nil⟩⟩⟩
  · intro ρ τ Lc stc hx g1 g2 g3 g4 g5 g6 g7 g8
    have e0 : ρ 0 = x0 := hx 0 (by decide)
    have e1 : ρ 1 = x1 := hx 1 (by decide)
    subst e0
    subst e1
    match stc, g8 with
    | [_], ⟨h, _⟩ => cases h; exact l0 τ ρ g1 g2 g3 g4 g5 g6
  · intro ρ τ Lc stc hx g1 g2 g3 g4 g5 g6 g7 g8
    have e0 : ρ 0 = x0 := hx 0 (by decide)
    have e1 : ρ 1 = x1 := hx 1 (by decide)
    subst e0
    subst e1
    have g7 := g7 (by decide)
    match Lc, stc, g7, g8 with
    | [v0, v1, v2], [w0, w1, w2], ⟨hv0, hv1, hv2, _⟩, ⟨hw0, hw1, hw2, _⟩ =>
      cases hv0
      cases hv1
      cases hv2
      cases hw0
      cases hw1
      cases hw2
      exact l1 τ ρ  g1 g2 g3 g4 g5 g6
  · intro ρ τ Lc stc hx g1 g2 g3 g4 g5 g6 g7 g8
    have e0 : ρ 0 = x0 := hx 0 (by decide)
    have e1 : ρ 1 = x1 := hx 1 (by decide)
    subst e0
    subst e1
    match stc, g8 with
    | [_], ⟨h, _⟩ => cases h; exact l2 τ ρ g1 g2 g3 g4 g5 g6
set_option maxRecDepth 100000 in
theorem wzws_18 {σ : pm_S} {Q : Option Value → pm_S → Prop} (x0 x1 : Int)  (hB : an_GB pm_B σ) (eF : (0 ≤ x0 ∧ x0 ≤ 9) ∧ (0 ≤ x1 ∧ x1 ≤ 10) ∧ True)
    (l0 : ∀ (τ : pm_S) (y : Nat → Int), an_GB pm_B τ → FQ [] σ τ → ((0 ≤ x0 ∧ x0 ≤ 9) ∧ (0 ≤ x1 ∧ x1 ≤ 10) ∧ True) → (True) → (True) → (True) → Q (some (.int (Int32.ofInt (x1 + 1)))) τ)
    : Ok 54 9 18 [.ref 21, .int (Int32.ofInt (x0)), .int (Int32.ofInt (x1))] [] σ Q := by
  refine an_seg (B := pm_B) (F := []) (T := []) (S := []) (fun _ h => absurd h List.not_mem_nil) (k := 54) (d := 8) (cs := []) 6 18 2 [(0, 0, 9), (1, 0, 10)] [] [(2, 21, 0), (0, 0, 0), (0, 1, 0)] [] [(9999, [], [(0, 1, 1)], [(0, 0, 9), (1, 0, 10)], [], [], [])] (by decide +kernel) (ρ0 := (fun s => [x0, x1].getD s 0)) hB eF trivial ⟨rfl, ⟨rfl, ⟨rfl, trivial⟩⟩⟩ trivial ?_
  refine List.forall_mem_cons.mpr ⟨?_, fun _ h => absurd h List.not_mem_nil⟩
  · intro ρ τ Lc stc hx g1 g2 g3 g4 g5 g6 g7 g8
    have e0 : ρ 0 = x0 := hx 0 (by decide)
    have e1 : ρ 1 = x1 := hx 1 (by decide)
    subst e0
    subst e1
    match stc, g8 with
    | [_], ⟨h, _⟩ => cases h; exact l0 τ ρ g1 g2 g3 g4 g5 g6
set_option maxRecDepth 100000 in
theorem wzwb_0 {σ : pm_S} {Q : Option Value → pm_S → Prop} (x0 : Int)  (hB : an_GB pm_B σ) (eF : ((-1) ≤ x0 ∧ x0 ≤ 9) ∧ True)
    (l0 : ∀ (τ : pm_S) (y : Nat → Int), an_GB pm_B τ → FQ [] σ τ → (((-1) ≤ x0 ∧ x0 ≤ (-1)) ∧ True) → (True) → (True) → (True) → Q (some (.int (Int32.ofInt 0))) τ)
    (l1 : ∀ (τ : pm_S) (y : Nat → Int), an_GB pm_B τ → FQ [] σ τ → ((0 ≤ x0 ∧ x0 ≤ 9) ∧ ((-2147483648) ≤ y 1 ∧ y 1 ≤ 2147483647) ∧ ((-2147483648) ≤ y 2 ∧ y 2 ≤ 2147483647) ∧ True) → (y 1 ≠ (-1) ∧ True) → ((an_f 6 (Int32.ofInt (1)) (Int32.ofInt (y 1))).toInt = y 2 ∧ True) → ((τ.1 27 (x0).toNat).toInt = y 1 ∧ True) → Q (some (.int (Int32.ofInt (y 2)))) τ)
    (l2 : ∀ (τ : pm_S) (y : Nat → Int), an_GB pm_B τ → FQ [] σ τ → ((0 ≤ x0 ∧ x0 ≤ 9) ∧ ((-1) ≤ y 1 ∧ y 1 ≤ (-1)) ∧ True) → (True) → (True) → ((τ.1 27 (x0).toNat).toInt = y 1 ∧ True) → Q (some (.int (Int32.ofInt 0))) τ)
    : Ok 55 9 0 [.ref 21, .int (Int32.ofInt (x0))] [] σ Q := by
  refine an_seg (B := pm_B) (F := []) (T := [27]) (S := []) (fun _ h => absurd h List.not_mem_nil) (k := 55) (d := 8) (cs := []) 20 0 1 [(0, (-1), 9)] [] [(2, 21, 0), (0, 0, 0)] [] [(9999, [], [(1, 0, 0)], [(0, (-1), (-1))], [], [], []),
    (9999, [], [(0, 2, 0)], [(0, 0, 9), (1, (-2147483648), 2147483647), (2, (-2147483648), 2147483647)], [(3, 1, 1, (-1))], [(6, (1, 0, 1), (0, 1, 0), 2)], [(27, (0, 0, 0), (0, 1, 0))]),
    (9999, [], [(1, 0, 0)], [(0, 0, 9), (1, (-1), (-1))], [], [], [(27, (0, 0, 0), (0, 1, 0))])] (by decide +kernel) (ρ0 := (fun s => [x0].getD s 0)) hB eF trivial ⟨rfl, ⟨rfl, trivial⟩⟩ trivial ?_
  refine List.forall_mem_cons.mpr ⟨?_, List.forall_mem_cons.mpr ⟨?_, List.forall_mem_cons.mpr ⟨?_, fun _ h => absurd h List.not_mem_nil⟩⟩⟩
  · intro ρ τ Lc stc hx g1 g2 g3 g4 g5 g6 g7 g8
    have e0 : ρ 0 = x0 := hx 0 (by decide)
    subst e0
    match stc, g8 with
    | [_], ⟨h, _⟩ => cases h; exact l0 τ ρ g1 g2 g3 g4 g5 g6
  · intro ρ τ Lc stc hx g1 g2 g3 g4 g5 g6 g7 g8
    have e0 : ρ 0 = x0 := hx 0 (by decide)
    subst e0
    match stc, g8 with
    | [_], ⟨h, _⟩ => cases h; exact l1 τ ρ g1 g2 g3 g4 g5 g6
  · intro ρ τ Lc stc hx g1 g2 g3 g4 g5 g6 g7 g8
    have e0 : ρ 0 = x0 := hx 0 (by decide)
    subst e0
    match stc, g8 with
    | [_], ⟨h, _⟩ => cases h; exact l2 τ ρ g1 g2 g3 g4 g5 g6
set_option maxRecDepth 100000 in
theorem wzwn_0 {σ : pm_S} {Q : Option Value → pm_S → Prop} (x0 : Int) (v2 : Value) (v3 : Value) (hv2 : v2.category = 1) (hv3 : v3.category = 1) (hB : an_GB pm_B σ) (eF : (0 ≤ x0 ∧ x0 ≤ 9999) ∧ True)
    (l0 : ∀ (τ : pm_S) (y : Nat → Int), an_GB pm_B τ → FQ [(27, 9999)] σ τ → ((0 ≤ x0 ∧ x0 ≤ 9999) ∧ True) → (True) → (True) → ((τ.1 27 0).toInt = (-1) ∧ (τ.1 27 1).toInt = (-1) ∧ (τ.1 27 2).toInt = (-1) ∧ (τ.1 27 3).toInt = (-1) ∧ (τ.1 27 4).toInt = (-1) ∧ (τ.1 27 5).toInt = (-1) ∧ (τ.1 27 6).toInt = (-1) ∧ (τ.1 27 7).toInt = (-1) ∧ (τ.1 27 8).toInt = (-1) ∧ (τ.1 27 9).toInt = (-1) ∧ True) → Ok 53 13 8 [.ref 21, .int (Int32.ofInt (x0)), .int (Int32.ofInt 0), .int (Int32.ofInt 0)] [] τ Q)
    : Ok 53 13 0 [.ref 21, .int (Int32.ofInt (x0)), v2, v3] [] σ Q := by
  refine an_seg (B := pm_B) (F := [(27, 9999)]) (T := [27]) (S := []) (fun _ h => absurd h List.not_mem_nil) (k := 53) (d := 12) (cs := [8]) 109 0 1 [(0, 0, 9999)] [] [(2, 21, 0), (0, 0, 0), (5, 0, 0), (5, 0, 0)] [] [(8, [(2, 21, 0), (0, 0, 0), (1, 0, 0), (1, 0, 0)], [], [(0, 0, 9999)], [], [], [(27, (1, 0, 0), (1, 0, (-1))), (27, (1, 0, 1), (1, 0, (-1))), (27, (1, 0, 2), (1, 0, (-1))), (27, (1, 0, 3), (1, 0, (-1))), (27, (1, 0, 4), (1, 0, (-1))), (27, (1, 0, 5), (1, 0, (-1))), (27, (1, 0, 6), (1, 0, (-1))), (27, (1, 0, 7), (1, 0, (-1))), (27, (1, 0, 8), (1, 0, (-1))), (27, (1, 0, 9), (1, 0, (-1)))])] (by decide +kernel) (ρ0 := (fun s => [x0].getD s 0)) hB eF trivial ⟨rfl, ⟨rfl, ⟨hv2, ⟨hv3, trivial⟩⟩⟩⟩ trivial ?_
  refine List.forall_mem_cons.mpr ⟨?_, fun _ h => absurd h List.not_mem_nil⟩
  · intro ρ τ Lc stc hx g1 g2 g3 g4 g5 g6 g7 g8
    have e0 : ρ 0 = x0 := hx 0 (by decide)
    subst e0
    have g7 := g7 (by decide)
    match Lc, stc, g7, g8 with
    | [v0, v1, v2, v3], [], ⟨hv0, hv1, hv2, hv3, _⟩, _ =>
      cases hv0
      cases hv1
      cases hv2
      cases hv3
      exact l0 τ ρ  g1 g2 g3 g4 g5 g6
set_option maxRecDepth 100000 in
theorem wzwn_8 {σ : pm_S} {Q : Option Value → pm_S → Prop} (x0 x1 x2 x3 : Int)  (hB : an_GB pm_B σ) (eF : (0 ≤ x0 ∧ x0 ≤ 9999) ∧ (0 ≤ x1 ∧ x1 ≤ 10) ∧ (0 ≤ x2 ∧ x2 ≤ 30) ∧ (0 ≤ x3 ∧ x3 ≤ 30) ∧ True) (eC : (σ.1 21 0).toInt = x3 ∧ True)
    (l0 : ∀ (τ : pm_S) (y : Nat → Int), an_GB pm_B τ → FQ [] σ τ → ((0 ≤ x0 ∧ x0 ≤ 9999) ∧ (0 ≤ x1 ∧ x1 ≤ 10) ∧ (0 ≤ x2 ∧ x2 ≤ 30) ∧ (0 ≤ x3 ∧ x3 ≤ 30) ∧ True) → (True) → (True) → ((τ.1 21 0).toInt = x3 ∧ True) → Ok 53 13 11 [.ref 21, .int (Int32.ofInt (x0)), .int (Int32.ofInt (x1)), .int (Int32.ofInt (x2))] [.int (Int32.ofInt (x3)), .int (Int32.ofInt (x2))] τ Q)
    : Ok 53 13 8 [.ref 21, .int (Int32.ofInt (x0)), .int (Int32.ofInt (x1)), .int (Int32.ofInt (x2))] [] σ Q := by
  refine an_seg (B := pm_B) (F := []) (T := []) (S := []) (fun _ h => absurd h List.not_mem_nil) (k := 53) (d := 12) (cs := [11]) 5 8 4 [(0, 0, 9999), (1, 0, 10), (2, 0, 30), (3, 0, 30)] [(21, (1, 0, 0), (0, 3, 0))] [(2, 21, 0), (0, 0, 0), (0, 1, 0), (0, 2, 0)] [] [(11, [(2, 21, 0), (0, 0, 0), (0, 1, 0), (0, 2, 0)], [(0, 3, 0), (0, 2, 0)], [(0, 0, 9999), (1, 0, 10), (2, 0, 30), (3, 0, 30)], [], [], [(21, (1, 0, 0), (0, 3, 0))])] (by decide +kernel) (ρ0 := (fun s => [x0, x1, x2, x3].getD s 0)) hB eF eC ⟨rfl, ⟨rfl, ⟨rfl, ⟨rfl, trivial⟩⟩⟩⟩ trivial ?_
  refine List.forall_mem_cons.mpr ⟨?_, fun _ h => absurd h List.not_mem_nil⟩
  · intro ρ τ Lc stc hx g1 g2 g3 g4 g5 g6 g7 g8
    have e0 : ρ 0 = x0 := hx 0 (by decide)
    have e1 : ρ 1 = x1 := hx 1 (by decide)
    have e2 : ρ 2 = x2 := hx 2 (by decide)
    have e3 : ρ 3 = x3 := hx 3 (by decide)
    subst e0
    subst e1
    subst e2
    subst e3
    have g7 := g7 (by decide)
    match Lc, stc, g7, g8 with
    | [v0, v1, v2, v3], [w0, w1], ⟨hv0, hv1, hv2, hv3, _⟩, ⟨hw0, hw1, _⟩ =>
      cases hv0
      cases hv1
      cases hv2
      cases hv3
      cases hw0
      cases hw1
      exact l0 τ ρ  g1 g2 g3 g4 g5 g6
set_option maxRecDepth 100000 in
theorem wzwn_12 {σ : pm_S} {Q : Option Value → pm_S → Prop} (x0 x1 x2 : Int)  (hB : an_GB pm_B σ) (eF : (0 ≤ x0 ∧ x0 ≤ 9999) ∧ (0 ≤ x1 ∧ x1 ≤ 10) ∧ (0 ≤ x2 ∧ x2 ≤ 29) ∧ True)
    (l0 : ∀ (τ : pm_S) (y : Nat → Int), an_GB pm_B τ → FQ [] σ τ → ((0 ≤ x0 ∧ x0 ≤ 9999) ∧ (0 ≤ x1 ∧ x1 ≤ 10) ∧ (0 ≤ x2 ∧ x2 ≤ 29) ∧ True) → (True) → (True) → (True) → Ok 53 13 16 [.ref 21, .int (Int32.ofInt (x0)), .int (Int32.ofInt (x1)), .int (Int32.ofInt (x2))] [.int (Int32.ofInt 0), .int (Int32.ofInt (x2)), .ref 26] τ Q)
    : Ok 53 13 12 [.ref 21, .int (Int32.ofInt (x0)), .int (Int32.ofInt (x1)), .int (Int32.ofInt (x2))] [] σ Q := by
  refine an_seg (B := pm_B) (F := []) (T := []) (S := []) (fun _ h => absurd h List.not_mem_nil) (k := 53) (d := 12) (cs := [16]) 6 12 3 [(0, 0, 9999), (1, 0, 10), (2, 0, 29)] [] [(2, 21, 0), (0, 0, 0), (0, 1, 0), (0, 2, 0)] [] [(16, [(2, 21, 0), (0, 0, 0), (0, 1, 0), (0, 2, 0)], [(1, 0, 0), (0, 2, 0), (2, 26, 0)], [(0, 0, 9999), (1, 0, 10), (2, 0, 29)], [], [], [])] (by decide +kernel) (ρ0 := (fun s => [x0, x1, x2].getD s 0)) hB eF trivial ⟨rfl, ⟨rfl, ⟨rfl, ⟨rfl, trivial⟩⟩⟩⟩ trivial ?_
  refine List.forall_mem_cons.mpr ⟨?_, fun _ h => absurd h List.not_mem_nil⟩
  · intro ρ τ Lc stc hx g1 g2 g3 g4 g5 g6 g7 g8
    have e0 : ρ 0 = x0 := hx 0 (by decide)
    have e1 : ρ 1 = x1 := hx 1 (by decide)
    have e2 : ρ 2 = x2 := hx 2 (by decide)
    subst e0
    subst e1
    subst e2
    have g7 := g7 (by decide)
    match Lc, stc, g7, g8 with
    | [v0, v1, v2, v3], [w0, w1, w2], ⟨hv0, hv1, hv2, hv3, _⟩, ⟨hw0, hw1, hw2, _⟩ =>
      cases hv0
      cases hv1
      cases hv2
      cases hv3
      cases hw0
      cases hw1
      cases hw2
      exact l0 τ ρ  g1 g2 g3 g4 g5 g6
set_option maxRecDepth 100000 in
theorem wzwn_17 {σ : pm_S} {Q : Option Value → pm_S → Prop} (x0 x1 x2 : Int)  (hB : an_GB pm_B σ) (eF : (0 ≤ x0 ∧ x0 ≤ 9999) ∧ (0 ≤ x1 ∧ x1 ≤ 10) ∧ (0 ≤ x2 ∧ x2 ≤ 29) ∧ True)
    (l0 : ∀ (τ : pm_S) (y : Nat → Int), an_GB pm_B τ → FQ [] σ τ → ((0 ≤ x0 ∧ x0 ≤ 9999) ∧ (0 ≤ x1 ∧ x1 ≤ 10) ∧ (0 ≤ x2 ∧ x2 ≤ 29) ∧ ((-2147483648) ≤ y 3 ∧ y 3 ≤ 2147483647) ∧ True) → (True) → (True) → ((τ.1 22 (x2).toNat).toInt = y 3 ∧ True) → Ok 53 13 22 [.ref 21, .int (Int32.ofInt (x0)), .int (Int32.ofInt (x1)), .int (Int32.ofInt (x2))] [.int (Int32.ofInt (x0)), .int (Int32.ofInt (y 3))] τ Q)
    : Ok 53 13 17 [.ref 21, .int (Int32.ofInt (x0)), .int (Int32.ofInt (x1)), .int (Int32.ofInt (x2))] [] σ Q := by
  refine an_seg (B := pm_B) (F := []) (T := [22]) (S := []) (fun _ h => absurd h List.not_mem_nil) (k := 53) (d := 12) (cs := [22]) 7 17 3 [(0, 0, 9999), (1, 0, 10), (2, 0, 29)] [] [(2, 21, 0), (0, 0, 0), (0, 1, 0), (0, 2, 0)] [] [(22, [(2, 21, 0), (0, 0, 0), (0, 1, 0), (0, 2, 0)], [(0, 0, 0), (0, 3, 0)], [(0, 0, 9999), (1, 0, 10), (2, 0, 29), (3, (-2147483648), 2147483647)], [], [], [(22, (0, 2, 0), (0, 3, 0))])] (by decide +kernel) (ρ0 := (fun s => [x0, x1, x2].getD s 0)) hB eF trivial ⟨rfl, ⟨rfl, ⟨rfl, ⟨rfl, trivial⟩⟩⟩⟩ trivial ?_
  refine List.forall_mem_cons.mpr ⟨?_, fun _ h => absurd h List.not_mem_nil⟩
  · intro ρ τ Lc stc hx g1 g2 g3 g4 g5 g6 g7 g8
    have e0 : ρ 0 = x0 := hx 0 (by decide)
    have e1 : ρ 1 = x1 := hx 1 (by decide)
    have e2 : ρ 2 = x2 := hx 2 (by decide)
    subst e0
    subst e1
    subst e2
    have g7 := g7 (by decide)
    match Lc, stc, g7, g8 with
    | [v0, v1, v2, v3], [w0, w1], ⟨hv0, hv1, hv2, hv3, _⟩, ⟨hw0, hw1, _⟩ =>
      cases hv0
      cases hv1
      cases hv2
      cases hv3
      cases hw0
      cases hw1
      exact l0 τ ρ  g1 g2 g3 g4 g5 g6
set_option maxRecDepth 100000 in
theorem wzwn_23 {σ : pm_S} {Q : Option Value → pm_S → Prop} (x0 x1 x2 : Int)  (hB : an_GB pm_B σ) (eF : (0 ≤ x0 ∧ x0 ≤ 9999) ∧ (0 ≤ x1 ∧ x1 ≤ 10) ∧ (0 ≤ x2 ∧ x2 ≤ 29) ∧ True)
    (l0 : ∀ (τ : pm_S) (y : Nat → Int), an_GB pm_B τ → FQ [] σ τ → ((0 ≤ x0 ∧ x0 ≤ 9999) ∧ (0 ≤ x1 ∧ x1 ≤ 10) ∧ (0 ≤ x2 ∧ x2 ≤ 29) ∧ (0 ≤ y 3 ∧ y 3 ≤ 9) ∧ True) → (True) → (True) → ((τ.1 23 (x2).toNat).toInt = y 3 ∧ True) → Ok 53 13 29 [.ref 21, .int (Int32.ofInt (x0)), .int (Int32.ofInt (x1)), .int (Int32.ofInt (x2))] [.int (Int32.ofInt (x1)), .int (Int32.ofInt (y 3)), .ref 21] τ Q)
    : Ok 53 13 23 [.ref 21, .int (Int32.ofInt (x0)), .int (Int32.ofInt (x1)), .int (Int32.ofInt (x2))] [] σ Q := by
  refine an_seg (B := pm_B) (F := []) (T := [23]) (S := []) (fun _ h => absurd h List.not_mem_nil) (k := 53) (d := 12) (cs := [29]) 8 23 3 [(0, 0, 9999), (1, 0, 10), (2, 0, 29)] [] [(2, 21, 0), (0, 0, 0), (0, 1, 0), (0, 2, 0)] [] [(29, [(2, 21, 0), (0, 0, 0), (0, 1, 0), (0, 2, 0)], [(0, 1, 0), (0, 3, 0), (2, 21, 0)], [(0, 0, 9999), (1, 0, 10), (2, 0, 29), (3, 0, 9)], [], [], [(23, (0, 2, 0), (0, 3, 0))])] (by decide +kernel) (ρ0 := (fun s => [x0, x1, x2].getD s 0)) hB eF trivial ⟨rfl, ⟨rfl, ⟨rfl, ⟨rfl, trivial⟩⟩⟩⟩ trivial ?_
  refine List.forall_mem_cons.mpr ⟨?_, fun _ h => absurd h List.not_mem_nil⟩
  · intro ρ τ Lc stc hx g1 g2 g3 g4 g5 g6 g7 g8
    have e0 : ρ 0 = x0 := hx 0 (by decide)
    have e1 : ρ 1 = x1 := hx 1 (by decide)
    have e2 : ρ 2 = x2 := hx 2 (by decide)
    subst e0
    subst e1
    subst e2
    have g7 := g7 (by decide)
    match Lc, stc, g7, g8 with
    | [v0, v1, v2, v3], [w0, w1, w2], ⟨hv0, hv1, hv2, hv3, _⟩, ⟨hw0, hw1, hw2, _⟩ =>
      cases hv0
      cases hv1
      cases hv2
      cases hv3
      cases hw0
      cases hw1
      cases hw2
      exact l0 τ ρ  g1 g2 g3 g4 g5 g6
set_option maxRecDepth 100000 in
theorem wzwn_30 {σ : pm_S} {Q : Option Value → pm_S → Prop} (x0 x1 x2 x3 : Int)  (hB : an_GB pm_B σ) (eF : (0 ≤ x0 ∧ x0 ≤ 9999) ∧ (0 ≤ x1 ∧ x1 ≤ 10) ∧ (0 ≤ x2 ∧ x2 ≤ 29) ∧ (0 ≤ x3 ∧ x3 ≤ 10) ∧ True)
    (l0 : ∀ (τ : pm_S) (y : Nat → Int), an_GB pm_B τ → FQ [] σ τ → ((0 ≤ x0 ∧ x0 ≤ 9999) ∧ (0 ≤ x1 ∧ x1 ≤ 10) ∧ (0 ≤ x2 ∧ x2 ≤ 29) ∧ (0 ≤ x3 ∧ x3 ≤ 10) ∧ ((-1) ≤ y 4 ∧ y 4 ≤ 9) ∧ True) → (True) → (True) → ((τ.1 24 (x2).toNat).toInt = y 4 ∧ True) → Ok 53 13 37 [.ref 21, .int (Int32.ofInt (x0)), .int (Int32.ofInt (x3)), .int (Int32.ofInt (x2))] [.int (Int32.ofInt (x3)), .int (Int32.ofInt (y 4)), .ref 21] τ Q)
    : Ok 53 13 30 [.ref 21, .int (Int32.ofInt (x0)), .int (Int32.ofInt (x1)), .int (Int32.ofInt (x2))] [.int (Int32.ofInt (x3))] σ Q := by
  refine an_seg (B := pm_B) (F := []) (T := [24]) (S := []) (fun _ h => absurd h List.not_mem_nil) (k := 53) (d := 12) (cs := [37]) 9 30 4 [(0, 0, 9999), (1, 0, 10), (2, 0, 29), (3, 0, 10)] [] [(2, 21, 0), (0, 0, 0), (0, 1, 0), (0, 2, 0)] [(0, 3, 0)] [(37, [(2, 21, 0), (0, 0, 0), (0, 3, 0), (0, 2, 0)], [(0, 3, 0), (0, 4, 0), (2, 21, 0)], [(0, 0, 9999), (1, 0, 10), (2, 0, 29), (3, 0, 10), (4, (-1), 9)], [], [], [(24, (0, 2, 0), (0, 4, 0))])] (by decide +kernel) (ρ0 := (fun s => [x0, x1, x2, x3].getD s 0)) hB eF trivial ⟨rfl, ⟨rfl, ⟨rfl, ⟨rfl, trivial⟩⟩⟩⟩ ⟨rfl, trivial⟩ ?_
  refine List.forall_mem_cons.mpr ⟨?_, fun _ h => absurd h List.not_mem_nil⟩
  · intro ρ τ Lc stc hx g1 g2 g3 g4 g5 g6 g7 g8
    have e0 : ρ 0 = x0 := hx 0 (by decide)
    have e1 : ρ 1 = x1 := hx 1 (by decide)
    have e2 : ρ 2 = x2 := hx 2 (by decide)
    have e3 : ρ 3 = x3 := hx 3 (by decide)
    subst e0
    subst e1
    subst e2
    subst e3
    have g7 := g7 (by decide)
    match Lc, stc, g7, g8 with
    | [v0, v1, v2, v3], [w0, w1, w2], ⟨hv0, hv1, hv2, hv3, _⟩, ⟨hw0, hw1, hw2, _⟩ =>
      cases hv0
      cases hv1
      cases hv2
      cases hv3
      cases hw0
      cases hw1
      cases hw2
      exact l0 τ ρ  g1 g2 g3 g4 g5 g6
set_option maxRecDepth 100000 in
theorem wzwn_38 {σ : pm_S} {Q : Option Value → pm_S → Prop} (x0 x1 x2 x3 : Int)  (hB : an_GB pm_B σ) (eF : (0 ≤ x0 ∧ x0 ≤ 9999) ∧ (0 ≤ x1 ∧ x1 ≤ 10) ∧ (0 ≤ x2 ∧ x2 ≤ 29) ∧ (0 ≤ x3 ∧ x3 ≤ 10) ∧ True)
    (l0 : ∀ (τ : pm_S) (y : Nat → Int), an_GB pm_B τ → FQ [] σ τ → ((0 ≤ x0 ∧ x0 ≤ 9999) ∧ (0 ≤ x1 ∧ x1 ≤ 10) ∧ (0 ≤ x2 ∧ x2 ≤ 29) ∧ (0 ≤ x3 ∧ x3 ≤ 10) ∧ (0 ≤ y 4 ∧ y 4 ≤ 9) ∧ True) → (True) → (True) → ((τ.1 23 (x2).toNat).toInt = y 4 ∧ True) → Ok 53 13 47 [.ref 21, .int (Int32.ofInt (x0)), .int (Int32.ofInt (x3)), .int (Int32.ofInt (x2))] [.int (Int32.ofInt (y 4)), .ref 21, .int (Int32.ofInt (x2)), .ref 26] τ Q)
    : Ok 53 13 38 [.ref 21, .int (Int32.ofInt (x0)), .int (Int32.ofInt (x1)), .int (Int32.ofInt (x2))] [.int (Int32.ofInt (x3))] σ Q := by
  refine an_seg (B := pm_B) (F := []) (T := [23]) (S := []) (fun _ h => absurd h List.not_mem_nil) (k := 53) (d := 12) (cs := [47]) 11 38 4 [(0, 0, 9999), (1, 0, 10), (2, 0, 29), (3, 0, 10)] [] [(2, 21, 0), (0, 0, 0), (0, 1, 0), (0, 2, 0)] [(0, 3, 0)] [(47, [(2, 21, 0), (0, 0, 0), (0, 3, 0), (0, 2, 0)], [(0, 4, 0), (2, 21, 0), (0, 2, 0), (2, 26, 0)], [(0, 0, 9999), (1, 0, 10), (2, 0, 29), (3, 0, 10), (4, 0, 9)], [], [], [(23, (0, 2, 0), (0, 4, 0))])] (by decide +kernel) (ρ0 := (fun s => [x0, x1, x2, x3].getD s 0)) hB eF trivial ⟨rfl, ⟨rfl, ⟨rfl, ⟨rfl, trivial⟩⟩⟩⟩ ⟨rfl, trivial⟩ ?_
  refine List.forall_mem_cons.mpr ⟨?_, fun _ h => absurd h List.not_mem_nil⟩
  · intro ρ τ Lc stc hx g1 g2 g3 g4 g5 g6 g7 g8
    have e0 : ρ 0 = x0 := hx 0 (by decide)
    have e1 : ρ 1 = x1 := hx 1 (by decide)
    have e2 : ρ 2 = x2 := hx 2 (by decide)
    have e3 : ρ 3 = x3 := hx 3 (by decide)
    subst e0
    subst e1
    subst e2
    subst e3
    have g7 := g7 (by decide)
    match Lc, stc, g7, g8 with
    | [v0, v1, v2, v3], [w0, w1, w2, w3], ⟨hv0, hv1, hv2, hv3, _⟩, ⟨hw0, hw1, hw2, hw3, _⟩ =>
      cases hv0
      cases hv1
      cases hv2
      cases hv3
      cases hw0
      cases hw1
      cases hw2
      cases hw3
      exact l0 τ ρ  g1 g2 g3 g4 g5 g6
set_option maxRecDepth 100000 in
theorem wzwn_48 {σ : pm_S} {Q : Option Value → pm_S → Prop} (x0 x1 x2 x3 : Int)  (hB : an_GB pm_B σ) (eF : (0 ≤ x0 ∧ x0 ≤ 9999) ∧ (0 ≤ x1 ∧ x1 ≤ 10) ∧ (0 ≤ x2 ∧ x2 ≤ 29) ∧ (0 ≤ x3 ∧ x3 ≤ 1023) ∧ True)
    (l0 : ∀ (τ : pm_S) (y : Nat → Int), an_GB pm_B τ → FQ [] σ τ → ((0 ≤ x0 ∧ x0 ≤ 9999) ∧ (0 ≤ x1 ∧ x1 ≤ 10) ∧ (0 ≤ x2 ∧ x2 ≤ 29) ∧ (0 ≤ x3 ∧ x3 ≤ 1023) ∧ ((-1) ≤ y 4 ∧ y 4 ≤ 9) ∧ True) → (True) → (True) → ((τ.1 24 (x2).toNat).toInt = y 4 ∧ True) → Ok 53 13 53 [.ref 21, .int (Int32.ofInt (x0)), .int (Int32.ofInt (x1)), .int (Int32.ofInt (x2))] [.int (Int32.ofInt (y 4)), .ref 21, .int (Int32.ofInt (x3)), .int (Int32.ofInt (x2)), .ref 26] τ Q)
    : Ok 53 13 48 [.ref 21, .int (Int32.ofInt (x0)), .int (Int32.ofInt (x1)), .int (Int32.ofInt (x2))] [.int (Int32.ofInt (x3)), .int (Int32.ofInt (x2)), .ref 26] σ Q := by
  refine an_seg (B := pm_B) (F := []) (T := [24]) (S := []) (fun _ h => absurd h List.not_mem_nil) (k := 53) (d := 12) (cs := [53]) 7 48 4 [(0, 0, 9999), (1, 0, 10), (2, 0, 29), (3, 0, 1023)] [] [(2, 21, 0), (0, 0, 0), (0, 1, 0), (0, 2, 0)] [(0, 3, 0), (0, 2, 0), (2, 26, 0)] [(53, [(2, 21, 0), (0, 0, 0), (0, 1, 0), (0, 2, 0)], [(0, 4, 0), (2, 21, 0), (0, 3, 0), (0, 2, 0), (2, 26, 0)], [(0, 0, 9999), (1, 0, 10), (2, 0, 29), (3, 0, 1023), (4, (-1), 9)], [], [], [(24, (0, 2, 0), (0, 4, 0))])] (by decide +kernel) (ρ0 := (fun s => [x0, x1, x2, x3].getD s 0)) hB eF trivial ⟨rfl, ⟨rfl, ⟨rfl, ⟨rfl, trivial⟩⟩⟩⟩ ⟨rfl, ⟨rfl, ⟨rfl, trivial⟩⟩⟩ ?_
  refine List.forall_mem_cons.mpr ⟨?_, fun _ h => absurd h List.not_mem_nil⟩
  · intro ρ τ Lc stc hx g1 g2 g3 g4 g5 g6 g7 g8
    have e0 : ρ 0 = x0 := hx 0 (by decide)
    have e1 : ρ 1 = x1 := hx 1 (by decide)
    have e2 : ρ 2 = x2 := hx 2 (by decide)
    have e3 : ρ 3 = x3 := hx 3 (by decide)
    subst e0
    subst e1
    subst e2
    subst e3
    have g7 := g7 (by decide)
    match Lc, stc, g7, g8 with
    | [v0, v1, v2, v3], [w0, w1, w2, w3, w4], ⟨hv0, hv1, hv2, hv3, _⟩, ⟨hw0, hw1, hw2, hw3, hw4, _⟩ =>
      cases hv0
      cases hv1
      cases hv2
      cases hv3
      cases hw0
      cases hw1
      cases hw2
      cases hw3
      cases hw4
      exact l0 τ ρ  g1 g2 g3 g4 g5 g6
set_option maxRecDepth 100000 in
theorem wzwn_54 {σ : pm_S} {Q : Option Value → pm_S → Prop} (x0 x1 x2 x3 x4 : Int)  (hB : an_GB pm_B σ) (eF : (0 ≤ x0 ∧ x0 ≤ 9999) ∧ (0 ≤ x1 ∧ x1 ≤ 10) ∧ (0 ≤ x2 ∧ x2 ≤ 29) ∧ (0 ≤ x3 ∧ x3 ≤ 1023) ∧ (0 ≤ x4 ∧ x4 ≤ 1023) ∧ True)
    (l0 : ∀ (τ : pm_S) (y : Nat → Int), an_GB pm_B τ → FQ [] σ τ → ((0 ≤ x0 ∧ x0 ≤ 9999) ∧ (0 ≤ x1 ∧ x1 ≤ 10) ∧ (0 ≤ x2 ∧ x2 ≤ 29) ∧ (0 ≤ x3 ∧ x3 ≤ 1023) ∧ (0 ≤ x4 ∧ x4 ≤ 1023) ∧ (0 ≤ y 5 ∧ y 5 ≤ 1023) ∧ True) → (True) → ((an_f 4 (Int32.ofInt (x3)) (Int32.ofInt (x4))).toInt = y 5 ∧ True) → (True) → Ok 53 13 55 [.ref 21, .int (Int32.ofInt (x0)), .int (Int32.ofInt (x1)), .int (Int32.ofInt (x2))] [.int (Int32.ofInt (y 5)), .int (Int32.ofInt (x2)), .ref 26] τ Q)
    : Ok 53 13 54 [.ref 21, .int (Int32.ofInt (x0)), .int (Int32.ofInt (x1)), .int (Int32.ofInt (x2))] [.int (Int32.ofInt (x4)), .int (Int32.ofInt (x3)), .int (Int32.ofInt (x2)), .ref 26] σ Q := by
  refine an_seg (B := pm_B) (F := []) (T := []) (S := []) (fun _ h => absurd h List.not_mem_nil) (k := 53) (d := 12) (cs := [55]) 3 54 5 [(0, 0, 9999), (1, 0, 10), (2, 0, 29), (3, 0, 1023), (4, 0, 1023)] [] [(2, 21, 0), (0, 0, 0), (0, 1, 0), (0, 2, 0)] [(0, 4, 0), (0, 3, 0), (0, 2, 0), (2, 26, 0)] [(55, [(2, 21, 0), (0, 0, 0), (0, 1, 0), (0, 2, 0)], [(0, 5, 0), (0, 2, 0), (2, 26, 0)], [(0, 0, 9999), (1, 0, 10), (2, 0, 29), (3, 0, 1023), (4, 0, 1023), (5, 0, 1023)], [], [(4, (0, 3, 0), (0, 4, 0), 5)], [])] (by decide +kernel) (ρ0 := (fun s => [x0, x1, x2, x3, x4].getD s 0)) hB eF trivial ⟨rfl, ⟨rfl, ⟨rfl, ⟨rfl, trivial⟩⟩⟩⟩ ⟨rfl, ⟨rfl, ⟨rfl, ⟨rfl, trivial⟩⟩⟩⟩ ?_
  refine List.forall_mem_cons.mpr ⟨?_, fun _ h => absurd h List.not_mem_nil⟩
  · intro ρ τ Lc stc hx g1 g2 g3 g4 g5 g6 g7 g8
    have e0 : ρ 0 = x0 := hx 0 (by decide)
    have e1 : ρ 1 = x1 := hx 1 (by decide)
    have e2 : ρ 2 = x2 := hx 2 (by decide)
    have e3 : ρ 3 = x3 := hx 3 (by decide)
    have e4 : ρ 4 = x4 := hx 4 (by decide)
    subst e0
    subst e1
    subst e2
    subst e3
    subst e4
    have g7 := g7 (by decide)
    match Lc, stc, g7, g8 with
    | [v0, v1, v2, v3], [w0, w1, w2], ⟨hv0, hv1, hv2, hv3, _⟩, ⟨hw0, hw1, hw2, _⟩ =>
      cases hv0
      cases hv1
      cases hv2
      cases hv3
      cases hw0
      cases hw1
      cases hw2
      exact l0 τ ρ  g1 g2 g3 g4 g5 g6
set_option maxRecDepth 100000 in
theorem wzwn_56 {σ : pm_S} {Q : Option Value → pm_S → Prop} (x0 x1 x2 : Int)  (hB : an_GB pm_B σ) (eF : (0 ≤ x0 ∧ x0 ≤ 9999) ∧ (0 ≤ x1 ∧ x1 ≤ 10) ∧ (0 ≤ x2 ∧ x2 ≤ 29) ∧ True)
    (l0 : ∀ (τ : pm_S) (y : Nat → Int), an_GB pm_B τ → FQ [] σ τ → ((0 ≤ x0 ∧ x0 ≤ 9999) ∧ (0 ≤ x1 ∧ x1 ≤ 10) ∧ (0 ≤ x2 ∧ x2 ≤ 29) ∧ True) → (True) → (True) → (True) → Ok 53 13 8 [.ref 21, .int (Int32.ofInt (x0)), .int (Int32.ofInt (x1)), .int (Int32.ofInt (x2 + 1))] [] τ Q)
    : Ok 53 13 56 [.ref 21, .int (Int32.ofInt (x0)), .int (Int32.ofInt (x1)), .int (Int32.ofInt (x2))] [] σ Q := by
  refine an_seg (B := pm_B) (F := []) (T := []) (S := []) (fun _ h => absurd h List.not_mem_nil) (k := 53) (d := 12) (cs := [8]) 4 56 3 [(0, 0, 9999), (1, 0, 10), (2, 0, 29)] [] [(2, 21, 0), (0, 0, 0), (0, 1, 0), (0, 2, 0)] [] [(8, [(2, 21, 0), (0, 0, 0), (0, 1, 0), (0, 2, 1)], [], [(0, 0, 9999), (1, 0, 10), (2, 0, 29)], [], [], [])] (by decide +kernel) (ρ0 := (fun s => [x0, x1, x2].getD s 0)) hB eF trivial ⟨rfl, ⟨rfl, ⟨rfl, ⟨rfl, trivial⟩⟩⟩⟩ trivial ?_
  refine List.forall_mem_cons.mpr ⟨?_, fun _ h => absurd h List.not_mem_nil⟩
  · intro ρ τ Lc stc hx g1 g2 g3 g4 g5 g6 g7 g8
    have e0 : ρ 0 = x0 := hx 0 (by decide)
    have e1 : ρ 1 = x1 := hx 1 (by decide)
    have e2 : ρ 2 = x2 := hx 2 (by decide)
    subst e0
    subst e1
    subst e2
    have g7 := g7 (by decide)
    match Lc, stc, g7, g8 with
    | [v0, v1, v2, v3], [], ⟨hv0, hv1, hv2, hv3, _⟩, _ =>
      cases hv0
      cases hv1
      cases hv2
      cases hv3
      exact l0 τ ρ  g1 g2 g3 g4 g5 g6
set_option maxRecDepth 100000 in
theorem wzwn_58 {σ : pm_S} {Q : Option Value → pm_S → Prop} (x0 x1 x2 : Int)  (hB : an_GB pm_B σ) (eF : (0 ≤ x0 ∧ x0 ≤ 9999) ∧ (0 ≤ x1 ∧ x1 ≤ 10) ∧ (0 ≤ x2 ∧ x2 ≤ 30) ∧ True)
    (l0 : ∀ (τ : pm_S) (y : Nat → Int), an_GB pm_B τ → FQ [] σ τ → ((0 ≤ x0 ∧ x0 ≤ 9999) ∧ (0 ≤ x1 ∧ x1 ≤ 10) ∧ (0 ≤ x2 ∧ x2 ≤ 30) ∧ True) → (True) → (True) → (True) → Q (some (.int (Int32.ofInt (x1)))) τ)
    : Ok 53 13 58 [.ref 21, .int (Int32.ofInt (x0)), .int (Int32.ofInt (x1)), .int (Int32.ofInt (x2))] [] σ Q := by
  refine an_seg (B := pm_B) (F := []) (T := []) (S := []) (fun _ h => absurd h List.not_mem_nil) (k := 53) (d := 12) (cs := []) 4 58 3 [(0, 0, 9999), (1, 0, 10), (2, 0, 30)] [] [(2, 21, 0), (0, 0, 0), (0, 1, 0), (0, 2, 0)] [] [(9999, [], [(0, 1, 0)], [(0, 0, 9999), (1, 0, 10), (2, 0, 30)], [], [], [])] (by decide +kernel) (ρ0 := (fun s => [x0, x1, x2].getD s 0)) hB eF trivial ⟨rfl, ⟨rfl, ⟨rfl, ⟨rfl, trivial⟩⟩⟩⟩ trivial ?_
  refine List.forall_mem_cons.mpr ⟨?_, fun _ h => absurd h List.not_mem_nil⟩
  · intro ρ τ Lc stc hx g1 g2 g3 g4 g5 g6 g7 g8
    have e0 : ρ 0 = x0 := hx 0 (by decide)
    have e1 : ρ 1 = x1 := hx 1 (by decide)
    have e2 : ρ 2 = x2 := hx 2 (by decide)
    subst e0
    subst e1
    subst e2
    match stc, g8 with
    | [_], ⟨h, _⟩ => cases h; exact l0 τ ρ g1 g2 g3 g4 g5 g6
set_option maxRecDepth 100000 in
theorem wzwt_0 {σ : pm_S} {Q : Option Value → pm_S → Prop} (x0 : Int) (v2 : Value) (v3 : Value) (v4 : Value) (v5 : Value) (hv2 : v2.category = 1) (hv3 : v3.category = 1) (hv4 : v4.category = 1) (hv5 : v5.category = 1) (hB : an_GB pm_B σ) (eF : (0 ≤ x0 ∧ x0 ≤ 31) ∧ True)
    (l0 : ∀ (τ : pm_S) (y : Nat → Int) (v5 : Value), v5.category = 1 → an_GB pm_B τ → FQ [(28, 9999)] σ τ → ((0 ≤ x0 ∧ x0 ≤ 31) ∧ True) → (True) → (True) → ((τ.1 28 0).toInt = 0 ∧ (τ.1 28 1).toInt = 0 ∧ (τ.1 28 2).toInt = 0 ∧ (τ.1 28 3).toInt = 0 ∧ (τ.1 28 4).toInt = 0 ∧ (τ.1 28 5).toInt = 0 ∧ (τ.1 28 6).toInt = 0 ∧ (τ.1 28 7).toInt = 0 ∧ (τ.1 28 8).toInt = 0 ∧ (τ.1 28 9).toInt = 0 ∧ True) → Ok 57 9 10 [.ref 21, .int (Int32.ofInt (x0)), .int (Int32.ofInt 0), .int (Int32.ofInt 0), .int (Int32.ofInt 0), v5] [] τ Q)
    : Ok 57 9 0 [.ref 21, .int (Int32.ofInt (x0)), v2, v3, v4, v5] [] σ Q := by
  refine an_seg (B := pm_B) (F := [(28, 9999)]) (T := [28]) (S := []) (fun _ h => absurd h List.not_mem_nil) (k := 57) (d := 8) (cs := [10]) 111 0 1 [(0, 0, 31)] [] [(2, 21, 0), (0, 0, 0), (5, 0, 0), (5, 0, 0), (5, 0, 0), (5, 0, 0)] [] [(10, [(2, 21, 0), (0, 0, 0), (1, 0, 0), (1, 0, 0), (1, 0, 0), (5, 0, 0)], [], [(0, 0, 31)], [], [], [(28, (1, 0, 0), (1, 0, 0)), (28, (1, 0, 1), (1, 0, 0)), (28, (1, 0, 2), (1, 0, 0)), (28, (1, 0, 3), (1, 0, 0)), (28, (1, 0, 4), (1, 0, 0)), (28, (1, 0, 5), (1, 0, 0)), (28, (1, 0, 6), (1, 0, 0)), (28, (1, 0, 7), (1, 0, 0)), (28, (1, 0, 8), (1, 0, 0)), (28, (1, 0, 9), (1, 0, 0))])] (by decide +kernel) (ρ0 := (fun s => [x0].getD s 0)) hB eF trivial ⟨rfl, ⟨rfl, ⟨hv2, ⟨hv3, ⟨hv4, ⟨hv5, trivial⟩⟩⟩⟩⟩⟩ trivial ?_
  refine List.forall_mem_cons.mpr ⟨?_, fun _ h => absurd h List.not_mem_nil⟩
  · intro ρ τ Lc stc hx g1 g2 g3 g4 g5 g6 g7 g8
    have e0 : ρ 0 = x0 := hx 0 (by decide)
    subst e0
    have g7 := g7 (by decide)
    match Lc, stc, g7, g8 with
    | [v0, v1, v2, v3, v4, v5], [], ⟨hv0, hv1, hv2, hv3, hv4, hv5, _⟩, _ =>
      cases hv0
      cases hv1
      cases hv2
      cases hv3
      cases hv4
      exact l0 τ ρ v5 hv5 g1 g2 g3 g4 g5 g6
set_option maxRecDepth 100000 in
theorem wzwt_10 {σ : pm_S} {Q : Option Value → pm_S → Prop} (x0 x1 x2 x3 x4 : Int) (v5 : Value) (hv5 : v5.category = 1) (hB : an_GB pm_B σ) (eF : (0 ≤ x0 ∧ x0 ≤ 31) ∧ (0 ≤ x1 ∧ x1 ≤ 30) ∧ (0 ≤ x2 ∧ x2 ≤ 30) ∧ (0 ≤ x3 ∧ x3 ≤ 30) ∧ (0 ≤ x4 ∧ x4 ≤ 30) ∧ True) (eC : (σ.1 21 0).toInt = x4 ∧ True)
    (l0 : ∀ (τ : pm_S) (y : Nat → Int) (v5 : Value), v5.category = 1 → an_GB pm_B τ → FQ [] σ τ → ((0 ≤ x0 ∧ x0 ≤ 31) ∧ (0 ≤ x1 ∧ x1 ≤ 30) ∧ (0 ≤ x2 ∧ x2 ≤ 30) ∧ (0 ≤ x3 ∧ x3 ≤ 30) ∧ (0 ≤ x4 ∧ x4 ≤ 30) ∧ True) → (True) → (True) → ((τ.1 21 0).toInt = x4 ∧ True) → Ok 57 9 13 [.ref 21, .int (Int32.ofInt (x0)), .int (Int32.ofInt (x1)), .int (Int32.ofInt (x2)), .int (Int32.ofInt (x3)), v5] [.int (Int32.ofInt (x4)), .int (Int32.ofInt (x3))] τ Q)
    : Ok 57 9 10 [.ref 21, .int (Int32.ofInt (x0)), .int (Int32.ofInt (x1)), .int (Int32.ofInt (x2)), .int (Int32.ofInt (x3)), v5] [] σ Q := by
  refine an_seg (B := pm_B) (F := []) (T := []) (S := []) (fun _ h => absurd h List.not_mem_nil) (k := 57) (d := 8) (cs := [13]) 5 10 5 [(0, 0, 31), (1, 0, 30), (2, 0, 30), (3, 0, 30), (4, 0, 30)] [(21, (1, 0, 0), (0, 4, 0))] [(2, 21, 0), (0, 0, 0), (0, 1, 0), (0, 2, 0), (0, 3, 0), (5, 0, 0)] [] [(13, [(2, 21, 0), (0, 0, 0), (0, 1, 0), (0, 2, 0), (0, 3, 0), (5, 0, 0)], [(0, 4, 0), (0, 3, 0)], [(0, 0, 31), (1, 0, 30), (2, 0, 30), (3, 0, 30), (4, 0, 30)], [], [], [(21, (1, 0, 0), (0, 4, 0))])] (by decide +kernel) (ρ0 := (fun s => [x0, x1, x2, x3, x4].getD s 0)) hB eF eC ⟨rfl, ⟨rfl, ⟨rfl, ⟨rfl, ⟨rfl, ⟨hv5, trivial⟩⟩⟩⟩⟩⟩ trivial ?_
  refine List.forall_mem_cons.mpr ⟨?_, fun _ h => absurd h List.not_mem_nil⟩
  · intro ρ τ Lc stc hx g1 g2 g3 g4 g5 g6 g7 g8
    have e0 : ρ 0 = x0 := hx 0 (by decide)
    have e1 : ρ 1 = x1 := hx 1 (by decide)
    have e2 : ρ 2 = x2 := hx 2 (by decide)
    have e3 : ρ 3 = x3 := hx 3 (by decide)
    have e4 : ρ 4 = x4 := hx 4 (by decide)
    subst e0
    subst e1
    subst e2
    subst e3
    subst e4
    have g7 := g7 (by decide)
    match Lc, stc, g7, g8 with
    | [v0, v1, v2, v3, v4, v5], [w0, w1], ⟨hv0, hv1, hv2, hv3, hv4, hv5, _⟩, ⟨hw0, hw1, _⟩ =>
      cases hv0
      cases hv1
      cases hv2
      cases hv3
      cases hv4
      cases hw0
      cases hw1
      exact l0 τ ρ v5 hv5 g1 g2 g3 g4 g5 g6
set_option maxRecDepth 100000 in
theorem wzwt_14 {σ : pm_S} {Q : Option Value → pm_S → Prop} (x0 x1 x2 x3 : Int) (v5 : Value) (hv5 : v5.category = 1) (hB : an_GB pm_B σ) (eF : (0 ≤ x0 ∧ x0 ≤ 31) ∧ (0 ≤ x1 ∧ x1 ≤ 29) ∧ (0 ≤ x2 ∧ x2 ≤ 29) ∧ (0 ≤ x3 ∧ x3 ≤ 29) ∧ True)
    (l0 : ∀ (τ : pm_S) (y : Nat → Int), an_GB pm_B τ → FQ [] σ τ → ((0 ≤ x0 ∧ x0 ≤ 31) ∧ (0 ≤ x1 ∧ x1 ≤ 29) ∧ (0 ≤ x2 ∧ x2 ≤ 29) ∧ (0 ≤ x3 ∧ x3 ≤ 29) ∧ ((-1) ≤ y 4 ∧ y 4 ≤ (-1)) ∧ True) → (True) → (True) → ((τ.1 25 (x3).toNat).toInt = y 4 ∧ True) → Ok 57 9 60 [.ref 21, .int (Int32.ofInt (x0)), .int (Int32.ofInt (x1)), .int (Int32.ofInt (x2)), .int (Int32.ofInt (x3)), .int (Int32.ofInt 0)] [] τ Q)
    (l1 : ∀ (τ : pm_S) (y : Nat → Int), an_GB pm_B τ → FQ [] σ τ → ((0 ≤ x0 ∧ x0 ≤ 31) ∧ (0 ≤ x1 ∧ x1 ≤ 29) ∧ (0 ≤ x2 ∧ x2 ≤ 29) ∧ (0 ≤ x3 ∧ x3 ≤ 29) ∧ (0 ≤ y 4 ∧ y 4 ≤ 9) ∧ ((-2147483648) ≤ y 5 ∧ y 5 ≤ 2147483647) ∧ (0 ≤ y 6 ∧ y 6 ≤ 0) ∧ True) → (y 6 ≤ x0 + 0 ∧ True) → ((an_f 3 (Int32.ofInt (y 5)) (Int32.ofInt (x0))).toInt = y 6 ∧ True) → ((τ.1 25 (x3).toNat).toInt = y 4 ∧ (τ.1 26 (x3).toNat).toInt = y 5 ∧ True) → Ok 57 9 60 [.ref 21, .int (Int32.ofInt (x0)), .int (Int32.ofInt (x1)), .int (Int32.ofInt (x2)), .int (Int32.ofInt (x3)), .int (Int32.ofInt 1)] [] τ Q)
    (l2 : ∀ (τ : pm_S) (y : Nat → Int), an_GB pm_B τ → FQ [] σ τ → ((0 ≤ x0 ∧ x0 ≤ 31) ∧ (0 ≤ x1 ∧ x1 ≤ 29) ∧ (0 ≤ x2 ∧ x2 ≤ 29) ∧ (0 ≤ x3 ∧ x3 ≤ 29) ∧ (0 ≤ y 4 ∧ y 4 ≤ 9) ∧ ((-2147483648) ≤ y 5 ∧ y 5 ≤ 2147483647) ∧ (1 ≤ y 6 ∧ y 6 ≤ 31) ∧ ((-2147483648) ≤ y 7 ∧ y 7 ≤ 2147483647) ∧ ((-2147483648) ≤ y 8 ∧ y 8 ≤ 2147483647) ∧ True) → (y 6 ≤ x0 + 0 ∧ True) → ((an_f 3 (Int32.ofInt (y 5)) (Int32.ofInt (x0))).toInt = y 6 ∧ (an_f 0 (Int32.ofInt (y 7)) (Int32.ofInt (1))).toInt = y 8 ∧ True) → ((τ.1 25 (x3).toNat).toInt = y 4 ∧ (τ.1 26 (x3).toNat).toInt = y 5 ∧ (τ.1 28 (y 4).toNat).toInt = y 7 ∧ True) → Ok 57 9 49 [.ref 21, .int (Int32.ofInt (x0)), .int (Int32.ofInt (x1 + 1)), .int (Int32.ofInt (x2)), .int (Int32.ofInt (x3)), .int (Int32.ofInt 1)] [.int (Int32.ofInt (y 8)), .int (Int32.ofInt (y 4)), .ref 28] τ Q)
    : Ok 57 9 14 [.ref 21, .int (Int32.ofInt (x0)), .int (Int32.ofInt (x1)), .int (Int32.ofInt (x2)), .int (Int32.ofInt (x3)), v5] [] σ Q := by
  refine an_seg (B := pm_B) (F := []) (T := [25, 26, 28]) (S := []) (fun _ h => absurd h List.not_mem_nil) (k := 57) (d := 8) (cs := [49, 60]) 36 14 4 [(0, 0, 31), (1, 0, 29), (2, 0, 29), (3, 0, 29)] [] [(2, 21, 0), (0, 0, 0), (0, 1, 0), (0, 2, 0), (0, 3, 0), (5, 0, 0)] [] [(60, [(2, 21, 0), (0, 0, 0), (0, 1, 0), (0, 2, 0), (0, 3, 0), (1, 0, 0)], [], [(0, 0, 31), (1, 0, 29), (2, 0, 29), (3, 0, 29), (4, (-1), (-1))], [], [], [(25, (0, 3, 0), (0, 4, 0))]),
    (60, [(2, 21, 0), (0, 0, 0), (0, 1, 0), (0, 2, 0), (0, 3, 0), (1, 0, 1)], [], [(0, 0, 31), (1, 0, 29), (2, 0, 29), (3, 0, 29), (4, 0, 9), (5, (-2147483648), 2147483647), (6, 0, 0)], [(1, 6, 0, 0)], [(3, (0, 5, 0), (0, 0, 0), 6)], [(25, (0, 3, 0), (0, 4, 0)), (26, (0, 3, 0), (0, 5, 0))]),
    (49, [(2, 21, 0), (0, 0, 0), (0, 1, 1), (0, 2, 0), (0, 3, 0), (1, 0, 1)], [(0, 8, 0), (0, 4, 0), (2, 28, 0)], [(0, 0, 31), (1, 0, 29), (2, 0, 29), (3, 0, 29), (4, 0, 9), (5, (-2147483648), 2147483647), (6, 1, 31), (7, (-2147483648), 2147483647), (8, (-2147483648), 2147483647)], [(1, 6, 0, 0)], [(3, (0, 5, 0), (0, 0, 0), 6), (0, (0, 7, 0), (1, 0, 1), 8)], [(25, (0, 3, 0), (0, 4, 0)), (26, (0, 3, 0), (0, 5, 0)), (28, (0, 4, 0), (0, 7, 0))])] (by decide +kernel) (ρ0 := (fun s => [x0, x1, x2, x3].getD s 0)) hB eF trivial ⟨rfl, ⟨rfl, ⟨rfl, ⟨rfl, ⟨rfl, ⟨hv5, trivial⟩⟩⟩⟩⟩⟩ trivial ?_
  refine List.forall_mem_cons.mpr ⟨?_, List.forall_mem_cons.mpr ⟨?_, List.forall_mem_cons.mpr ⟨?_, fun _ h => absurd h List.not_mem_nil⟩⟩⟩
  · intro ρ τ Lc stc hx g1 g2 g3 g4 g5 g6 g7 g8
    have e0 : ρ 0 = x0 := hx 0 (by decide)
    have e1 : ρ 1 = x1 := hx 1 (by decide)
    have e2 : ρ 2 = x2 := hx 2 (by decide)
    have e3 : ρ 3 = x3 := hx 3 (by decide)
    subst e0
    subst e1
    subst e2
    subst e3
    have g7 := g7 (by decide)
    match Lc, stc, g7, g8 with
    | [v0, v1, v2, v3, v4, v5], [], ⟨hv0, hv1, hv2, hv3, hv4, hv5, _⟩, _ =>
      cases hv0
      cases hv1
      cases hv2
      cases hv3
      cases hv4
      cases hv5
      exact l0 τ ρ  g1 g2 g3 g4 g5 g6
  · intro ρ τ Lc stc hx g1 g2 g3 g4 g5 g6 g7 g8
    have e0 : ρ 0 = x0 := hx 0 (by decide)
    have e1 : ρ 1 = x1 := hx 1 (by decide)
    have e2 : ρ 2 = x2 := hx 2 (by decide)
    have e3 : ρ 3 = x3 := hx 3 (by decide)
    subst e0
    subst e1
    subst e2
    subst e3
    have g7 := g7 (by decide)
    match Lc, stc, g7, g8 with
    | [v0, v1, v2, v3, v4, v5], [], ⟨hv0, hv1, hv2, hv3, hv4, hv5, _⟩, _ =>
      cases hv0
      cases hv1
      cases hv2
      cases hv3
      cases hv4
      cases hv5
      exact l1 τ ρ  g1 g2 g3 g4 g5 g6
  · intro ρ τ Lc stc hx g1 g2 g3 g4 g5 g6 g7 g8
    have e0 : ρ 0 = x0 := hx 0 (by decide)
    have e1 : ρ 1 = x1 := hx 1 (by decide)
    have e2 : ρ 2 = x2 := hx 2 (by decide)
    have e3 : ρ 3 = x3 := hx 3 (by decide)
    subst e0
    subst e1
    subst e2
    subst e3
    have g7 := g7 (by decide)
    match Lc, stc, g7, g8 with
    | [v0, v1, v2, v3, v4, v5], [w0, w1, w2], ⟨hv0, hv1, hv2, hv3, hv4, hv5, _⟩, ⟨hw0, hw1, hw2, _⟩ =>
      cases hv0
      cases hv1
      cases hv2
      cases hv3
      cases hv4
      cases hv5
      cases hw0
      cases hw1
      cases hw2
      exact l2 τ ρ  g1 g2 g3 g4 g5 g6
set_option maxRecDepth 100000 in
theorem wzwt_50 {σ : pm_S} {Q : Option Value → pm_S → Prop} (x0 x1 x2 x3 x4 x5 : Int) (v5 : Value) (hv5 : v5.category = 1) (hB : an_GB pm_B σ) (eF : (0 ≤ x0 ∧ x0 ≤ 31) ∧ (0 ≤ x1 ∧ x1 ≤ 30) ∧ (0 ≤ x2 ∧ x2 ≤ 30) ∧ (0 ≤ x3 ∧ x3 ≤ 29) ∧ (0 ≤ x4 ∧ x4 ≤ 9) ∧ (0 ≤ x5 ∧ x5 ≤ 30) ∧ True) (eC : (σ.1 25 (x3).toNat).toInt = x4 ∧ (σ.1 28 (x4).toNat).toInt = x5 ∧ True)
    (l0 : ∀ (τ : pm_S) (y : Nat → Int) (v5 : Value), v5.category = 1 → an_GB pm_B τ → FQ [] σ τ → ((0 ≤ x0 ∧ x0 ≤ 31) ∧ (0 ≤ x1 ∧ x1 ≤ 30) ∧ (0 ≤ x2 ∧ x2 ≤ 30) ∧ (0 ≤ x3 ∧ x3 ≤ 29) ∧ (0 ≤ x4 ∧ x4 ≤ 9) ∧ (0 ≤ x5 ∧ x5 ≤ 30) ∧ (0 ≤ y 6 ∧ y 6 ≤ 30) ∧ True) → (True) → ((an_f 12 (Int32.ofInt (x2)) (Int32.ofInt (x5))).toInt = y 6 ∧ True) → ((τ.1 25 (x3).toNat).toInt = x4 ∧ (τ.1 28 (x4).toNat).toInt = x5 ∧ True) → Ok 57 9 10 [.ref 21, .int (Int32.ofInt (x0)), .int (Int32.ofInt (x1)), .int (Int32.ofInt (y 6)), .int (Int32.ofInt (x3 + 1)), v5] [] τ Q)
    : Ok 57 9 50 [.ref 21, .int (Int32.ofInt (x0)), .int (Int32.ofInt (x1)), .int (Int32.ofInt (x2)), .int (Int32.ofInt (x3)), v5] [] σ Q := by
  refine an_seg (B := pm_B) (F := []) (T := [25, 28]) (S := []) (fun _ h => absurd h List.not_mem_nil) (k := 57) (d := 8) (cs := [10]) 14 50 6 [(0, 0, 31), (1, 0, 30), (2, 0, 30), (3, 0, 29), (4, 0, 9), (5, 0, 30)] [(25, (0, 3, 0), (0, 4, 0)), (28, (0, 4, 0), (0, 5, 0))] [(2, 21, 0), (0, 0, 0), (0, 1, 0), (0, 2, 0), (0, 3, 0), (5, 0, 0)] [] [(10, [(2, 21, 0), (0, 0, 0), (0, 1, 0), (0, 6, 0), (0, 3, 1), (5, 0, 0)], [], [(0, 0, 31), (1, 0, 30), (2, 0, 30), (3, 0, 29), (4, 0, 9), (5, 0, 30), (6, 0, 30)], [], [(12, (0, 2, 0), (0, 5, 0), 6)], [(25, (0, 3, 0), (0, 4, 0)), (28, (0, 4, 0), (0, 5, 0))])] (by decide +kernel) (ρ0 := (fun s => [x0, x1, x2, x3, x4, x5].getD s 0)) hB eF eC ⟨rfl, ⟨rfl, ⟨rfl, ⟨rfl, ⟨rfl, ⟨hv5, trivial⟩⟩⟩⟩⟩⟩ trivial ?_
  refine List.forall_mem_cons.mpr ⟨?_, fun _ h => absurd h List.not_mem_nil⟩
  · intro ρ τ Lc stc hx g1 g2 g3 g4 g5 g6 g7 g8
    have e0 : ρ 0 = x0 := hx 0 (by decide)
    have e1 : ρ 1 = x1 := hx 1 (by decide)
    have e2 : ρ 2 = x2 := hx 2 (by decide)
    have e3 : ρ 3 = x3 := hx 3 (by decide)
    have e4 : ρ 4 = x4 := hx 4 (by decide)
    have e5 : ρ 5 = x5 := hx 5 (by decide)
    subst e0
    subst e1
    subst e2
    subst e3
    subst e4
    subst e5
    have g7 := g7 (by decide)
    match Lc, stc, g7, g8 with
    | [v0, v1, v2, v3, v4, v5], [], ⟨hv0, hv1, hv2, hv3, hv4, hv5, _⟩, _ =>
      cases hv0
      cases hv1
      cases hv2
      cases hv3
      cases hv4
      exact l0 τ ρ v5 hv5 g1 g2 g3 g4 g5 g6
set_option maxRecDepth 100000 in
theorem wzwt_60 {σ : pm_S} {Q : Option Value → pm_S → Prop} (x0 x1 x2 x3 : Int) (v5 : Value) (hv5 : v5.category = 1) (hB : an_GB pm_B σ) (eF : (0 ≤ x0 ∧ x0 ≤ 31) ∧ (0 ≤ x1 ∧ x1 ≤ 30) ∧ (0 ≤ x2 ∧ x2 ≤ 30) ∧ (0 ≤ x3 ∧ x3 ≤ 29) ∧ True)
    (l0 : ∀ (τ : pm_S) (y : Nat → Int) (v5 : Value), v5.category = 1 → an_GB pm_B τ → FQ [] σ τ → ((0 ≤ x0 ∧ x0 ≤ 31) ∧ (0 ≤ x1 ∧ x1 ≤ 30) ∧ (0 ≤ x2 ∧ x2 ≤ 30) ∧ (0 ≤ x3 ∧ x3 ≤ 29) ∧ True) → (True) → (True) → (True) → Ok 57 9 10 [.ref 21, .int (Int32.ofInt (x0)), .int (Int32.ofInt (x1)), .int (Int32.ofInt (x2)), .int (Int32.ofInt (x3 + 1)), v5] [] τ Q)
    : Ok 57 9 60 [.ref 21, .int (Int32.ofInt (x0)), .int (Int32.ofInt (x1)), .int (Int32.ofInt (x2)), .int (Int32.ofInt (x3)), v5] [] σ Q := by
  refine an_seg (B := pm_B) (F := []) (T := []) (S := []) (fun _ h => absurd h List.not_mem_nil) (k := 57) (d := 8) (cs := [10]) 4 60 4 [(0, 0, 31), (1, 0, 30), (2, 0, 30), (3, 0, 29)] [] [(2, 21, 0), (0, 0, 0), (0, 1, 0), (0, 2, 0), (0, 3, 0), (5, 0, 0)] [] [(10, [(2, 21, 0), (0, 0, 0), (0, 1, 0), (0, 2, 0), (0, 3, 1), (5, 0, 0)], [], [(0, 0, 31), (1, 0, 30), (2, 0, 30), (3, 0, 29)], [], [], [])] (by decide +kernel) (ρ0 := (fun s => [x0, x1, x2, x3].getD s 0)) hB eF trivial ⟨rfl, ⟨rfl, ⟨rfl, ⟨rfl, ⟨rfl, ⟨hv5, trivial⟩⟩⟩⟩⟩⟩ trivial ?_
  refine List.forall_mem_cons.mpr ⟨?_, fun _ h => absurd h List.not_mem_nil⟩
  · intro ρ τ Lc stc hx g1 g2 g3 g4 g5 g6 g7 g8
    have e0 : ρ 0 = x0 := hx 0 (by decide)
    have e1 : ρ 1 = x1 := hx 1 (by decide)
    have e2 : ρ 2 = x2 := hx 2 (by decide)
    have e3 : ρ 3 = x3 := hx 3 (by decide)
    subst e0
    subst e1
    subst e2
    subst e3
    have g7 := g7 (by decide)
    match Lc, stc, g7, g8 with
    | [v0, v1, v2, v3, v4, v5], [], ⟨hv0, hv1, hv2, hv3, hv4, hv5, _⟩, _ =>
      cases hv0
      cases hv1
      cases hv2
      cases hv3
      cases hv4
      exact l0 τ ρ v5 hv5 g1 g2 g3 g4 g5 g6
set_option maxRecDepth 100000 in
theorem wzwt_62 {σ : pm_S} {Q : Option Value → pm_S → Prop} (x0 x1 x2 x3 : Int) (v5 : Value) (hv5 : v5.category = 1) (hB : an_GB pm_B σ) (eF : (0 ≤ x0 ∧ x0 ≤ 31) ∧ (0 ≤ x1 ∧ x1 ≤ 30) ∧ (0 ≤ x2 ∧ x2 ≤ 30) ∧ (0 ≤ x3 ∧ x3 ≤ 30) ∧ True)
    (l0 : ∀ (τ : pm_S) (y : Nat → Int), an_GB pm_B τ → FQ [] σ τ → ((0 ≤ x0 ∧ x0 ≤ 31) ∧ (0 ≤ x1 ∧ x1 ≤ 30) ∧ (0 ≤ x2 ∧ x2 ≤ 30) ∧ (0 ≤ x3 ∧ x3 ≤ 30) ∧ ((-30) ≤ y 4 ∧ y 4 ≤ 30) ∧ True) → (True) → ((an_f 1 (Int32.ofInt (x1)) (Int32.ofInt (x2))).toInt = y 4 ∧ True) → (True) → Q (some (.int (Int32.ofInt (y 4)))) τ)
    : Ok 57 9 62 [.ref 21, .int (Int32.ofInt (x0)), .int (Int32.ofInt (x1)), .int (Int32.ofInt (x2)), .int (Int32.ofInt (x3)), v5] [] σ Q := by
  refine an_seg (B := pm_B) (F := []) (T := []) (S := []) (fun _ h => absurd h List.not_mem_nil) (k := 57) (d := 8) (cs := []) 6 62 4 [(0, 0, 31), (1, 0, 30), (2, 0, 30), (3, 0, 30)] [] [(2, 21, 0), (0, 0, 0), (0, 1, 0), (0, 2, 0), (0, 3, 0), (5, 0, 0)] [] [(9999, [], [(0, 4, 0)], [(0, 0, 31), (1, 0, 30), (2, 0, 30), (3, 0, 30), (4, (-30), 30)], [], [(1, (0, 1, 0), (0, 2, 0), 4)], [])] (by decide +kernel) (ρ0 := (fun s => [x0, x1, x2, x3].getD s 0)) hB eF trivial ⟨rfl, ⟨rfl, ⟨rfl, ⟨rfl, ⟨rfl, ⟨hv5, trivial⟩⟩⟩⟩⟩⟩ trivial ?_
  refine List.forall_mem_cons.mpr ⟨?_, fun _ h => absurd h List.not_mem_nil⟩
  · intro ρ τ Lc stc hx g1 g2 g3 g4 g5 g6 g7 g8
    have e0 : ρ 0 = x0 := hx 0 (by decide)
    have e1 : ρ 1 = x1 := hx 1 (by decide)
    have e2 : ρ 2 = x2 := hx 2 (by decide)
    have e3 : ρ 3 = x3 := hx 3 (by decide)
    subst e0
    subst e1
    subst e2
    subst e3
    match stc, g8 with
    | [_], ⟨h, _⟩ => cases h; exact l0 τ ρ g1 g2 g3 g4 g5 g6
set_option maxRecDepth 100000 in
theorem wzwm_0 {σ : pm_S} {Q : Option Value → pm_S → Prop} (x0 x1 : Int) (v3 : Value) (v4 : Value) (hv3 : v3.category = 1) (hv4 : v4.category = 1) (hB : an_GB pm_B σ) (eF : (0 ≤ x0 ∧ x0 ≤ 31) ∧ (0 ≤ x1 ∧ x1 ≤ 31) ∧ True)
    (l0 : ∀ (τ : pm_S) (y : Nat → Int), an_GB pm_B τ → FQ [] σ τ → ((0 ≤ x0 ∧ x0 ≤ 31) ∧ (0 ≤ x1 ∧ x1 ≤ 31) ∧ True) → (True) → (True) → (True) → Ok 58 9 4 [.ref 21, .int (Int32.ofInt (x0)), .int (Int32.ofInt (x1)), .int (Int32.ofInt 0), .int (Int32.ofInt 0)] [] τ Q)
    : Ok 58 9 0 [.ref 21, .int (Int32.ofInt (x0)), .int (Int32.ofInt (x1)), v3, v4] [] σ Q := by
  refine an_seg (B := pm_B) (F := []) (T := []) (S := []) (fun _ h => absurd h List.not_mem_nil) (k := 58) (d := 8) (cs := [4]) 6 0 2 [(0, 0, 31), (1, 0, 31)] [] [(2, 21, 0), (0, 0, 0), (0, 1, 0), (5, 0, 0), (5, 0, 0)] [] [(4, [(2, 21, 0), (0, 0, 0), (0, 1, 0), (1, 0, 0), (1, 0, 0)], [], [(0, 0, 31), (1, 0, 31)], [], [], [])] (by decide +kernel) (ρ0 := (fun s => [x0, x1].getD s 0)) hB eF trivial ⟨rfl, ⟨rfl, ⟨rfl, ⟨hv3, ⟨hv4, trivial⟩⟩⟩⟩⟩ trivial ?_
  refine List.forall_mem_cons.mpr ⟨?_, fun _ h => absurd h List.not_mem_nil⟩
  · intro ρ τ Lc stc hx g1 g2 g3 g4 g5 g6 g7 g8
    have e0 : ρ 0 = x0 := hx 0 (by decide)
    have e1 : ρ 1 = x1 := hx 1 (by decide)
    subst e0
    subst e1
    have g7 := g7 (by decide)
    match Lc, stc, g7, g8 with
    | [v0, v1, v2, v3, v4], [], ⟨hv0, hv1, hv2, hv3, hv4, _⟩, _ =>
      cases hv0
      cases hv1
      cases hv2
      cases hv3
      cases hv4
      exact l0 τ ρ  g1 g2 g3 g4 g5 g6
set_option maxRecDepth 100000 in
theorem wzwm_4 {σ : pm_S} {Q : Option Value → pm_S → Prop} (x0 x1 x2 x3 x4 : Int)  (hB : an_GB pm_B σ) (eF : (0 ≤ x0 ∧ x0 ≤ 31) ∧ (0 ≤ x1 ∧ x1 ≤ 31) ∧ (0 ≤ x2 ∧ x2 ≤ 30) ∧ (0 ≤ x3 ∧ x3 ≤ 30) ∧ (0 ≤ x4 ∧ x4 ≤ 30) ∧ True) (eC : (σ.1 21 0).toInt = x4 ∧ True)
    (l0 : ∀ (τ : pm_S) (y : Nat → Int), an_GB pm_B τ → FQ [] σ τ → ((0 ≤ x0 ∧ x0 ≤ 31) ∧ (0 ≤ x1 ∧ x1 ≤ 31) ∧ (0 ≤ x2 ∧ x2 ≤ 30) ∧ (0 ≤ x3 ∧ x3 ≤ 30) ∧ (0 ≤ x4 ∧ x4 ≤ 30) ∧ True) → (True) → (True) → ((τ.1 21 0).toInt = x4 ∧ True) → Ok 58 9 7 [.ref 21, .int (Int32.ofInt (x0)), .int (Int32.ofInt (x1)), .int (Int32.ofInt (x2)), .int (Int32.ofInt (x3))] [.int (Int32.ofInt (x4)), .int (Int32.ofInt (x3))] τ Q)
    : Ok 58 9 4 [.ref 21, .int (Int32.ofInt (x0)), .int (Int32.ofInt (x1)), .int (Int32.ofInt (x2)), .int (Int32.ofInt (x3))] [] σ Q := by
  refine an_seg (B := pm_B) (F := []) (T := []) (S := []) (fun _ h => absurd h List.not_mem_nil) (k := 58) (d := 8) (cs := [7]) 5 4 5 [(0, 0, 31), (1, 0, 31), (2, 0, 30), (3, 0, 30), (4, 0, 30)] [(21, (1, 0, 0), (0, 4, 0))] [(2, 21, 0), (0, 0, 0), (0, 1, 0), (0, 2, 0), (0, 3, 0)] [] [(7, [(2, 21, 0), (0, 0, 0), (0, 1, 0), (0, 2, 0), (0, 3, 0)], [(0, 4, 0), (0, 3, 0)], [(0, 0, 31), (1, 0, 31), (2, 0, 30), (3, 0, 30), (4, 0, 30)], [], [], [(21, (1, 0, 0), (0, 4, 0))])] (by decide +kernel) (ρ0 := (fun s => [x0, x1, x2, x3, x4].getD s 0)) hB eF eC ⟨rfl, ⟨rfl, ⟨rfl, ⟨rfl, ⟨rfl, trivial⟩⟩⟩⟩⟩ trivial ?_
  refine List.forall_mem_cons.mpr ⟨?_, fun _ h => absurd h List.not_mem_nil⟩
  · intro ρ τ Lc stc hx g1 g2 g3 g4 g5 g6 g7 g8
    have e0 : ρ 0 = x0 := hx 0 (by decide)
    have e1 : ρ 1 = x1 := hx 1 (by decide)
    have e2 : ρ 2 = x2 := hx 2 (by decide)
    have e3 : ρ 3 = x3 := hx 3 (by decide)
    have e4 : ρ 4 = x4 := hx 4 (by decide)
    subst e0
    subst e1
    subst e2
    subst e3
    subst e4
    have g7 := g7 (by decide)
    match Lc, stc, g7, g8 with
    | [v0, v1, v2, v3, v4], [w0, w1], ⟨hv0, hv1, hv2, hv3, hv4, _⟩, ⟨hw0, hw1, _⟩ =>
      cases hv0
      cases hv1
      cases hv2
      cases hv3
      cases hv4
      cases hw0
      cases hw1
      exact l0 τ ρ  g1 g2 g3 g4 g5 g6
set_option maxRecDepth 100000 in
theorem wzwm_8 {σ : pm_S} {Q : Option Value → pm_S → Prop} (x0 x1 x2 x3 : Int)  (hB : an_GB pm_B σ) (eF : (0 ≤ x0 ∧ x0 ≤ 31) ∧ (0 ≤ x1 ∧ x1 ≤ 31) ∧ (0 ≤ x2 ∧ x2 ≤ 29) ∧ (0 ≤ x3 ∧ x3 ≤ 29) ∧ True)
    (l0 : ∀ (τ : pm_S) (y : Nat → Int), an_GB pm_B τ → FQ [] σ τ → ((0 ≤ x0 ∧ x0 ≤ 31) ∧ (0 ≤ x1 ∧ x1 ≤ 31) ∧ (0 ≤ x2 ∧ x2 ≤ 29) ∧ (0 ≤ x3 ∧ x3 ≤ 29) ∧ ((-2147483648) ≤ y 4 ∧ y 4 ≤ 2147483647) ∧ (0 ≤ y 5 ∧ y 5 ≤ 0) ∧ True) → (y 5 ≤ x0 + 0 ∧ True) → ((an_f 3 (Int32.ofInt (y 4)) (Int32.ofInt (x0))).toInt = y 5 ∧ True) → ((τ.1 26 (x3).toNat).toInt = y 4 ∧ True) → Ok 58 9 4 [.ref 21, .int (Int32.ofInt (x0)), .int (Int32.ofInt (x1)), .int (Int32.ofInt (x2)), .int (Int32.ofInt (x3 + 1))] [] τ Q)
    (l1 : ∀ (τ : pm_S) (y : Nat → Int), an_GB pm_B τ → FQ [] σ τ → ((0 ≤ x0 ∧ x0 ≤ 31) ∧ (0 ≤ x1 ∧ x1 ≤ 31) ∧ (0 ≤ x2 ∧ x2 ≤ 29) ∧ (0 ≤ x3 ∧ x3 ≤ 29) ∧ ((-2147483648) ≤ y 4 ∧ y 4 ≤ 2147483647) ∧ (1 ≤ y 5 ∧ y 5 ≤ 31) ∧ (0 ≤ y 6 ∧ y 6 ≤ 0) ∧ True) → (y 6 ≤ x1 + 0 ∧ y 5 ≤ x0 + 0 ∧ True) → ((an_f 3 (Int32.ofInt (y 4)) (Int32.ofInt (x0))).toInt = y 5 ∧ (an_f 3 (Int32.ofInt (y 4)) (Int32.ofInt (x1))).toInt = y 6 ∧ True) → ((τ.1 26 (x3).toNat).toInt = y 4 ∧ True) → Ok 58 9 4 [.ref 21, .int (Int32.ofInt (x0)), .int (Int32.ofInt (x1)), .int (Int32.ofInt (x2)), .int (Int32.ofInt (x3 + 1))] [] τ Q)
    (l2 : ∀ (τ : pm_S) (y : Nat → Int), an_GB pm_B τ → FQ [] σ τ → ((0 ≤ x0 ∧ x0 ≤ 31) ∧ (0 ≤ x1 ∧ x1 ≤ 31) ∧ (0 ≤ x2 ∧ x2 ≤ 29) ∧ (0 ≤ x3 ∧ x3 ≤ 29) ∧ ((-2147483648) ≤ y 4 ∧ y 4 ≤ 2147483647) ∧ (1 ≤ y 5 ∧ y 5 ≤ 31) ∧ (1 ≤ y 6 ∧ y 6 ≤ 31) ∧ True) → (y 6 ≤ x1 + 0 ∧ y 5 ≤ x0 + 0 ∧ True) → ((an_f 3 (Int32.ofInt (y 4)) (Int32.ofInt (x0))).toInt = y 5 ∧ (an_f 3 (Int32.ofInt (y 4)) (Int32.ofInt (x1))).toInt = y 6 ∧ True) → ((τ.1 26 (x3).toNat).toInt = y 4 ∧ True) → Ok 58 9 4 [.ref 21, .int (Int32.ofInt (x0)), .int (Int32.ofInt (x1)), .int (Int32.ofInt (x2 + 1)), .int (Int32.ofInt (x3 + 1))] [] τ Q)
    : Ok 58 9 8 [.ref 21, .int (Int32.ofInt (x0)), .int (Int32.ofInt (x1)), .int (Int32.ofInt (x2)), .int (Int32.ofInt (x3))] [] σ Q := by
  refine an_seg (B := pm_B) (F := []) (T := [26]) (S := []) (fun _ h => absurd h List.not_mem_nil) (k := 58) (d := 8) (cs := [4]) 23 8 4 [(0, 0, 31), (1, 0, 31), (2, 0, 29), (3, 0, 29)] [] [(2, 21, 0), (0, 0, 0), (0, 1, 0), (0, 2, 0), (0, 3, 0)] [] [(4, [(2, 21, 0), (0, 0, 0), (0, 1, 0), (0, 2, 0), (0, 3, 1)], [], [(0, 0, 31), (1, 0, 31), (2, 0, 29), (3, 0, 29), (4, (-2147483648), 2147483647), (5, 0, 0)], [(1, 5, 0, 0)], [(3, (0, 4, 0), (0, 0, 0), 5)], [(26, (0, 3, 0), (0, 4, 0))]),
    (4, [(2, 21, 0), (0, 0, 0), (0, 1, 0), (0, 2, 0), (0, 3, 1)], [], [(0, 0, 31), (1, 0, 31), (2, 0, 29), (3, 0, 29), (4, (-2147483648), 2147483647), (5, 1, 31), (6, 0, 0)], [(1, 6, 1, 0), (1, 5, 0, 0)], [(3, (0, 4, 0), (0, 0, 0), 5), (3, (0, 4, 0), (0, 1, 0), 6)], [(26, (0, 3, 0), (0, 4, 0))]),
    (4, [(2, 21, 0), (0, 0, 0), (0, 1, 0), (0, 2, 1), (0, 3, 1)], [], [(0, 0, 31), (1, 0, 31), (2, 0, 29), (3, 0, 29), (4, (-2147483648), 2147483647), (5, 1, 31), (6, 1, 31)], [(1, 6, 1, 0), (1, 5, 0, 0)], [(3, (0, 4, 0), (0, 0, 0), 5), (3, (0, 4, 0), (0, 1, 0), 6)], [(26, (0, 3, 0), (0, 4, 0))])] (by decide +kernel) (ρ0 := (fun s => [x0, x1, x2, x3].getD s 0)) hB eF trivial ⟨rfl, ⟨rfl, ⟨rfl, ⟨rfl, ⟨rfl, trivial⟩⟩⟩⟩⟩ trivial ?_
  refine List.forall_mem_cons.mpr ⟨?_, List.forall_mem_cons.mpr ⟨?_, List.forall_mem_cons.mpr ⟨?_, fun _ h => absurd h List.not_mem_nil⟩⟩⟩
  · intro ρ τ Lc stc hx g1 g2 g3 g4 g5 g6 g7 g8
    have e0 : ρ 0 = x0 := hx 0 (by decide)
    have e1 : ρ 1 = x1 := hx 1 (by decide)
    have e2 : ρ 2 = x2 := hx 2 (by decide)
    have e3 : ρ 3 = x3 := hx 3 (by decide)
    subst e0
    subst e1
    subst e2
    subst e3
    have g7 := g7 (by decide)
    match Lc, stc, g7, g8 with
    | [v0, v1, v2, v3, v4], [], ⟨hv0, hv1, hv2, hv3, hv4, _⟩, _ =>
      cases hv0
      cases hv1
      cases hv2
      cases hv3
      cases hv4
      exact l0 τ ρ  g1 g2 g3 g4 g5 g6
  · intro ρ τ Lc stc hx g1 g2 g3 g4 g5 g6 g7 g8
    have e0 : ρ 0 = x0 := hx 0 (by decide)
    have e1 : ρ 1 = x1 := hx 1 (by decide)
    have e2 : ρ 2 = x2 := hx 2 (by decide)
    have e3 : ρ 3 = x3 := hx 3 (by decide)
    subst e0
    subst e1
    subst e2
    subst e3
    have g7 := g7 (by decide)
    match Lc, stc, g7, g8 with
    | [v0, v1, v2, v3, v4], [], ⟨hv0, hv1, hv2, hv3, hv4, _⟩, _ =>
      cases hv0
      cases hv1
      cases hv2
      cases hv3
      cases hv4
      exact l1 τ ρ  g1 g2 g3 g4 g5 g6
  · intro ρ τ Lc stc hx g1 g2 g3 g4 g5 g6 g7 g8
    have e0 : ρ 0 = x0 := hx 0 (by decide)
    have e1 : ρ 1 = x1 := hx 1 (by decide)
    have e2 : ρ 2 = x2 := hx 2 (by decide)
    have e3 : ρ 3 = x3 := hx 3 (by decide)
    subst e0
    subst e1
    subst e2
    subst e3
    have g7 := g7 (by decide)
    match Lc, stc, g7, g8 with
    | [v0, v1, v2, v3, v4], [], ⟨hv0, hv1, hv2, hv3, hv4, _⟩, _ =>
      cases hv0
      cases hv1
      cases hv2
      cases hv3
      cases hv4
      exact l2 τ ρ  g1 g2 g3 g4 g5 g6
set_option maxRecDepth 100000 in
theorem wzwm_30 {σ : pm_S} {Q : Option Value → pm_S → Prop} (x0 x1 x2 x3 : Int)  (hB : an_GB pm_B σ) (eF : (0 ≤ x0 ∧ x0 ≤ 31) ∧ (0 ≤ x1 ∧ x1 ≤ 31) ∧ (0 ≤ x2 ∧ x2 ≤ 30) ∧ (0 ≤ x3 ∧ x3 ≤ 30) ∧ True)
    (l0 : ∀ (τ : pm_S) (y : Nat → Int), an_GB pm_B τ → FQ [] σ τ → ((0 ≤ x0 ∧ x0 ≤ 31) ∧ (0 ≤ x1 ∧ x1 ≤ 31) ∧ (0 ≤ x2 ∧ x2 ≤ 30) ∧ (0 ≤ x3 ∧ x3 ≤ 30) ∧ True) → (True) → (True) → (True) → Q (some (.int (Int32.ofInt (x2)))) τ)
    : Ok 58 9 30 [.ref 21, .int (Int32.ofInt (x0)), .int (Int32.ofInt (x1)), .int (Int32.ofInt (x2)), .int (Int32.ofInt (x3))] [] σ Q := by
  refine an_seg (B := pm_B) (F := []) (T := []) (S := []) (fun _ h => absurd h List.not_mem_nil) (k := 58) (d := 8) (cs := []) 4 30 4 [(0, 0, 31), (1, 0, 31), (2, 0, 30), (3, 0, 30)] [] [(2, 21, 0), (0, 0, 0), (0, 1, 0), (0, 2, 0), (0, 3, 0)] [] [(9999, [], [(0, 2, 0)], [(0, 0, 31), (1, 0, 31), (2, 0, 30), (3, 0, 30)], [], [], [])] (by decide +kernel) (ρ0 := (fun s => [x0, x1, x2, x3].getD s 0)) hB eF trivial ⟨rfl, ⟨rfl, ⟨rfl, ⟨rfl, ⟨rfl, trivial⟩⟩⟩⟩⟩ trivial ?_
  refine List.forall_mem_cons.mpr ⟨?_, fun _ h => absurd h List.not_mem_nil⟩
  · intro ρ τ Lc stc hx g1 g2 g3 g4 g5 g6 g7 g8
    have e0 : ρ 0 = x0 := hx 0 (by decide)
    have e1 : ρ 1 = x1 := hx 1 (by decide)
    have e2 : ρ 2 = x2 := hx 2 (by decide)
    have e3 : ρ 3 = x3 := hx 3 (by decide)
    subst e0
    subst e1
    subst e2
    subst e3
    match stc, g8 with
    | [_], ⟨h, _⟩ => cases h; exact l0 τ ρ g1 g2 g3 g4 g5 g6
set_option maxRecDepth 100000 in
theorem wzwo_0 {σ : pm_S} {Q : Option Value → pm_S → Prop} (x0 : Int) (v2 : Value) (v3 : Value) (v4 : Value) (v5 : Value) (v6 : Value) (v7 : Value) (hv2 : v2.category = 1) (hv3 : v3.category = 1) (hv4 : v4.category = 1) (hv5 : v5.category = 1) (hv6 : v6.category = 1) (hv7 : v7.category = 1) (hB : an_GB pm_B σ) (eF : (1 ≤ x0 ∧ x0 ≤ 31) ∧ True)
    (l0 : ∀ (τ : pm_S) (y : Nat → Int) (v6 : Value) (v7 : Value), v6.category = 1 → v7.category = 1 → an_GB pm_B τ → FQ [] σ τ → ((1 ≤ x0 ∧ x0 ≤ 31) ∧ ((-31) ≤ y 1 ∧ y 1 ≤ (-1)) ∧ (1 ≤ y 2 ∧ y 2 ≤ 31) ∧ ((-32) ≤ y 3 ∧ y 3 ≤ (-2)) ∧ (0 ≤ y 4 ∧ y 4 ≤ 31) ∧ ((-2147483648) ≤ y 5 ∧ y 5 ≤ 2147483647) ∧ True) → (y 4 ≤ x0 + 0 ∧ y 2 ≤ x0 + 0 ∧ True) → ((an_f 15 (Int32.ofInt (x0)) (Int32.ofInt (0))).toInt = y 1 ∧ (an_f 3 (Int32.ofInt (x0)) (Int32.ofInt (y 1))).toInt = y 2 ∧ (an_f 5 (Int32.ofInt (y 2)) (Int32.ofInt ((-1)))).toInt = y 3 ∧ (an_f 3 (Int32.ofInt (x0)) (Int32.ofInt (y 3))).toInt = y 4 ∧ True) → ((τ.1 29 (x0).toNat).toInt = y 5 ∧ True) → Ok 56 13 18 [.ref 21, .int (Int32.ofInt (x0)), .int (Int32.ofInt (y 2)), .int (Int32.ofInt (y 4)), .int (Int32.ofInt (y 5)), .int (Int32.ofInt (y 4)), v6, v7] [] τ Q)
    : Ok 56 13 0 [.ref 21, .int (Int32.ofInt (x0)), v2, v3, v4, v5, v6, v7] [] σ Q := by
  refine an_seg (B := pm_B) (F := []) (T := [29]) (S := []) (fun _ h => absurd h List.not_mem_nil) (k := 56) (d := 12) (cs := [18]) 20 0 1 [(0, 1, 31)] [] [(2, 21, 0), (0, 0, 0), (5, 0, 0), (5, 0, 0), (5, 0, 0), (5, 0, 0), (5, 0, 0), (5, 0, 0)] [] [(18, [(2, 21, 0), (0, 0, 0), (0, 2, 0), (0, 4, 0), (0, 5, 0), (0, 4, 0), (5, 0, 0), (5, 0, 0)], [], [(0, 1, 31), (1, (-31), (-1)), (2, 1, 31), (3, (-32), (-2)), (4, 0, 31), (5, (-2147483648), 2147483647)], [(1, 4, 0, 0), (1, 2, 0, 0)], [(15, (0, 0, 0), (1, 0, 0), 1), (3, (0, 0, 0), (0, 1, 0), 2), (5, (0, 2, 0), (1, 0, (-1)), 3), (3, (0, 0, 0), (0, 3, 0), 4)], [(29, (0, 0, 0), (0, 5, 0))])] (by decide +kernel) (ρ0 := (fun s => [x0].getD s 0)) hB eF trivial ⟨rfl, ⟨rfl, ⟨hv2, ⟨hv3, ⟨hv4, ⟨hv5, ⟨hv6, ⟨hv7, trivial⟩⟩⟩⟩⟩⟩⟩⟩ trivial ?_
  refine List.forall_mem_cons.mpr ⟨?_, fun _ h => absurd h List.not_mem_nil⟩
  · intro ρ τ Lc stc hx g1 g2 g3 g4 g5 g6 g7 g8
    have e0 : ρ 0 = x0 := hx 0 (by decide)
    subst e0
    have g7 := g7 (by decide)
    match Lc, stc, g7, g8 with
    | [v0, v1, v2, v3, v4, v5, v6, v7], [], ⟨hv0, hv1, hv2, hv3, hv4, hv5, hv6, hv7, _⟩, _ =>
      cases hv0
      cases hv1
      cases hv2
      cases hv3
      cases hv4
      cases hv5
      exact l0 τ ρ v6 v7 hv6 hv7 g1 g2 g3 g4 g5 g6
set_option maxRecDepth 100000 in
theorem wzwo_18 {σ : pm_S} {Q : Option Value → pm_S → Prop} (x0 x1 x2 x3 x4 : Int) (v6 : Value) (v7 : Value) (hv6 : v6.category = 1) (hv7 : v7.category = 1) (hB : an_GB pm_B σ) (eF : (1 ≤ x0 ∧ x0 ≤ 31) ∧ ((-2147483648) ≤ x1 ∧ x1 ≤ 2147483647) ∧ (0 ≤ x2 ∧ x2 ≤ 31) ∧ ((-2147483648) ≤ x3 ∧ x3 ≤ 2147483647) ∧ (0 ≤ x4 ∧ x4 ≤ 31) ∧ True)
    (l0 : ∀ (τ : pm_S) (y : Nat → Int) (v6 : Value) (v7 : Value), v6.category = 1 → v7.category = 1 → an_GB pm_B τ → FQ [] σ τ → ((1 ≤ x0 ∧ x0 ≤ 31) ∧ ((-2147483648) ≤ x1 ∧ x1 ≤ 2147483647) ∧ (0 ≤ x2 ∧ x2 ≤ 31) ∧ ((-2147483648) ≤ x3 ∧ x3 ≤ 2147483647) ∧ (0 ≤ x4 ∧ x4 ≤ 0) ∧ True) → (True) → (True) → (True) → Ok 56 13 52 [.ref 21, .int (Int32.ofInt (x0)), .int (Int32.ofInt (x1)), .int (Int32.ofInt (x2)), .int (Int32.ofInt (x3)), .int (Int32.ofInt (x4)), v6, v7] [] τ Q)
    (l1 : ∀ (τ : pm_S) (y : Nat → Int) (v7 : Value), v7.category = 1 → an_GB pm_B τ → FQ [] σ τ → ((1 ≤ x0 ∧ x0 ≤ 31) ∧ ((-2147483648) ≤ x1 ∧ x1 ≤ 2147483647) ∧ (0 ≤ x2 ∧ x2 ≤ 31) ∧ ((-2147483648) ≤ x3 ∧ x3 ≤ 2147483647) ∧ (1 ≤ x4 ∧ x4 ≤ 31) ∧ ((-32) ≤ y 5 ∧ y 5 ≤ (-2)) ∧ (0 ≤ y 6 ∧ y 6 ≤ 31) ∧ ((-2147483648) ≤ y 7 ∧ y 7 ≤ 2147483647) ∧ ((-2147483648) ≤ y 8 ∧ y 8 ≤ 2147483647) ∧ ((-2147483648) ≤ y 9 ∧ y 9 ≤ 2147483647) ∧ True) → (y 6 ≤ x0 + 0 ∧ True) → ((an_f 5 (Int32.ofInt (x4)) (Int32.ofInt ((-1)))).toInt = y 5 ∧ (an_f 3 (Int32.ofInt (x0)) (Int32.ofInt (y 5))).toInt = y 6 ∧ (an_f 0 (Int32.ofInt (y 7)) (Int32.ofInt (y 8))).toInt = y 9 ∧ True) → ((τ.1 29 (y 6).toNat).toInt = y 7 ∧ (τ.1 30 (x4).toNat).toInt = y 8 ∧ True) → Ok 56 13 38 [.ref 21, .int (Int32.ofInt (x0)), .int (Int32.ofInt (x1)), .int (Int32.ofInt (x2)), .int (Int32.ofInt (x3)), .int (Int32.ofInt (x4)), .int (Int32.ofInt (y 6)), v7] [.int (Int32.ofInt (x4)), .int (Int32.ofInt (y 6)), .ref 21, .int (Int32.ofInt (y 9))] τ Q)
    : Ok 56 13 18 [.ref 21, .int (Int32.ofInt (x0)), .int (Int32.ofInt (x1)), .int (Int32.ofInt (x2)), .int (Int32.ofInt (x3)), .int (Int32.ofInt (x4)), v6, v7] [] σ Q := by
  refine an_seg (B := pm_B) (F := []) (T := [29, 30]) (S := []) (fun _ h => absurd h List.not_mem_nil) (k := 56) (d := 12) (cs := [38, 52]) 22 18 5 [(0, 1, 31), (1, (-2147483648), 2147483647), (2, 0, 31), (3, (-2147483648), 2147483647), (4, 0, 31)] [] [(2, 21, 0), (0, 0, 0), (0, 1, 0), (0, 2, 0), (0, 3, 0), (0, 4, 0), (5, 0, 0), (5, 0, 0)] [] [(52, [(2, 21, 0), (0, 0, 0), (0, 1, 0), (0, 2, 0), (0, 3, 0), (0, 4, 0), (5, 0, 0), (5, 0, 0)], [], [(0, 1, 31), (1, (-2147483648), 2147483647), (2, 0, 31), (3, (-2147483648), 2147483647), (4, 0, 0)], [], [], []),
    (38, [(2, 21, 0), (0, 0, 0), (0, 1, 0), (0, 2, 0), (0, 3, 0), (0, 4, 0), (0, 6, 0), (5, 0, 0)], [(0, 4, 0), (0, 6, 0), (2, 21, 0), (0, 9, 0)], [(0, 1, 31), (1, (-2147483648), 2147483647), (2, 0, 31), (3, (-2147483648), 2147483647), (4, 1, 31), (5, (-32), (-2)), (6, 0, 31), (7, (-2147483648), 2147483647), (8, (-2147483648), 2147483647), (9, (-2147483648), 2147483647)], [(1, 6, 0, 0)], [(5, (0, 4, 0), (1, 0, (-1)), 5), (3, (0, 0, 0), (0, 5, 0), 6), (0, (0, 7, 0), (0, 8, 0), 9)], [(29, (0, 6, 0), (0, 7, 0)), (30, (0, 4, 0), (0, 8, 0))])] (by decide +kernel) (ρ0 := (fun s => [x0, x1, x2, x3, x4].getD s 0)) hB eF trivial ⟨rfl, ⟨rfl, ⟨rfl, ⟨rfl, ⟨rfl, ⟨rfl, ⟨hv6, ⟨hv7, trivial⟩⟩⟩⟩⟩⟩⟩⟩ trivial ?_
  refine List.forall_mem_cons.mpr ⟨?_, List.forall_mem_cons.mpr ⟨?_, fun _ h => absurd h List.not_mem_nil⟩⟩
  · intro ρ τ Lc stc hx g1 g2 g3 g4 g5 g6 g7 g8
    have e0 : ρ 0 = x0 := hx 0 (by decide)
    have e1 : ρ 1 = x1 := hx 1 (by decide)
    have e2 : ρ 2 = x2 := hx 2 (by decide)
    have e3 : ρ 3 = x3 := hx 3 (by decide)
    have e4 : ρ 4 = x4 := hx 4 (by decide)
    subst e0
    subst e1
    subst e2
    subst e3
    subst e4
    have g7 := g7 (by decide)
    match Lc, stc, g7, g8 with
    | [v0, v1, v2, v3, v4, v5, v6, v7], [], ⟨hv0, hv1, hv2, hv3, hv4, hv5, hv6, hv7, _⟩, _ =>
      cases hv0
      cases hv1
      cases hv2
      cases hv3
      cases hv4
      cases hv5
      exact l0 τ ρ v6 v7 hv6 hv7 g1 g2 g3 g4 g5 g6
  · intro ρ τ Lc stc hx g1 g2 g3 g4 g5 g6 g7 g8
    have e0 : ρ 0 = x0 := hx 0 (by decide)
    have e1 : ρ 1 = x1 := hx 1 (by decide)
    have e2 : ρ 2 = x2 := hx 2 (by decide)
    have e3 : ρ 3 = x3 := hx 3 (by decide)
    have e4 : ρ 4 = x4 := hx 4 (by decide)
    subst e0
    subst e1
    subst e2
    subst e3
    subst e4
    have g7 := g7 (by decide)
    match Lc, stc, g7, g8 with
    | [v0, v1, v2, v3, v4, v5, v6, v7], [w0, w1, w2, w3], ⟨hv0, hv1, hv2, hv3, hv4, hv5, hv6, hv7, _⟩, ⟨hw0, hw1, hw2, hw3, _⟩ =>
      cases hv0
      cases hv1
      cases hv2
      cases hv3
      cases hv4
      cases hv5
      cases hv6
      cases hw0
      cases hw1
      cases hw2
      cases hw3
      exact l1 τ ρ v7 hv7 g1 g2 g3 g4 g5 g6
set_option maxRecDepth 100000 in
theorem wzwo_39 {σ : pm_S} {Q : Option Value → pm_S → Prop} (x0 x1 x2 x3 x4 x5 x6 x7 : Int) (v7 : Value) (hv7 : v7.category = 1) (hB : an_GB pm_B σ) (eF : (1 ≤ x0 ∧ x0 ≤ 31) ∧ ((-2147483648) ≤ x1 ∧ x1 ≤ 2147483647) ∧ (0 ≤ x2 ∧ x2 ≤ 31) ∧ ((-2147483648) ≤ x3 ∧ x3 ≤ 2147483647) ∧ (1 ≤ x4 ∧ x4 ≤ 31) ∧ (0 ≤ x5 ∧ x5 ≤ 31) ∧ ((-100000) ≤ x6 ∧ x6 ≤ 100000) ∧ (0 ≤ x7 ∧ x7 ≤ 30) ∧ True)
    (l0 : ∀ (τ : pm_S) (y : Nat → Int), an_GB pm_B τ → FQ [] σ τ → ((1 ≤ x0 ∧ x0 ≤ 31) ∧ ((-2147483648) ≤ x1 ∧ x1 ≤ 2147483647) ∧ (0 ≤ x2 ∧ x2 ≤ 31) ∧ ((-2147483648) ≤ x3 ∧ x3 ≤ 2147483647) ∧ (1 ≤ x4 ∧ x4 ≤ 31) ∧ (0 ≤ x5 ∧ x5 ≤ 31) ∧ ((-100000) ≤ x6 ∧ x6 ≤ 100000) ∧ (0 ≤ x7 ∧ x7 ≤ 30) ∧ ((-100000) ≤ y 8 ∧ y 8 ≤ 100030) ∧ ((-2147483648) ≤ y 9 ∧ y 9 ≤ 100030) ∧ (0 ≤ y 10 ∧ y 10 ≤ 30) ∧ True) → (y 10 ≤ x4 + (-1) ∧ y 10 ≤ x2 + 0 ∧ True) → ((an_f 0 (Int32.ofInt (x6)) (Int32.ofInt (x7))).toInt = y 8 ∧ (an_f 11 (Int32.ofInt (x3)) (Int32.ofInt (y 8))).toInt = y 9 ∧ (an_f 3 (Int32.ofInt (x4 + (-1))) (Int32.ofInt (x2))).toInt = y 10 ∧ True) → (True) → Ok 56 13 18 [.ref 21, .int (Int32.ofInt (x0)), .int (Int32.ofInt (x1)), .int (Int32.ofInt (x2)), .int (Int32.ofInt (y 9)), .int (Int32.ofInt (y 10)), .int (Int32.ofInt (x5)), .int (Int32.ofInt (y 8))] [] τ Q)
    : Ok 56 13 39 [.ref 21, .int (Int32.ofInt (x0)), .int (Int32.ofInt (x1)), .int (Int32.ofInt (x2)), .int (Int32.ofInt (x3)), .int (Int32.ofInt (x4)), .int (Int32.ofInt (x5)), v7] [.int (Int32.ofInt (x7)), .int (Int32.ofInt (x6))] σ Q := by
  refine an_seg (B := pm_B) (F := []) (T := []) (S := []) (fun _ h => absurd h List.not_mem_nil) (k := 56) (d := 12) (cs := [18]) 15 39 8 [(0, 1, 31), (1, (-2147483648), 2147483647), (2, 0, 31), (3, (-2147483648), 2147483647), (4, 1, 31), (5, 0, 31), (6, (-100000), 100000), (7, 0, 30)] [] [(2, 21, 0), (0, 0, 0), (0, 1, 0), (0, 2, 0), (0, 3, 0), (0, 4, 0), (0, 5, 0), (5, 0, 0)] [(0, 7, 0), (0, 6, 0)] [(18, [(2, 21, 0), (0, 0, 0), (0, 1, 0), (0, 2, 0), (0, 9, 0), (0, 10, 0), (0, 5, 0), (0, 8, 0)], [], [(0, 1, 31), (1, (-2147483648), 2147483647), (2, 0, 31), (3, (-2147483648), 2147483647), (4, 1, 31), (5, 0, 31), (6, (-100000), 100000), (7, 0, 30), (8, (-100000), 100030), (9, (-2147483648), 100030), (10, 0, 30)], [(1, 10, 4, (-1)), (1, 10, 2, 0)], [(0, (0, 6, 0), (0, 7, 0), 8), (11, (0, 3, 0), (0, 8, 0), 9), (3, (0, 4, (-1)), (0, 2, 0), 10)], [])] (by decide +kernel) (ρ0 := (fun s => [x0, x1, x2, x3, x4, x5, x6, x7].getD s 0)) hB eF trivial ⟨rfl, ⟨rfl, ⟨rfl, ⟨rfl, ⟨rfl, ⟨rfl, ⟨rfl, ⟨hv7, trivial⟩⟩⟩⟩⟩⟩⟩⟩ ⟨rfl, ⟨rfl, trivial⟩⟩ ?_
  refine List.forall_mem_cons.mpr ⟨?_, fun _ h => absurd h List.not_mem_nil⟩
  · intro ρ τ Lc stc hx g1 g2 g3 g4 g5 g6 g7 g8
    have e0 : ρ 0 = x0 := hx 0 (by decide)
    have e1 : ρ 1 = x1 := hx 1 (by decide)
    have e2 : ρ 2 = x2 := hx 2 (by decide)
    have e3 : ρ 3 = x3 := hx 3 (by decide)
    have e4 : ρ 4 = x4 := hx 4 (by decide)
    have e5 : ρ 5 = x5 := hx 5 (by decide)
    have e6 : ρ 6 = x6 := hx 6 (by decide)
    have e7 : ρ 7 = x7 := hx 7 (by decide)
    subst e0
    subst e1
    subst e2
    subst e3
    subst e4
    subst e5
    subst e6
    subst e7
    have g7 := g7 (by decide)
    match Lc, stc, g7, g8 with
    | [v0, v1, v2, v3, v4, v5, v6, v7], [], ⟨hv0, hv1, hv2, hv3, hv4, hv5, hv6, hv7, _⟩, _ =>
      cases hv0
      cases hv1
      cases hv2
      cases hv3
      cases hv4
      cases hv5
      cases hv6
      cases hv7
      exact l0 τ ρ  g1 g2 g3 g4 g5 g6
set_option maxRecDepth 100000 in
theorem wzwo_52 {σ : pm_S} {Q : Option Value → pm_S → Prop} (x0 x1 x2 x3 x4 : Int) (v6 : Value) (v7 : Value) (hv6 : v6.category = 1) (hv7 : v7.category = 1) (hB : an_GB pm_B σ) (eF : (1 ≤ x0 ∧ x0 ≤ 31) ∧ ((-2147483648) ≤ x1 ∧ x1 ≤ 2147483647) ∧ (0 ≤ x2 ∧ x2 ≤ 31) ∧ ((-2147483648) ≤ x3 ∧ x3 ≤ 2147483647) ∧ (0 ≤ x4 ∧ x4 ≤ 31) ∧ True)
    (l0 : ∀ (τ : pm_S) (y : Nat → Int), an_GB pm_B τ → FQ [] σ τ → ((1 ≤ x0 ∧ x0 ≤ 31) ∧ ((-2147483648) ≤ x1 ∧ x1 ≤ 2147483647) ∧ (0 ≤ x2 ∧ x2 ≤ 31) ∧ ((-2147483648) ≤ x3 ∧ x3 ≤ 2147483647) ∧ (0 ≤ x4 ∧ x4 ≤ 31) ∧ True) → (True) → (True) → (True) → Q (some (.int (Int32.ofInt (x3)))) τ)
    : Ok 56 13 52 [.ref 21, .int (Int32.ofInt (x0)), .int (Int32.ofInt (x1)), .int (Int32.ofInt (x2)), .int (Int32.ofInt (x3)), .int (Int32.ofInt (x4)), v6, v7] [] σ Q := by
  refine an_seg (B := pm_B) (F := []) (T := []) (S := []) (fun _ h => absurd h List.not_mem_nil) (k := 56) (d := 12) (cs := []) 4 52 5 [(0, 1, 31), (1, (-2147483648), 2147483647), (2, 0, 31), (3, (-2147483648), 2147483647), (4, 0, 31)] [] [(2, 21, 0), (0, 0, 0), (0, 1, 0), (0, 2, 0), (0, 3, 0), (0, 4, 0), (5, 0, 0), (5, 0, 0)] [] [(9999, [], [(0, 3, 0)], [(0, 1, 31), (1, (-2147483648), 2147483647), (2, 0, 31), (3, (-2147483648), 2147483647), (4, 0, 31)], [], [], [])] (by decide +kernel) (ρ0 := (fun s => [x0, x1, x2, x3, x4].getD s 0)) hB eF trivial ⟨rfl, ⟨rfl, ⟨rfl, ⟨rfl, ⟨rfl, ⟨rfl, ⟨hv6, ⟨hv7, trivial⟩⟩⟩⟩⟩⟩⟩⟩ trivial ?_
  refine List.forall_mem_cons.mpr ⟨?_, fun _ h => absurd h List.not_mem_nil⟩
  · intro ρ τ Lc stc hx g1 g2 g3 g4 g5 g6 g7 g8
    have e0 : ρ 0 = x0 := hx 0 (by decide)
    have e1 : ρ 1 = x1 := hx 1 (by decide)
    have e2 : ρ 2 = x2 := hx 2 (by decide)
    have e3 : ρ 3 = x3 := hx 3 (by decide)
    have e4 : ρ 4 = x4 := hx 4 (by decide)
    subst e0
    subst e1
    subst e2
    subst e3
    subst e4
    match stc, g8 with
    | [_], ⟨h, _⟩ => cases h; exact l0 τ ρ g1 g2 g3 g4 g5 g6
set_option maxRecDepth 100000 in
theorem wzwf_0 {σ : pm_S} {Q : Option Value → pm_S → Prop} (x0 : Int) (v2 : Value) (v3 : Value) (v4 : Value) (hv2 : v2.category = 1) (hv3 : v3.category = 1) (hv4 : v4.category = 1) (hB : an_GB pm_B σ) (eF : (0 ≤ x0 ∧ x0 ≤ 9999) ∧ True)
    (l0 : ∀ (τ : pm_S) (y : Nat → Int) (v2 : Value) (v3 : Value) (v4 : Value), v2.category = 1 → v3.category = 1 → v4.category = 1 → an_GB pm_B τ → FQ [] σ τ → ((0 ≤ x0 ∧ x0 ≤ 9999) ∧ True) → (True) → (True) → (True) → Ok 52 19 2 [.ref 21, .int (Int32.ofInt (x0)), v2, v3, v4] [.int (Int32.ofInt (x0)), .ref 21] τ Q)
    : Ok 52 19 0 [.ref 21, .int (Int32.ofInt (x0)), v2, v3, v4] [] σ Q := by
  refine an_seg (B := pm_B) (F := []) (T := []) (S := []) (fun _ h => absurd h List.not_mem_nil) (k := 52) (d := 18) (cs := [2]) 4 0 1 [(0, 0, 9999)] [] [(2, 21, 0), (0, 0, 0), (5, 0, 0), (5, 0, 0), (5, 0, 0)] [] [(2, [(2, 21, 0), (0, 0, 0), (5, 0, 0), (5, 0, 0), (5, 0, 0)], [(0, 0, 0), (2, 21, 0)], [(0, 0, 9999)], [], [], [])] (by decide +kernel) (ρ0 := (fun s => [x0].getD s 0)) hB eF trivial ⟨rfl, ⟨rfl, ⟨hv2, ⟨hv3, ⟨hv4, trivial⟩⟩⟩⟩⟩ trivial ?_
  refine List.forall_mem_cons.mpr ⟨?_, fun _ h => absurd h List.not_mem_nil⟩
  · intro ρ τ Lc stc hx g1 g2 g3 g4 g5 g6 g7 g8
    have e0 : ρ 0 = x0 := hx 0 (by decide)
    subst e0
    have g7 := g7 (by decide)
    match Lc, stc, g7, g8 with
    | [v0, v1, v2, v3, v4], [w0, w1], ⟨hv0, hv1, hv2, hv3, hv4, _⟩, ⟨hw0, hw1, _⟩ =>
      cases hv0
      cases hv1
      cases hw0
      cases hw1
      exact l0 τ ρ v2 v3 v4 hv2 hv3 hv4 g1 g2 g3 g4 g5 g6
set_option maxRecDepth 100000 in
theorem wzwf_3 {σ : pm_S} {Q : Option Value → pm_S → Prop} (x0 x1 : Int) (v2 : Value) (v3 : Value) (v4 : Value) (hv2 : v2.category = 1) (hv3 : v3.category = 1) (hv4 : v4.category = 1) (hB : an_GB pm_B σ) (eF : (0 ≤ x0 ∧ x0 ≤ 9999) ∧ (0 ≤ x1 ∧ x1 ≤ 10) ∧ True)
    (l0 : ∀ (τ : pm_S) (y : Nat → Int) (v4 : Value), v4.category = 1 → an_GB pm_B τ → FQ [] σ τ → ((0 ≤ x0 ∧ x0 ≤ 9999) ∧ (0 ≤ x1 ∧ x1 ≤ 5) ∧ (1 ≤ y 2 ∧ y 2 ≤ 32) ∧ True) → (True) → ((an_f 6 (Int32.ofInt (1)) (Int32.ofInt (x1))).toInt = y 2 ∧ True) → (True) → Ok 52 19 19 [.ref 21, .int (Int32.ofInt (x0)), .int (Int32.ofInt (x1)), .int (Int32.ofInt (y 2 + (-1))), v4] [.int (Int32.ofInt 0), .int (Int32.ofInt 0), .ref 30] τ Q)
    (l1 : ∀ (τ : pm_S) (y : Nat → Int), an_GB pm_B τ → FQ [] σ τ → ((0 ≤ x0 ∧ x0 ≤ 9999) ∧ (6 ≤ x1 ∧ x1 ≤ 10) ∧ True) → (True) → (True) → (True) → Q (some (.int (Int32.ofInt (-1)))) τ)
    : Ok 52 19 3 [.ref 21, .int (Int32.ofInt (x0)), v2, v3, v4] [.int (Int32.ofInt (x1))] σ Q := by
  refine an_seg (B := pm_B) (F := []) (T := []) (S := []) (fun _ h => absurd h List.not_mem_nil) (k := 52) (d := 18) (cs := [19]) 16 3 2 [(0, 0, 9999), (1, 0, 10)] [] [(2, 21, 0), (0, 0, 0), (5, 0, 0), (5, 0, 0), (5, 0, 0)] [(0, 1, 0)] [(19, [(2, 21, 0), (0, 0, 0), (0, 1, 0), (0, 2, (-1)), (5, 0, 0)], [(1, 0, 0), (1, 0, 0), (2, 30, 0)], [(0, 0, 9999), (1, 0, 5), (2, 1, 32)], [], [(6, (1, 0, 1), (0, 1, 0), 2)], []),
    (9999, [], [(1, 0, (-1))], [(0, 0, 9999), (1, 6, 10)], [], [], [])] (by decide +kernel) (ρ0 := (fun s => [x0, x1].getD s 0)) hB eF trivial ⟨rfl, ⟨rfl, ⟨hv2, ⟨hv3, ⟨hv4, trivial⟩⟩⟩⟩⟩ ⟨rfl, trivial⟩ ?_
  refine List.forall_mem_cons.mpr ⟨?_, List.forall_mem_cons.mpr ⟨?_, fun _ h => absurd h List.not_mem_nil⟩⟩
  · intro ρ τ Lc stc hx g1 g2 g3 g4 g5 g6 g7 g8
    have e0 : ρ 0 = x0 := hx 0 (by decide)
    have e1 : ρ 1 = x1 := hx 1 (by decide)
    subst e0
    subst e1
    have g7 := g7 (by decide)
    match Lc, stc, g7, g8 with
    | [v0, v1, v2, v3, v4], [w0, w1, w2], ⟨hv0, hv1, hv2, hv3, hv4, _⟩, ⟨hw0, hw1, hw2, _⟩ =>
      cases hv0
      cases hv1
      cases hv2
      cases hv3
      cases hw0
      cases hw1
      cases hw2
      exact l0 τ ρ v4 hv4 g1 g2 g3 g4 g5 g6
  · intro ρ τ Lc stc hx g1 g2 g3 g4 g5 g6 g7 g8
    have e0 : ρ 0 = x0 := hx 0 (by decide)
    have e1 : ρ 1 = x1 := hx 1 (by decide)
    subst e0
    subst e1
    match stc, g8 with
    | [_], ⟨h, _⟩ => cases h; exact l1 τ ρ g1 g2 g3 g4 g5 g6
set_option maxRecDepth 100000 in
theorem wzwf_20 {σ : pm_S} {Q : Option Value → pm_S → Prop} (x0 x1 x2 : Int) (v4 : Value) (hv4 : v4.category = 1) (hB : an_GB pm_B σ) (eF : (0 ≤ x0 ∧ x0 ≤ 9999) ∧ (0 ≤ x1 ∧ x1 ≤ 5) ∧ (0 ≤ x2 ∧ x2 ≤ 31) ∧ True)
    (l0 : ∀ (τ : pm_S) (y : Nat → Int), an_GB pm_B τ → FQ [] σ τ → ((0 ≤ x0 ∧ x0 ≤ 9999) ∧ (0 ≤ x1 ∧ x1 ≤ 5) ∧ (0 ≤ x2 ∧ x2 ≤ 31) ∧ True) → (True) → (True) → (True) → Ok 52 19 22 [.ref 21, .int (Int32.ofInt (x0)), .int (Int32.ofInt (x1)), .int (Int32.ofInt (x2)), .int (Int32.ofInt 1)] [] τ Q)
    : Ok 52 19 20 [.ref 21, .int (Int32.ofInt (x0)), .int (Int32.ofInt (x1)), .int (Int32.ofInt (x2)), v4] [] σ Q := by
  refine an_seg (B := pm_B) (F := []) (T := []) (S := []) (fun _ h => absurd h List.not_mem_nil) (k := 52) (d := 18) (cs := [22]) 4 20 3 [(0, 0, 9999), (1, 0, 5), (2, 0, 31)] [] [(2, 21, 0), (0, 0, 0), (0, 1, 0), (0, 2, 0), (5, 0, 0)] [] [(22, [(2, 21, 0), (0, 0, 0), (0, 1, 0), (0, 2, 0), (1, 0, 1)], [], [(0, 0, 9999), (1, 0, 5), (2, 0, 31)], [], [], [])] (by decide +kernel) (ρ0 := (fun s => [x0, x1, x2].getD s 0)) hB eF trivial ⟨rfl, ⟨rfl, ⟨rfl, ⟨rfl, ⟨hv4, trivial⟩⟩⟩⟩⟩ trivial ?_
  refine List.forall_mem_cons.mpr ⟨?_, fun _ h => absurd h List.not_mem_nil⟩
  · intro ρ τ Lc stc hx g1 g2 g3 g4 g5 g6 g7 g8
    have e0 : ρ 0 = x0 := hx 0 (by decide)
    have e1 : ρ 1 = x1 := hx 1 (by decide)
    have e2 : ρ 2 = x2 := hx 2 (by decide)
    subst e0
    subst e1
    subst e2
    have g7 := g7 (by decide)
    match Lc, stc, g7, g8 with
    | [v0, v1, v2, v3, v4], [], ⟨hv0, hv1, hv2, hv3, hv4, _⟩, _ =>
      cases hv0
      cases hv1
      cases hv2
      cases hv3
      cases hv4
      exact l0 τ ρ  g1 g2 g3 g4 g5 g6
set_option maxRecDepth 100000 in
theorem wzwf_22 {σ : pm_S} {Q : Option Value → pm_S → Prop} (x0 x1 x2 x3 : Int)  (hB : an_GB pm_B σ) (eF : (0 ≤ x0 ∧ x0 ≤ 9999) ∧ (0 ≤ x1 ∧ x1 ≤ 5) ∧ (0 ≤ x2 ∧ x2 ≤ 31) ∧ (1 ≤ x3 ∧ x3 ≤ 32) ∧ True)
    (l0 : ∀ (τ : pm_S) (y : Nat → Int), an_GB pm_B τ → FQ [] σ τ → ((0 ≤ x0 ∧ x0 ≤ 9999) ∧ (0 ≤ x1 ∧ x1 ≤ 5) ∧ (0 ≤ x2 ∧ x2 ≤ 31) ∧ (1 ≤ x3 ∧ x3 ≤ 32) ∧ True) → (True) → (True) → (True) → Ok 52 19 24 [.ref 21, .int (Int32.ofInt (x0)), .int (Int32.ofInt (x1)), .int (Int32.ofInt (x2)), .int (Int32.ofInt (x3))] [.int (Int32.ofInt (x2)), .int (Int32.ofInt (x3))] τ Q)
    : Ok 52 19 22 [.ref 21, .int (Int32.ofInt (x0)), .int (Int32.ofInt (x1)), .int (Int32.ofInt (x2)), .int (Int32.ofInt (x3))] [] σ Q := by
  refine an_seg (B := pm_B) (F := []) (T := []) (S := []) (fun _ h => absurd h List.not_mem_nil) (k := 52) (d := 18) (cs := [24]) 4 22 4 [(0, 0, 9999), (1, 0, 5), (2, 0, 31), (3, 1, 32)] [] [(2, 21, 0), (0, 0, 0), (0, 1, 0), (0, 2, 0), (0, 3, 0)] [] [(24, [(2, 21, 0), (0, 0, 0), (0, 1, 0), (0, 2, 0), (0, 3, 0)], [(0, 2, 0), (0, 3, 0)], [(0, 0, 9999), (1, 0, 5), (2, 0, 31), (3, 1, 32)], [], [], [])] (by decide +kernel) (ρ0 := (fun s => [x0, x1, x2, x3].getD s 0)) hB eF trivial ⟨rfl, ⟨rfl, ⟨rfl, ⟨rfl, ⟨rfl, trivial⟩⟩⟩⟩⟩ trivial ?_
  refine List.forall_mem_cons.mpr ⟨?_, fun _ h => absurd h List.not_mem_nil⟩
  · intro ρ τ Lc stc hx g1 g2 g3 g4 g5 g6 g7 g8
    have e0 : ρ 0 = x0 := hx 0 (by decide)
    have e1 : ρ 1 = x1 := hx 1 (by decide)
    have e2 : ρ 2 = x2 := hx 2 (by decide)
    have e3 : ρ 3 = x3 := hx 3 (by decide)
    subst e0
    subst e1
    subst e2
    subst e3
    have g7 := g7 (by decide)
    match Lc, stc, g7, g8 with
    | [v0, v1, v2, v3, v4], [w0, w1], ⟨hv0, hv1, hv2, hv3, hv4, _⟩, ⟨hw0, hw1, _⟩ =>
      cases hv0
      cases hv1
      cases hv2
      cases hv3
      cases hv4
      cases hw0
      cases hw1
      exact l0 τ ρ  g1 g2 g3 g4 g5 g6
set_option maxRecDepth 100000 in
theorem wzwf_25 {σ : pm_S} {Q : Option Value → pm_S → Prop} (x0 x1 x2 x3 : Int)  (hB : an_GB pm_B σ) (eF : (0 ≤ x0 ∧ x0 ≤ 9999) ∧ (0 ≤ x1 ∧ x1 ≤ 5) ∧ (0 ≤ x2 ∧ x2 ≤ 31) ∧ (1 ≤ x3 ∧ x3 ≤ 31) ∧ True)
    (l0 : ∀ (τ : pm_S) (y : Nat → Int), an_GB pm_B τ → FQ [] σ τ → ((0 ≤ x0 ∧ x0 ≤ 9999) ∧ (0 ≤ x1 ∧ x1 ≤ 5) ∧ (0 ≤ x2 ∧ x2 ≤ 31) ∧ (1 ≤ x3 ∧ x3 ≤ 31) ∧ True) → (True) → (True) → (True) → Ok 52 19 30 [.ref 21, .int (Int32.ofInt (x0)), .int (Int32.ofInt (x1)), .int (Int32.ofInt (x2)), .int (Int32.ofInt (x3))] [.int (Int32.ofInt (x3)), .ref 21, .int (Int32.ofInt (x3)), .ref 29] τ Q)
    : Ok 52 19 25 [.ref 21, .int (Int32.ofInt (x0)), .int (Int32.ofInt (x1)), .int (Int32.ofInt (x2)), .int (Int32.ofInt (x3))] [] σ Q := by
  refine an_seg (B := pm_B) (F := []) (T := []) (S := []) (fun _ h => absurd h List.not_mem_nil) (k := 52) (d := 18) (cs := [30]) 7 25 4 [(0, 0, 9999), (1, 0, 5), (2, 0, 31), (3, 1, 31)] [] [(2, 21, 0), (0, 0, 0), (0, 1, 0), (0, 2, 0), (0, 3, 0)] [] [(30, [(2, 21, 0), (0, 0, 0), (0, 1, 0), (0, 2, 0), (0, 3, 0)], [(0, 3, 0), (2, 21, 0), (0, 3, 0), (2, 29, 0)], [(0, 0, 9999), (1, 0, 5), (2, 0, 31), (3, 1, 31)], [], [], [])] (by decide +kernel) (ρ0 := (fun s => [x0, x1, x2, x3].getD s 0)) hB eF trivial ⟨rfl, ⟨rfl, ⟨rfl, ⟨rfl, ⟨rfl, trivial⟩⟩⟩⟩⟩ trivial ?_
  refine List.forall_mem_cons.mpr ⟨?_, fun _ h => absurd h List.not_mem_nil⟩
  · intro ρ τ Lc stc hx g1 g2 g3 g4 g5 g6 g7 g8
    have e0 : ρ 0 = x0 := hx 0 (by decide)
    have e1 : ρ 1 = x1 := hx 1 (by decide)
    have e2 : ρ 2 = x2 := hx 2 (by decide)
    have e3 : ρ 3 = x3 := hx 3 (by decide)
    subst e0
    subst e1
    subst e2
    subst e3
    have g7 := g7 (by decide)
    match Lc, stc, g7, g8 with
    | [v0, v1, v2, v3, v4], [w0, w1, w2, w3], ⟨hv0, hv1, hv2, hv3, hv4, _⟩, ⟨hw0, hw1, hw2, hw3, _⟩ =>
      cases hv0
      cases hv1
      cases hv2
      cases hv3
      cases hv4
      cases hw0
      cases hw1
      cases hw2
      cases hw3
      exact l0 τ ρ  g1 g2 g3 g4 g5 g6
set_option maxRecDepth 100000 in
theorem wzwf_32 {σ : pm_S} {Q : Option Value → pm_S → Prop} (x0 x1 x2 x3 : Int)  (hB : an_GB pm_B σ) (eF : (0 ≤ x0 ∧ x0 ≤ 9999) ∧ (0 ≤ x1 ∧ x1 ≤ 5) ∧ (0 ≤ x2 ∧ x2 ≤ 31) ∧ (1 ≤ x3 ∧ x3 ≤ 31) ∧ True)
    (l0 : ∀ (τ : pm_S) (y : Nat → Int), an_GB pm_B τ → FQ [] σ τ → ((0 ≤ x0 ∧ x0 ≤ 9999) ∧ (0 ≤ x1 ∧ x1 ≤ 5) ∧ (0 ≤ x2 ∧ x2 ≤ 31) ∧ (1 ≤ x3 ∧ x3 ≤ 31) ∧ True) → (True) → (True) → (True) → Ok 52 19 22 [.ref 21, .int (Int32.ofInt (x0)), .int (Int32.ofInt (x1)), .int (Int32.ofInt (x2)), .int (Int32.ofInt (x3 + 1))] [] τ Q)
    : Ok 52 19 32 [.ref 21, .int (Int32.ofInt (x0)), .int (Int32.ofInt (x1)), .int (Int32.ofInt (x2)), .int (Int32.ofInt (x3))] [] σ Q := by
  refine an_seg (B := pm_B) (F := []) (T := []) (S := []) (fun _ h => absurd h List.not_mem_nil) (k := 52) (d := 18) (cs := [22]) 4 32 4 [(0, 0, 9999), (1, 0, 5), (2, 0, 31), (3, 1, 31)] [] [(2, 21, 0), (0, 0, 0), (0, 1, 0), (0, 2, 0), (0, 3, 0)] [] [(22, [(2, 21, 0), (0, 0, 0), (0, 1, 0), (0, 2, 0), (0, 3, 1)], [], [(0, 0, 9999), (1, 0, 5), (2, 0, 31), (3, 1, 31)], [], [], [])] (by decide +kernel) (ρ0 := (fun s => [x0, x1, x2, x3].getD s 0)) hB eF trivial ⟨rfl, ⟨rfl, ⟨rfl, ⟨rfl, ⟨rfl, trivial⟩⟩⟩⟩⟩ trivial ?_
  refine List.forall_mem_cons.mpr ⟨?_, fun _ h => absurd h List.not_mem_nil⟩
  · intro ρ τ Lc stc hx g1 g2 g3 g4 g5 g6 g7 g8
    have e0 : ρ 0 = x0 := hx 0 (by decide)
    have e1 : ρ 1 = x1 := hx 1 (by decide)
    have e2 : ρ 2 = x2 := hx 2 (by decide)
    have e3 : ρ 3 = x3 := hx 3 (by decide)
    subst e0
    subst e1
    subst e2
    subst e3
    have g7 := g7 (by decide)
    match Lc, stc, g7, g8 with
    | [v0, v1, v2, v3, v4], [], ⟨hv0, hv1, hv2, hv3, hv4, _⟩, _ =>
      cases hv0
      cases hv1
      cases hv2
      cases hv3
      cases hv4
      exact l0 τ ρ  g1 g2 g3 g4 g5 g6
set_option maxRecDepth 100000 in
theorem wzwf_34 {σ : pm_S} {Q : Option Value → pm_S → Prop} (x0 x1 x2 x3 : Int)  (hB : an_GB pm_B σ) (eF : (0 ≤ x0 ∧ x0 ≤ 9999) ∧ (0 ≤ x1 ∧ x1 ≤ 5) ∧ (0 ≤ x2 ∧ x2 ≤ 31) ∧ (1 ≤ x3 ∧ x3 ≤ 32) ∧ True)
    (l0 : ∀ (τ : pm_S) (y : Nat → Int), an_GB pm_B τ → FQ [] σ τ → ((0 ≤ x0 ∧ x0 ≤ 9999) ∧ (0 ≤ x1 ∧ x1 ≤ 5) ∧ (0 ≤ x2 ∧ x2 ≤ 31) ∧ (1 ≤ x3 ∧ x3 ≤ 32) ∧ True) → (True) → (True) → (True) → Ok 52 19 36 [.ref 21, .int (Int32.ofInt (x0)), .int (Int32.ofInt (x1)), .int (Int32.ofInt (x2)), .int (Int32.ofInt 1)] [] τ Q)
    : Ok 52 19 34 [.ref 21, .int (Int32.ofInt (x0)), .int (Int32.ofInt (x1)), .int (Int32.ofInt (x2)), .int (Int32.ofInt (x3))] [] σ Q := by
  refine an_seg (B := pm_B) (F := []) (T := []) (S := []) (fun _ h => absurd h List.not_mem_nil) (k := 52) (d := 18) (cs := [36]) 4 34 4 [(0, 0, 9999), (1, 0, 5), (2, 0, 31), (3, 1, 32)] [] [(2, 21, 0), (0, 0, 0), (0, 1, 0), (0, 2, 0), (0, 3, 0)] [] [(36, [(2, 21, 0), (0, 0, 0), (0, 1, 0), (0, 2, 0), (1, 0, 1)], [], [(0, 0, 9999), (1, 0, 5), (2, 0, 31), (3, 1, 32)], [], [], [])] (by decide +kernel) (ρ0 := (fun s => [x0, x1, x2, x3].getD s 0)) hB eF trivial ⟨rfl, ⟨rfl, ⟨rfl, ⟨rfl, ⟨rfl, trivial⟩⟩⟩⟩⟩ trivial ?_
  refine List.forall_mem_cons.mpr ⟨?_, fun _ h => absurd h List.not_mem_nil⟩
  · intro ρ τ Lc stc hx g1 g2 g3 g4 g5 g6 g7 g8
    have e0 : ρ 0 = x0 := hx 0 (by decide)
    have e1 : ρ 1 = x1 := hx 1 (by decide)
    have e2 : ρ 2 = x2 := hx 2 (by decide)
    have e3 : ρ 3 = x3 := hx 3 (by decide)
    subst e0
    subst e1
    subst e2
    subst e3
    have g7 := g7 (by decide)
    match Lc, stc, g7, g8 with
    | [v0, v1, v2, v3, v4], [], ⟨hv0, hv1, hv2, hv3, hv4, _⟩, _ =>
      cases hv0
      cases hv1
      cases hv2
      cases hv3
      cases hv4
      exact l0 τ ρ  g1 g2 g3 g4 g5 g6
set_option maxRecDepth 100000 in
theorem wzwf_36 {σ : pm_S} {Q : Option Value → pm_S → Prop} (x0 x1 x2 x3 : Int)  (hB : an_GB pm_B σ) (eF : (0 ≤ x0 ∧ x0 ≤ 9999) ∧ (0 ≤ x1 ∧ x1 ≤ 5) ∧ (0 ≤ x2 ∧ x2 ≤ 31) ∧ (1 ≤ x3 ∧ x3 ≤ 32) ∧ True)
    (l0 : ∀ (τ : pm_S) (y : Nat → Int), an_GB pm_B τ → FQ [] σ τ → ((0 ≤ x0 ∧ x0 ≤ 9999) ∧ (0 ≤ x1 ∧ x1 ≤ 5) ∧ (0 ≤ x2 ∧ x2 ≤ 31) ∧ (1 ≤ x3 ∧ x3 ≤ 32) ∧ True) → (True) → (True) → (True) → Ok 52 19 38 [.ref 21, .int (Int32.ofInt (x0)), .int (Int32.ofInt (x1)), .int (Int32.ofInt (x2)), .int (Int32.ofInt (x3))] [.int (Int32.ofInt (x2)), .int (Int32.ofInt (x3))] τ Q)
    : Ok 52 19 36 [.ref 21, .int (Int32.ofInt (x0)), .int (Int32.ofInt (x1)), .int (Int32.ofInt (x2)), .int (Int32.ofInt (x3))] [] σ Q := by
  refine an_seg (B := pm_B) (F := []) (T := []) (S := []) (fun _ h => absurd h List.not_mem_nil) (k := 52) (d := 18) (cs := [38]) 4 36 4 [(0, 0, 9999), (1, 0, 5), (2, 0, 31), (3, 1, 32)] [] [(2, 21, 0), (0, 0, 0), (0, 1, 0), (0, 2, 0), (0, 3, 0)] [] [(38, [(2, 21, 0), (0, 0, 0), (0, 1, 0), (0, 2, 0), (0, 3, 0)], [(0, 2, 0), (0, 3, 0)], [(0, 0, 9999), (1, 0, 5), (2, 0, 31), (3, 1, 32)], [], [], [])] (by decide +kernel) (ρ0 := (fun s => [x0, x1, x2, x3].getD s 0)) hB eF trivial ⟨rfl, ⟨rfl, ⟨rfl, ⟨rfl, ⟨rfl, trivial⟩⟩⟩⟩⟩ trivial ?_
  refine List.forall_mem_cons.mpr ⟨?_, fun _ h => absurd h List.not_mem_nil⟩
  · intro ρ τ Lc stc hx g1 g2 g3 g4 g5 g6 g7 g8
    have e0 : ρ 0 = x0 := hx 0 (by decide)
    have e1 : ρ 1 = x1 := hx 1 (by decide)
    have e2 : ρ 2 = x2 := hx 2 (by decide)
    have e3 : ρ 3 = x3 := hx 3 (by decide)
    subst e0
    subst e1
    subst e2
    subst e3
    have g7 := g7 (by decide)
    match Lc, stc, g7, g8 with
    | [v0, v1, v2, v3, v4], [w0, w1], ⟨hv0, hv1, hv2, hv3, hv4, _⟩, ⟨hw0, hw1, _⟩ =>
      cases hv0
      cases hv1
      cases hv2
      cases hv3
      cases hv4
      cases hw0
      cases hw1
      exact l0 τ ρ  g1 g2 g3 g4 g5 g6
set_option maxRecDepth 100000 in
theorem wzwf_39 {σ : pm_S} {Q : Option Value → pm_S → Prop} (x0 x1 x2 x3 : Int)  (hB : an_GB pm_B σ) (eF : (0 ≤ x0 ∧ x0 ≤ 9999) ∧ (0 ≤ x1 ∧ x1 ≤ 5) ∧ (0 ≤ x2 ∧ x2 ≤ 31) ∧ (1 ≤ x3 ∧ x3 ≤ 31) ∧ True)
    (l0 : ∀ (τ : pm_S) (y : Nat → Int), an_GB pm_B τ → FQ [] σ τ → ((0 ≤ x0 ∧ x0 ≤ 9999) ∧ (0 ≤ x1 ∧ x1 ≤ 5) ∧ (0 ≤ x2 ∧ x2 ≤ 31) ∧ (1 ≤ x3 ∧ x3 ≤ 31) ∧ True) → (True) → (True) → (True) → Ok 52 19 44 [.ref 21, .int (Int32.ofInt (x0)), .int (Int32.ofInt (x1)), .int (Int32.ofInt (x2)), .int (Int32.ofInt (x3))] [.int (Int32.ofInt (x3)), .ref 21, .int (Int32.ofInt (x3)), .ref 30] τ Q)
    : Ok 52 19 39 [.ref 21, .int (Int32.ofInt (x0)), .int (Int32.ofInt (x1)), .int (Int32.ofInt (x2)), .int (Int32.ofInt (x3))] [] σ Q := by
  refine an_seg (B := pm_B) (F := []) (T := []) (S := []) (fun _ h => absurd h List.not_mem_nil) (k := 52) (d := 18) (cs := [44]) 7 39 4 [(0, 0, 9999), (1, 0, 5), (2, 0, 31), (3, 1, 31)] [] [(2, 21, 0), (0, 0, 0), (0, 1, 0), (0, 2, 0), (0, 3, 0)] [] [(44, [(2, 21, 0), (0, 0, 0), (0, 1, 0), (0, 2, 0), (0, 3, 0)], [(0, 3, 0), (2, 21, 0), (0, 3, 0), (2, 30, 0)], [(0, 0, 9999), (1, 0, 5), (2, 0, 31), (3, 1, 31)], [], [], [])] (by decide +kernel) (ρ0 := (fun s => [x0, x1, x2, x3].getD s 0)) hB eF trivial ⟨rfl, ⟨rfl, ⟨rfl, ⟨rfl, ⟨rfl, trivial⟩⟩⟩⟩⟩ trivial ?_
  refine List.forall_mem_cons.mpr ⟨?_, fun _ h => absurd h List.not_mem_nil⟩
  · intro ρ τ Lc stc hx g1 g2 g3 g4 g5 g6 g7 g8
    have e0 : ρ 0 = x0 := hx 0 (by decide)
    have e1 : ρ 1 = x1 := hx 1 (by decide)
    have e2 : ρ 2 = x2 := hx 2 (by decide)
    have e3 : ρ 3 = x3 := hx 3 (by decide)
    subst e0
    subst e1
    subst e2
    subst e3
    have g7 := g7 (by decide)
    match Lc, stc, g7, g8 with
    | [v0, v1, v2, v3, v4], [w0, w1, w2, w3], ⟨hv0, hv1, hv2, hv3, hv4, _⟩, ⟨hw0, hw1, hw2, hw3, _⟩ =>
      cases hv0
      cases hv1
      cases hv2
      cases hv3
      cases hv4
      cases hw0
      cases hw1
      cases hw2
      cases hw3
      exact l0 τ ρ  g1 g2 g3 g4 g5 g6
set_option maxRecDepth 100000 in
theorem wzwf_46 {σ : pm_S} {Q : Option Value → pm_S → Prop} (x0 x1 x2 x3 : Int)  (hB : an_GB pm_B σ) (eF : (0 ≤ x0 ∧ x0 ≤ 9999) ∧ (0 ≤ x1 ∧ x1 ≤ 5) ∧ (0 ≤ x2 ∧ x2 ≤ 31) ∧ (1 ≤ x3 ∧ x3 ≤ 31) ∧ True)
    (l0 : ∀ (τ : pm_S) (y : Nat → Int), an_GB pm_B τ → FQ [] σ τ → ((0 ≤ x0 ∧ x0 ≤ 9999) ∧ (0 ≤ x1 ∧ x1 ≤ 5) ∧ (0 ≤ x2 ∧ x2 ≤ 31) ∧ (1 ≤ x3 ∧ x3 ≤ 31) ∧ True) → (True) → (True) → (True) → Ok 52 19 36 [.ref 21, .int (Int32.ofInt (x0)), .int (Int32.ofInt (x1)), .int (Int32.ofInt (x2)), .int (Int32.ofInt (x3 + 1))] [] τ Q)
    : Ok 52 19 46 [.ref 21, .int (Int32.ofInt (x0)), .int (Int32.ofInt (x1)), .int (Int32.ofInt (x2)), .int (Int32.ofInt (x3))] [] σ Q := by
  refine an_seg (B := pm_B) (F := []) (T := []) (S := []) (fun _ h => absurd h List.not_mem_nil) (k := 52) (d := 18) (cs := [36]) 4 46 4 [(0, 0, 9999), (1, 0, 5), (2, 0, 31), (3, 1, 31)] [] [(2, 21, 0), (0, 0, 0), (0, 1, 0), (0, 2, 0), (0, 3, 0)] [] [(36, [(2, 21, 0), (0, 0, 0), (0, 1, 0), (0, 2, 0), (0, 3, 1)], [], [(0, 0, 9999), (1, 0, 5), (2, 0, 31), (3, 1, 31)], [], [], [])] (by decide +kernel) (ρ0 := (fun s => [x0, x1, x2, x3].getD s 0)) hB eF trivial ⟨rfl, ⟨rfl, ⟨rfl, ⟨rfl, ⟨rfl, trivial⟩⟩⟩⟩⟩ trivial ?_
  refine List.forall_mem_cons.mpr ⟨?_, fun _ h => absurd h List.not_mem_nil⟩
  · intro ρ τ Lc stc hx g1 g2 g3 g4 g5 g6 g7 g8
    have e0 : ρ 0 = x0 := hx 0 (by decide)
    have e1 : ρ 1 = x1 := hx 1 (by decide)
    have e2 : ρ 2 = x2 := hx 2 (by decide)
    have e3 : ρ 3 = x3 := hx 3 (by decide)
    subst e0
    subst e1
    subst e2
    subst e3
    have g7 := g7 (by decide)
    match Lc, stc, g7, g8 with
    | [v0, v1, v2, v3, v4], [], ⟨hv0, hv1, hv2, hv3, hv4, _⟩, _ =>
      cases hv0
      cases hv1
      cases hv2
      cases hv3
      cases hv4
      exact l0 τ ρ  g1 g2 g3 g4 g5 g6
set_option maxRecDepth 100000 in
theorem wzwf_48 {σ : pm_S} {Q : Option Value → pm_S → Prop} (x0 x1 x2 x3 : Int)  (hB : an_GB pm_B σ) (eF : (0 ≤ x0 ∧ x0 ≤ 9999) ∧ (0 ≤ x1 ∧ x1 ≤ 5) ∧ (0 ≤ x2 ∧ x2 ≤ 31) ∧ (1 ≤ x3 ∧ x3 ≤ 32) ∧ True)
    (l0 : ∀ (τ : pm_S) (y : Nat → Int), an_GB pm_B τ → FQ [] σ τ → ((0 ≤ x0 ∧ x0 ≤ 9999) ∧ (0 ≤ x1 ∧ x1 ≤ 5) ∧ (0 ≤ x2 ∧ x2 ≤ 31) ∧ (1 ≤ x3 ∧ x3 ≤ 32) ∧ ((-2147483648) ≤ y 4 ∧ y 4 ≤ 2147483647) ∧ True) → (True) → (True) → ((τ.1 30 (x2).toNat).toInt = y 4 ∧ True) → Q (some (.int (Int32.ofInt (y 4)))) τ)
    : Ok 52 19 48 [.ref 21, .int (Int32.ofInt (x0)), .int (Int32.ofInt (x1)), .int (Int32.ofInt (x2)), .int (Int32.ofInt (x3))] [] σ Q := by
  refine an_seg (B := pm_B) (F := []) (T := [30]) (S := []) (fun _ h => absurd h List.not_mem_nil) (k := 52) (d := 18) (cs := []) 7 48 4 [(0, 0, 9999), (1, 0, 5), (2, 0, 31), (3, 1, 32)] [] [(2, 21, 0), (0, 0, 0), (0, 1, 0), (0, 2, 0), (0, 3, 0)] [] [(9999, [], [(0, 4, 0)], [(0, 0, 9999), (1, 0, 5), (2, 0, 31), (3, 1, 32), (4, (-2147483648), 2147483647)], [], [], [(30, (0, 2, 0), (0, 4, 0))])] (by decide +kernel) (ρ0 := (fun s => [x0, x1, x2, x3].getD s 0)) hB eF trivial ⟨rfl, ⟨rfl, ⟨rfl, ⟨rfl, ⟨rfl, trivial⟩⟩⟩⟩⟩ trivial ?_
  refine List.forall_mem_cons.mpr ⟨?_, fun _ h => absurd h List.not_mem_nil⟩
  · intro ρ τ Lc stc hx g1 g2 g3 g4 g5 g6 g7 g8
    have e0 : ρ 0 = x0 := hx 0 (by decide)
    have e1 : ρ 1 = x1 := hx 1 (by decide)
    have e2 : ρ 2 = x2 := hx 2 (by decide)
    have e3 : ρ 3 = x3 := hx 3 (by decide)
    subst e0
    subst e1
    subst e2
    subst e3
    match stc, g8 with
    | [_], ⟨h, _⟩ => cases h; exact l0 τ ρ g1 g2 g3 g4 g5 g6
set_option maxRecDepth 100000 in
theorem wzww_0 {σ : pm_S} {Q : Option Value → pm_S → Prop} (x0 : Int)  (hB : an_GB pm_B σ) (eF : ((-2147483648) ≤ x0 ∧ x0 ≤ 2147483647) ∧ True)
    (l0 : ∀ (τ : pm_S) (y : Nat → Int), an_GB pm_B τ → FQ [] σ τ → (((-2147483648) ≤ x0 ∧ x0 ≤ (-1)) ∧ True) → (True) → (True) → (True) → Q (some (.int (Int32.ofInt (-1)))) τ)
    (l1 : ∀ (τ : pm_S) (y : Nat → Int), an_GB pm_B τ → FQ [] σ τ → ((10000 ≤ x0 ∧ x0 ≤ 2147483647) ∧ True) → (True) → (True) → (True) → Q (some (.int (Int32.ofInt (-1)))) τ)
    (l2 : ∀ (τ : pm_S) (y : Nat → Int), an_GB pm_B τ → FQ [] σ τ → ((0 ≤ x0 ∧ x0 ≤ 9999) ∧ True) → (True) → (True) → (True) → Ok 150 31 7 [.ref 0, .int (Int32.ofInt (x0))] [.int (Int32.ofInt (x0)), .ref 21] τ Q)
    : Ok 150 31 0 [.ref 0, .int (Int32.ofInt (x0))] [] σ Q := by
  refine an_seg (B := pm_B) (F := []) (T := []) (S := []) (fun _ h => absurd h List.not_mem_nil) (k := 150) (d := 30) (cs := [7]) 17 0 1 [(0, (-2147483648), 2147483647)] [] [(2, 0, 0), (0, 0, 0)] [] [(9999, [], [(1, 0, (-1))], [(0, (-2147483648), (-1))], [], [], []),
    (9999, [], [(1, 0, (-1))], [(0, 10000, 2147483647)], [], [], []),
    (7, [(2, 0, 0), (0, 0, 0)], [(0, 0, 0), (2, 21, 0)], [(0, 0, 9999)], [], [], [])] (by decide +kernel) (ρ0 := (fun s => [x0].getD s 0)) hB eF trivial ⟨rfl, ⟨rfl, trivial⟩⟩ trivial ?_
  refine List.forall_mem_cons.mpr ⟨?_, List.forall_mem_cons.mpr ⟨?_, List.forall_mem_cons.mpr ⟨?_, fun _ h => absurd h List.not_mem_nil⟩⟩⟩
  · intro ρ τ Lc stc hx g1 g2 g3 g4 g5 g6 g7 g8
    have e0 : ρ 0 = x0 := hx 0 (by decide)
    subst e0
    match stc, g8 with
    | [_], ⟨h, _⟩ => cases h; exact l0 τ ρ g1 g2 g3 g4 g5 g6
  · intro ρ τ Lc stc hx g1 g2 g3 g4 g5 g6 g7 g8
    have e0 : ρ 0 = x0 := hx 0 (by decide)
    subst e0
    match stc, g8 with
    | [_], ⟨h, _⟩ => cases h; exact l1 τ ρ g1 g2 g3 g4 g5 g6
  · intro ρ τ Lc stc hx g1 g2 g3 g4 g5 g6 g7 g8
    have e0 : ρ 0 = x0 := hx 0 (by decide)
    subst e0
    have g7 := g7 (by decide)
    match Lc, stc, g7, g8 with
    | [v0, v1], [w0, w1], ⟨hv0, hv1, _⟩, ⟨hw0, hw1, _⟩ =>
      cases hv0
      cases hv1
      cases hw0
      cases hw1
      exact l2 τ ρ  g1 g2 g3 g4 g5 g6
set_option maxRecDepth 100000 in
theorem wzww_8 {σ : pm_S} {Q : Option Value → pm_S → Prop} (x0 x1 : Int)  (hB : an_GB pm_B σ) (eF : (0 ≤ x0 ∧ x0 ≤ 9999) ∧ ((-2147483648) ≤ x1 ∧ x1 ≤ 2147483647) ∧ True)
    (l0 : ∀ (τ : pm_S) (y : Nat → Int), an_GB pm_B τ → FQ [] σ τ → ((0 ≤ x0 ∧ x0 ≤ 9999) ∧ ((-2147483648) ≤ x1 ∧ x1 ≤ 2147483647) ∧ True) → (True) → (True) → (True) → Q (some (.int (Int32.ofInt (x1)))) τ)
    : Ok 150 31 8 [.ref 0, .int (Int32.ofInt (x0))] [.int (Int32.ofInt (x1))] σ Q := by
  refine an_seg (B := pm_B) (F := []) (T := []) (S := []) (fun _ h => absurd h List.not_mem_nil) (k := 150) (d := 30) (cs := []) 4 8 2 [(0, 0, 9999), (1, (-2147483648), 2147483647)] [] [(2, 0, 0), (0, 0, 0)] [(0, 1, 0)] [(9999, [], [(0, 1, 0)], [(0, 0, 9999), (1, (-2147483648), 2147483647)], [], [], [])] (by decide +kernel) (ρ0 := (fun s => [x0, x1].getD s 0)) hB eF trivial ⟨rfl, ⟨rfl, trivial⟩⟩ ⟨rfl, trivial⟩ ?_
  refine List.forall_mem_cons.mpr ⟨?_, fun _ h => absurd h List.not_mem_nil⟩
  · intro ρ τ Lc stc hx g1 g2 g3 g4 g5 g6 g7 g8
    have e0 : ρ 0 = x0 := hx 0 (by decide)
    have e1 : ρ 1 = x1 := hx 1 (by decide)
    subst e0
    subst e1
    match stc, g8 with
    | [_], ⟨h, _⟩ => cases h; exact l0 τ ρ g1 g2 g3 g4 g5 g6
set_option maxRecDepth 100000 in
theorem wzwq_0 {σ : pm_S} {Q : Option Value → pm_S → Prop} (x0 : Int) (v2 : Value) (v3 : Value) (v4 : Value) (hv2 : v2.category = 1) (hv3 : v3.category = 1) (hv4 : v4.category = 1) (hB : an_GB pm_B σ) (eF : (0 ≤ x0 ∧ x0 ≤ 9999) ∧ True)
    (l0 : ∀ (τ : pm_S) (y : Nat → Int) (v4 : Value), v4.category = 1 → an_GB pm_B τ → FQ [] σ τ → ((0 ≤ x0 ∧ x0 ≤ 9999) ∧ True) → (True) → (True) → (True) → Ok 240 15 4 [.ref 93, .int (Int32.ofInt (x0)), .int (Int32.ofInt 0), .int (Int32.ofInt 0), v4] [] τ Q)
    : Ok 240 15 0 [.ref 93, .int (Int32.ofInt (x0)), v2, v3, v4] [] σ Q := by
  refine an_seg (B := pm_B) (F := []) (T := []) (S := []) (fun _ h => absurd h List.not_mem_nil) (k := 240) (d := 14) (cs := [4]) 6 0 1 [(0, 0, 9999)] [] [(2, 93, 0), (0, 0, 0), (5, 0, 0), (5, 0, 0), (5, 0, 0)] [] [(4, [(2, 93, 0), (0, 0, 0), (1, 0, 0), (1, 0, 0), (5, 0, 0)], [], [(0, 0, 9999)], [], [], [])] (by decide +kernel) (ρ0 := (fun s => [x0].getD s 0)) hB eF trivial ⟨rfl, ⟨rfl, ⟨hv2, ⟨hv3, ⟨hv4, trivial⟩⟩⟩⟩⟩ trivial ?_
  refine List.forall_mem_cons.mpr ⟨?_, fun _ h => absurd h List.not_mem_nil⟩
  · intro ρ τ Lc stc hx g1 g2 g3 g4 g5 g6 g7 g8
    have e0 : ρ 0 = x0 := hx 0 (by decide)
    subst e0
    have g7 := g7 (by decide)
    match Lc, stc, g7, g8 with
    | [v0, v1, v2, v3, v4], [], ⟨hv0, hv1, hv2, hv3, hv4, _⟩, _ =>
      cases hv0
      cases hv1
      cases hv2
      cases hv3
      exact l0 τ ρ v4 hv4 g1 g2 g3 g4 g5 g6
set_option maxRecDepth 100000 in
theorem wzwq_4 {σ : pm_S} {Q : Option Value → pm_S → Prop} (x0 x1 x2 x3 : Int) (v4 : Value) (hv4 : v4.category = 1) (hB : an_GB pm_B σ) (eF : (0 ≤ x0 ∧ x0 ≤ 9999) ∧ (0 ≤ x1 ∧ x1 ≤ 30) ∧ (0 ≤ x2 ∧ x2 ≤ 30) ∧ (0 ≤ x3 ∧ x3 ≤ 30) ∧ True) (eC : (σ.1 93 23).toInt = x3 ∧ True)
    (l0 : ∀ (τ : pm_S) (y : Nat → Int) (v4 : Value), v4.category = 1 → an_GB pm_B τ → FQ [] σ τ → ((0 ≤ x0 ∧ x0 ≤ 9999) ∧ (0 ≤ x1 ∧ x1 ≤ 30) ∧ (0 ≤ x2 ∧ x2 ≤ 30) ∧ (0 ≤ x3 ∧ x3 ≤ 30) ∧ True) → (True) → (True) → ((τ.1 93 23).toInt = x3 ∧ True) → Ok 240 15 7 [.ref 93, .int (Int32.ofInt (x0)), .int (Int32.ofInt (x1)), .int (Int32.ofInt (x2)), v4] [.int (Int32.ofInt (x3)), .int (Int32.ofInt (x2))] τ Q)
    : Ok 240 15 4 [.ref 93, .int (Int32.ofInt (x0)), .int (Int32.ofInt (x1)), .int (Int32.ofInt (x2)), v4] [] σ Q := by
  refine an_seg (B := pm_B) (F := []) (T := []) (S := []) (fun _ h => absurd h List.not_mem_nil) (k := 240) (d := 14) (cs := [7]) 5 4 4 [(0, 0, 9999), (1, 0, 30), (2, 0, 30), (3, 0, 30)] [(93, (1, 0, 23), (0, 3, 0))] [(2, 93, 0), (0, 0, 0), (0, 1, 0), (0, 2, 0), (5, 0, 0)] [] [(7, [(2, 93, 0), (0, 0, 0), (0, 1, 0), (0, 2, 0), (5, 0, 0)], [(0, 3, 0), (0, 2, 0)], [(0, 0, 9999), (1, 0, 30), (2, 0, 30), (3, 0, 30)], [], [], [(93, (1, 0, 23), (0, 3, 0))])] (by decide +kernel) (ρ0 := (fun s => [x0, x1, x2, x3].getD s 0)) hB eF eC ⟨rfl, ⟨rfl, ⟨rfl, ⟨rfl, ⟨hv4, trivial⟩⟩⟩⟩⟩ trivial ?_
  refine List.forall_mem_cons.mpr ⟨?_, fun _ h => absurd h List.not_mem_nil⟩
  · intro ρ τ Lc stc hx g1 g2 g3 g4 g5 g6 g7 g8
    have e0 : ρ 0 = x0 := hx 0 (by decide)
    have e1 : ρ 1 = x1 := hx 1 (by decide)
    have e2 : ρ 2 = x2 := hx 2 (by decide)
    have e3 : ρ 3 = x3 := hx 3 (by decide)
    subst e0
    subst e1
    subst e2
    subst e3
    have g7 := g7 (by decide)
    match Lc, stc, g7, g8 with
    | [v0, v1, v2, v3, v4], [w0, w1], ⟨hv0, hv1, hv2, hv3, hv4, _⟩, ⟨hw0, hw1, _⟩ =>
      cases hv0
      cases hv1
      cases hv2
      cases hv3
      cases hw0
      cases hw1
      exact l0 τ ρ v4 hv4 g1 g2 g3 g4 g5 g6
set_option maxRecDepth 100000 in
theorem wzwq_8 {σ : pm_S} {Q : Option Value → pm_S → Prop} (x0 x1 x2 : Int) (v4 : Value) (hv4 : v4.category = 1) (hB : an_GB pm_B σ) (eF : (0 ≤ x0 ∧ x0 ≤ 9999) ∧ (0 ≤ x1 ∧ x1 ≤ 29) ∧ (0 ≤ x2 ∧ x2 ≤ 29) ∧ True)
    (l0 : ∀ (τ : pm_S) (y : Nat → Int) (v4 : Value), v4.category = 1 → an_GB pm_B τ → FQ [] σ τ → ((0 ≤ x0 ∧ x0 ≤ 9999) ∧ (0 ≤ x1 ∧ x1 ≤ 29) ∧ (0 ≤ x2 ∧ x2 ≤ 29) ∧ ((-2147483648) ≤ y 3 ∧ y 3 ≤ 2147483647) ∧ True) → (True) → (True) → ((τ.1 109 (x2).toNat).toInt = y 3 ∧ True) → Ok 240 15 13 [.ref 93, .int (Int32.ofInt (x0)), .int (Int32.ofInt (x1)), .int (Int32.ofInt (x2)), v4] [.int (Int32.ofInt (x0)), .int (Int32.ofInt (y 3))] τ Q)
    : Ok 240 15 8 [.ref 93, .int (Int32.ofInt (x0)), .int (Int32.ofInt (x1)), .int (Int32.ofInt (x2)), v4] [] σ Q := by
  refine an_seg (B := pm_B) (F := []) (T := [109]) (S := []) (fun _ h => absurd h List.not_mem_nil) (k := 240) (d := 14) (cs := [13]) 7 8 3 [(0, 0, 9999), (1, 0, 29), (2, 0, 29)] [] [(2, 93, 0), (0, 0, 0), (0, 1, 0), (0, 2, 0), (5, 0, 0)] [] [(13, [(2, 93, 0), (0, 0, 0), (0, 1, 0), (0, 2, 0), (5, 0, 0)], [(0, 0, 0), (0, 3, 0)], [(0, 0, 9999), (1, 0, 29), (2, 0, 29), (3, (-2147483648), 2147483647)], [], [], [(109, (0, 2, 0), (0, 3, 0))])] (by decide +kernel) (ρ0 := (fun s => [x0, x1, x2].getD s 0)) hB eF trivial ⟨rfl, ⟨rfl, ⟨rfl, ⟨rfl, ⟨hv4, trivial⟩⟩⟩⟩⟩ trivial ?_
  refine List.forall_mem_cons.mpr ⟨?_, fun _ h => absurd h List.not_mem_nil⟩
  · intro ρ τ Lc stc hx g1 g2 g3 g4 g5 g6 g7 g8
    have e0 : ρ 0 = x0 := hx 0 (by decide)
    have e1 : ρ 1 = x1 := hx 1 (by decide)
    have e2 : ρ 2 = x2 := hx 2 (by decide)
    subst e0
    subst e1
    subst e2
    have g7 := g7 (by decide)
    match Lc, stc, g7, g8 with
    | [v0, v1, v2, v3, v4], [w0, w1], ⟨hv0, hv1, hv2, hv3, hv4, _⟩, ⟨hw0, hw1, _⟩ =>
      cases hv0
      cases hv1
      cases hv2
      cases hv3
      cases hw0
      cases hw1
      exact l0 τ ρ v4 hv4 g1 g2 g3 g4 g5 g6
set_option maxRecDepth 100000 in
theorem wzwq_15 {σ : pm_S} {Q : Option Value → pm_S → Prop} (x0 x1 x2 : Int) (v4 : Value) (hv4 : v4.category = 1) (hB : an_GB pm_B σ) (eF : (0 ≤ x0 ∧ x0 ≤ 9999) ∧ (0 ≤ x1 ∧ x1 ≤ 29) ∧ (0 ≤ x2 ∧ x2 ≤ 29) ∧ True)
    (l0 : ∀ (τ : pm_S) (y : Nat → Int) (v4 : Value), v4.category = 1 → an_GB pm_B τ → FQ [] σ τ → ((0 ≤ x0 ∧ x0 ≤ 9999) ∧ (0 ≤ x1 ∧ x1 ≤ 29) ∧ (0 ≤ x2 ∧ x2 ≤ 29) ∧ (0 ≤ y 3 ∧ y 3 ≤ 9) ∧ (0 ≤ y 4 ∧ y 4 ≤ 9) ∧ ((-2147483648) ≤ y 5 ∧ y 5 ≤ 2147483647) ∧ ((-2147483648) ≤ y 6 ∧ y 6 ≤ 2147483647) ∧ True) → (True) → (True) → ((τ.1 110 (x2).toNat).toInt = y 4 ∧ (τ.1 111 (x2).toNat).toInt = y 3 ∧ (τ.1 132 (y 3).toNat).toInt = y 6 ∧ (τ.1 132 (y 4).toNat).toInt = y 5 ∧ True) → Ok 240 15 51 [.ref 93, .int (Int32.ofInt (x0)), .int (Int32.ofInt (x1)), .int (Int32.ofInt (x2)), v4] [.int (Int32.ofInt (y 6)), .int (Int32.ofInt (y 5))] τ Q)
    (l1 : ∀ (τ : pm_S) (y : Nat → Int) (v4 : Value), v4.category = 1 → an_GB pm_B τ → FQ [] σ τ → ((0 ≤ x0 ∧ x0 ≤ 9999) ∧ (0 ≤ x1 ∧ x1 ≤ 29) ∧ (0 ≤ x2 ∧ x2 ≤ 29) ∧ ((-1) ≤ y 3 ∧ y 3 ≤ (-1)) ∧ (0 ≤ y 4 ∧ y 4 ≤ 9) ∧ ((-2147483648) ≤ y 5 ∧ y 5 ≤ 2147483647) ∧ ((-1) ≤ y 6 ∧ y 6 ≤ 9) ∧ True) → (True) → (True) → ((τ.1 110 (x2).toNat).toInt = y 4 ∧ (τ.1 111 (x2).toNat).toInt = y 3 ∧ (τ.1 112 (x2).toNat).toInt = y 6 ∧ (τ.1 132 (y 4).toNat).toInt = y 5 ∧ True) → Ok 240 15 32 [.ref 93, .int (Int32.ofInt (x0)), .int (Int32.ofInt (x1)), .int (Int32.ofInt (x2)), v4] [.int (Int32.ofInt (y 6)), .int (Int32.ofInt (y 5))] τ Q)
    : Ok 240 15 15 [.ref 93, .int (Int32.ofInt (x0)), .int (Int32.ofInt (x1)), .int (Int32.ofInt (x2)), v4] [] σ Q := by
  refine an_seg (B := pm_B) (F := []) (T := [110, 111, 112, 132]) (S := []) (fun _ h => absurd h List.not_mem_nil) (k := 240) (d := 14) (cs := [32, 51]) 22 15 3 [(0, 0, 9999), (1, 0, 29), (2, 0, 29)] [] [(2, 93, 0), (0, 0, 0), (0, 1, 0), (0, 2, 0), (5, 0, 0)] [] [(51, [(2, 93, 0), (0, 0, 0), (0, 1, 0), (0, 2, 0), (5, 0, 0)], [(0, 6, 0), (0, 5, 0)], [(0, 0, 9999), (1, 0, 29), (2, 0, 29), (3, 0, 9), (4, 0, 9), (5, (-2147483648), 2147483647), (6, (-2147483648), 2147483647)], [], [], [(110, (0, 2, 0), (0, 4, 0)), (111, (0, 2, 0), (0, 3, 0)), (132, (0, 3, 0), (0, 6, 0)), (132, (0, 4, 0), (0, 5, 0))]),
    (32, [(2, 93, 0), (0, 0, 0), (0, 1, 0), (0, 2, 0), (5, 0, 0)], [(0, 6, 0), (0, 5, 0)], [(0, 0, 9999), (1, 0, 29), (2, 0, 29), (3, (-1), (-1)), (4, 0, 9), (5, (-2147483648), 2147483647), (6, (-1), 9)], [], [], [(110, (0, 2, 0), (0, 4, 0)), (111, (0, 2, 0), (0, 3, 0)), (112, (0, 2, 0), (0, 6, 0)), (132, (0, 4, 0), (0, 5, 0))])] (by decide +kernel) (ρ0 := (fun s => [x0, x1, x2].getD s 0)) hB eF trivial ⟨rfl, ⟨rfl, ⟨rfl, ⟨rfl, ⟨hv4, trivial⟩⟩⟩⟩⟩ trivial ?_
  refine List.forall_mem_cons.mpr ⟨?_, List.forall_mem_cons.mpr ⟨?_, fun _ h => absurd h List.not_mem_nil⟩⟩
  · intro ρ τ Lc stc hx g1 g2 g3 g4 g5 g6 g7 g8
    have e0 : ρ 0 = x0 := hx 0 (by decide)
    have e1 : ρ 1 = x1 := hx 1 (by decide)
    have e2 : ρ 2 = x2 := hx 2 (by decide)
    subst e0
    subst e1
    subst e2
    have g7 := g7 (by decide)
    match Lc, stc, g7, g8 with
    | [v0, v1, v2, v3, v4], [w0, w1], ⟨hv0, hv1, hv2, hv3, hv4, _⟩, ⟨hw0, hw1, _⟩ =>
      cases hv0
      cases hv1
      cases hv2
      cases hv3
      cases hw0
      cases hw1
      exact l0 τ ρ v4 hv4 g1 g2 g3 g4 g5 g6
  · intro ρ τ Lc stc hx g1 g2 g3 g4 g5 g6 g7 g8
    have e0 : ρ 0 = x0 := hx 0 (by decide)
    have e1 : ρ 1 = x1 := hx 1 (by decide)
    have e2 : ρ 2 = x2 := hx 2 (by decide)
    subst e0
    subst e1
    subst e2
    have g7 := g7 (by decide)
    match Lc, stc, g7, g8 with
    | [v0, v1, v2, v3, v4], [w0, w1], ⟨hv0, hv1, hv2, hv3, hv4, _⟩, ⟨hw0, hw1, _⟩ =>
      cases hv0
      cases hv1
      cases hv2
      cases hv3
      cases hw0
      cases hw1
      exact l1 τ ρ v4 hv4 g1 g2 g3 g4 g5 g6
set_option maxRecDepth 100000 in
theorem wzwq_33 {σ : pm_S} {Q : Option Value → pm_S → Prop} (x0 x1 x2 : Int) (v4 : Value) (hv4 : v4.category = 1) (hB : an_GB pm_B σ) (eF : (0 ≤ x0 ∧ x0 ≤ 9999) ∧ (0 ≤ x1 ∧ x1 ≤ 29) ∧ (0 ≤ x2 ∧ x2 ≤ 29) ∧ True)
    (l0 : ∀ (τ : pm_S) (y : Nat → Int), an_GB pm_B τ → FQ [] σ τ → ((0 ≤ x0 ∧ x0 ≤ 9999) ∧ (0 ≤ x1 ∧ x1 ≤ 29) ∧ (0 ≤ x2 ∧ x2 ≤ 29) ∧ True) → (True) → (True) → (True) → Ok 240 15 4 [.ref 93, .int (Int32.ofInt (x0)), .int (Int32.ofInt (x1)), .int (Int32.ofInt (x2 + 1)), .int (Int32.ofInt 1)] [] τ Q)
    : Ok 240 15 33 [.ref 93, .int (Int32.ofInt (x0)), .int (Int32.ofInt (x1)), .int (Int32.ofInt (x2)), v4] [] σ Q := by
  refine an_seg (B := pm_B) (F := []) (T := []) (S := []) (fun _ h => absurd h List.not_mem_nil) (k := 240) (d := 14) (cs := [4]) 9 33 3 [(0, 0, 9999), (1, 0, 29), (2, 0, 29)] [] [(2, 93, 0), (0, 0, 0), (0, 1, 0), (0, 2, 0), (5, 0, 0)] [] [(4, [(2, 93, 0), (0, 0, 0), (0, 1, 0), (0, 2, 1), (1, 0, 1)], [], [(0, 0, 9999), (1, 0, 29), (2, 0, 29)], [], [], [])] (by decide +kernel) (ρ0 := (fun s => [x0, x1, x2].getD s 0)) hB eF trivial ⟨rfl, ⟨rfl, ⟨rfl, ⟨rfl, ⟨hv4, trivial⟩⟩⟩⟩⟩ trivial ?_
  refine List.forall_mem_cons.mpr ⟨?_, fun _ h => absurd h List.not_mem_nil⟩
  · intro ρ τ Lc stc hx g1 g2 g3 g4 g5 g6 g7 g8
    have e0 : ρ 0 = x0 := hx 0 (by decide)
    have e1 : ρ 1 = x1 := hx 1 (by decide)
    have e2 : ρ 2 = x2 := hx 2 (by decide)
    subst e0
    subst e1
    subst e2
    have g7 := g7 (by decide)
    match Lc, stc, g7, g8 with
    | [v0, v1, v2, v3, v4], [], ⟨hv0, hv1, hv2, hv3, hv4, _⟩, _ =>
      cases hv0
      cases hv1
      cases hv2
      cases hv3
      cases hv4
      exact l0 τ ρ  g1 g2 g3 g4 g5 g6
set_option maxRecDepth 100000 in
theorem wzwq_35 {σ : pm_S} {Q : Option Value → pm_S → Prop} (x0 x1 x2 : Int) (v4 : Value) (hv4 : v4.category = 1) (hB : an_GB pm_B σ) (eF : (0 ≤ x0 ∧ x0 ≤ 9999) ∧ (0 ≤ x1 ∧ x1 ≤ 29) ∧ (0 ≤ x2 ∧ x2 ≤ 29) ∧ True)
    (l0 : ∀ (τ : pm_S) (y : Nat → Int), an_GB pm_B τ → FQ [] σ τ → ((0 ≤ x0 ∧ x0 ≤ 9999) ∧ (0 ≤ x1 ∧ x1 ≤ 29) ∧ (0 ≤ x2 ∧ x2 ≤ 29) ∧ True) → (True) → (True) → (True) → Ok 240 15 4 [.ref 93, .int (Int32.ofInt (x0)), .int (Int32.ofInt (x1 + 1)), .int (Int32.ofInt (x2 + 1)), .int (Int32.ofInt 0)] [] τ Q)
    : Ok 240 15 35 [.ref 93, .int (Int32.ofInt (x0)), .int (Int32.ofInt (x1)), .int (Int32.ofInt (x2)), v4] [] σ Q := by
  refine an_seg (B := pm_B) (F := []) (T := []) (S := []) (fun _ h => absurd h List.not_mem_nil) (k := 240) (d := 14) (cs := [4]) 13 35 3 [(0, 0, 9999), (1, 0, 29), (2, 0, 29)] [] [(2, 93, 0), (0, 0, 0), (0, 1, 0), (0, 2, 0), (5, 0, 0)] [] [(4, [(2, 93, 0), (0, 0, 0), (0, 1, 1), (0, 2, 1), (1, 0, 0)], [], [(0, 0, 9999), (1, 0, 29), (2, 0, 29)], [], [], [])] (by decide +kernel) (ρ0 := (fun s => [x0, x1, x2].getD s 0)) hB eF trivial ⟨rfl, ⟨rfl, ⟨rfl, ⟨rfl, ⟨hv4, trivial⟩⟩⟩⟩⟩ trivial ?_
  refine List.forall_mem_cons.mpr ⟨?_, fun _ h => absurd h List.not_mem_nil⟩
  · intro ρ τ Lc stc hx g1 g2 g3 g4 g5 g6 g7 g8
    have e0 : ρ 0 = x0 := hx 0 (by decide)
    have e1 : ρ 1 = x1 := hx 1 (by decide)
    have e2 : ρ 2 = x2 := hx 2 (by decide)
    subst e0
    subst e1
    subst e2
    have g7 := g7 (by decide)
    match Lc, stc, g7, g8 with
    | [v0, v1, v2, v3, v4], [], ⟨hv0, hv1, hv2, hv3, hv4, _⟩, _ =>
      cases hv0
      cases hv1
      cases hv2
      cases hv3
      cases hv4
      exact l0 τ ρ  g1 g2 g3 g4 g5 g6
set_option maxRecDepth 100000 in
theorem wzwq_52 {σ : pm_S} {Q : Option Value → pm_S → Prop} (x0 x1 x2 : Int) (v4 : Value) (hv4 : v4.category = 1) (hB : an_GB pm_B σ) (eF : (0 ≤ x0 ∧ x0 ≤ 9999) ∧ (0 ≤ x1 ∧ x1 ≤ 29) ∧ (0 ≤ x2 ∧ x2 ≤ 29) ∧ True)
    (l0 : ∀ (τ : pm_S) (y : Nat → Int), an_GB pm_B τ → FQ [] σ τ → ((0 ≤ x0 ∧ x0 ≤ 9999) ∧ (0 ≤ x1 ∧ x1 ≤ 29) ∧ (0 ≤ x2 ∧ x2 ≤ 29) ∧ True) → (True) → (True) → (True) → Ok 240 15 4 [.ref 93, .int (Int32.ofInt (x0)), .int (Int32.ofInt (x1)), .int (Int32.ofInt (x2 + 1)), .int (Int32.ofInt 1)] [] τ Q)
    : Ok 240 15 52 [.ref 93, .int (Int32.ofInt (x0)), .int (Int32.ofInt (x1)), .int (Int32.ofInt (x2)), v4] [] σ Q := by
  refine an_seg (B := pm_B) (F := []) (T := []) (S := []) (fun _ h => absurd h List.not_mem_nil) (k := 240) (d := 14) (cs := [4]) 9 52 3 [(0, 0, 9999), (1, 0, 29), (2, 0, 29)] [] [(2, 93, 0), (0, 0, 0), (0, 1, 0), (0, 2, 0), (5, 0, 0)] [] [(4, [(2, 93, 0), (0, 0, 0), (0, 1, 0), (0, 2, 1), (1, 0, 1)], [], [(0, 0, 9999), (1, 0, 29), (2, 0, 29)], [], [], [])] (by decide +kernel) (ρ0 := (fun s => [x0, x1, x2].getD s 0)) hB eF trivial ⟨rfl, ⟨rfl, ⟨rfl, ⟨rfl, ⟨hv4, trivial⟩⟩⟩⟩⟩ trivial ?_
  refine List.forall_mem_cons.mpr ⟨?_, fun _ h => absurd h List.not_mem_nil⟩
  · intro ρ τ Lc stc hx g1 g2 g3 g4 g5 g6 g7 g8
    have e0 : ρ 0 = x0 := hx 0 (by decide)
    have e1 : ρ 1 = x1 := hx 1 (by decide)
    have e2 : ρ 2 = x2 := hx 2 (by decide)
    subst e0
    subst e1
    subst e2
    have g7 := g7 (by decide)
    match Lc, stc, g7, g8 with
    | [v0, v1, v2, v3, v4], [], ⟨hv0, hv1, hv2, hv3, hv4, _⟩, _ =>
      cases hv0
      cases hv1
      cases hv2
      cases hv3
      cases hv4
      exact l0 τ ρ  g1 g2 g3 g4 g5 g6
set_option maxRecDepth 100000 in
theorem wzwq_54 {σ : pm_S} {Q : Option Value → pm_S → Prop} (x0 x1 x2 : Int) (v4 : Value) (hv4 : v4.category = 1) (hB : an_GB pm_B σ) (eF : (0 ≤ x0 ∧ x0 ≤ 9999) ∧ (0 ≤ x1 ∧ x1 ≤ 29) ∧ (0 ≤ x2 ∧ x2 ≤ 29) ∧ True)
    (l0 : ∀ (τ : pm_S) (y : Nat → Int), an_GB pm_B τ → FQ [] σ τ → ((0 ≤ x0 ∧ x0 ≤ 9999) ∧ (0 ≤ x1 ∧ x1 ≤ 29) ∧ (0 ≤ x2 ∧ x2 ≤ 29) ∧ True) → (True) → (True) → (True) → Ok 240 15 4 [.ref 93, .int (Int32.ofInt (x0)), .int (Int32.ofInt (x1 + 1)), .int (Int32.ofInt (x2 + 1)), .int (Int32.ofInt 0)] [] τ Q)
    : Ok 240 15 54 [.ref 93, .int (Int32.ofInt (x0)), .int (Int32.ofInt (x1)), .int (Int32.ofInt (x2)), v4] [] σ Q := by
  refine an_seg (B := pm_B) (F := []) (T := []) (S := []) (fun _ h => absurd h List.not_mem_nil) (k := 240) (d := 14) (cs := [4]) 12 54 3 [(0, 0, 9999), (1, 0, 29), (2, 0, 29)] [] [(2, 93, 0), (0, 0, 0), (0, 1, 0), (0, 2, 0), (5, 0, 0)] [] [(4, [(2, 93, 0), (0, 0, 0), (0, 1, 1), (0, 2, 1), (1, 0, 0)], [], [(0, 0, 9999), (1, 0, 29), (2, 0, 29)], [], [], [])] (by decide +kernel) (ρ0 := (fun s => [x0, x1, x2].getD s 0)) hB eF trivial ⟨rfl, ⟨rfl, ⟨rfl, ⟨rfl, ⟨hv4, trivial⟩⟩⟩⟩⟩ trivial ?_
  refine List.forall_mem_cons.mpr ⟨?_, fun _ h => absurd h List.not_mem_nil⟩
  · intro ρ τ Lc stc hx g1 g2 g3 g4 g5 g6 g7 g8
    have e0 : ρ 0 = x0 := hx 0 (by decide)
    have e1 : ρ 1 = x1 := hx 1 (by decide)
    have e2 : ρ 2 = x2 := hx 2 (by decide)
    subst e0
    subst e1
    subst e2
    have g7 := g7 (by decide)
    match Lc, stc, g7, g8 with
    | [v0, v1, v2, v3, v4], [], ⟨hv0, hv1, hv2, hv3, hv4, _⟩, _ =>
      cases hv0
      cases hv1
      cases hv2
      cases hv3
      cases hv4
      exact l0 τ ρ  g1 g2 g3 g4 g5 g6
set_option maxRecDepth 100000 in
theorem wzwq_62 {σ : pm_S} {Q : Option Value → pm_S → Prop} (x0 x1 x2 : Int) (v4 : Value) (hv4 : v4.category = 1) (hB : an_GB pm_B σ) (eF : (0 ≤ x0 ∧ x0 ≤ 9999) ∧ (0 ≤ x1 ∧ x1 ≤ 29) ∧ (0 ≤ x2 ∧ x2 ≤ 29) ∧ True)
    (l0 : ∀ (τ : pm_S) (y : Nat → Int) (v4 : Value), v4.category = 1 → an_GB pm_B τ → FQ [] σ τ → ((0 ≤ x0 ∧ x0 ≤ 9999) ∧ (0 ≤ x1 ∧ x1 ≤ 29) ∧ (0 ≤ x2 ∧ x2 ≤ 29) ∧ True) → (True) → (True) → (True) → Ok 240 15 4 [.ref 93, .int (Int32.ofInt (x0)), .int (Int32.ofInt (x1)), .int (Int32.ofInt (x2 + 1)), v4] [] τ Q)
    : Ok 240 15 14 [.ref 93, .int (Int32.ofInt (x0)), .int (Int32.ofInt (x1)), .int (Int32.ofInt (x2)), v4] [] σ Q := by
  refine an_seg (B := pm_B) (F := []) (T := []) (S := []) (fun _ h => absurd h List.not_mem_nil) (k := 240) (d := 14) (cs := [4]) 5 14 3 [(0, 0, 9999), (1, 0, 29), (2, 0, 29)] [] [(2, 93, 0), (0, 0, 0), (0, 1, 0), (0, 2, 0), (5, 0, 0)] [] [(4, [(2, 93, 0), (0, 0, 0), (0, 1, 0), (0, 2, 1), (5, 0, 0)], [], [(0, 0, 9999), (1, 0, 29), (2, 0, 29)], [], [], [])] (by decide +kernel) (ρ0 := (fun s => [x0, x1, x2].getD s 0)) hB eF trivial ⟨rfl, ⟨rfl, ⟨rfl, ⟨rfl, ⟨hv4, trivial⟩⟩⟩⟩⟩ trivial ?_
  refine List.forall_mem_cons.mpr ⟨?_, fun _ h => absurd h List.not_mem_nil⟩
  · intro ρ τ Lc stc hx g1 g2 g3 g4 g5 g6 g7 g8
    have e0 : ρ 0 = x0 := hx 0 (by decide)
    have e1 : ρ 1 = x1 := hx 1 (by decide)
    have e2 : ρ 2 = x2 := hx 2 (by decide)
    subst e0
    subst e1
    subst e2
    have g7 := g7 (by decide)
    match Lc, stc, g7, g8 with
    | [v0, v1, v2, v3, v4], [], ⟨hv0, hv1, hv2, hv3, hv4, _⟩, _ =>
      cases hv0
      cases hv1
      cases hv2
      cases hv3
      exact l0 τ ρ v4 hv4 g1 g2 g3 g4 g5 g6
set_option maxRecDepth 100000 in
theorem wzwq_64 {σ : pm_S} {Q : Option Value → pm_S → Prop} (x0 x1 x2 : Int) (v4 : Value) (hv4 : v4.category = 1) (hB : an_GB pm_B σ) (eF : (0 ≤ x0 ∧ x0 ≤ 9999) ∧ (0 ≤ x1 ∧ x1 ≤ 30) ∧ (0 ≤ x2 ∧ x2 ≤ 30) ∧ True)
    (l0 : ∀ (τ : pm_S) (y : Nat → Int), an_GB pm_B τ → FQ [] σ τ → ((0 ≤ x0 ∧ x0 ≤ 9999) ∧ (0 ≤ x1 ∧ x1 ≤ 30) ∧ (0 ≤ x2 ∧ x2 ≤ 30) ∧ True) → (True) → (True) → (True) → Q (some (.int (Int32.ofInt (x1)))) τ)
    : Ok 240 15 64 [.ref 93, .int (Int32.ofInt (x0)), .int (Int32.ofInt (x1)), .int (Int32.ofInt (x2)), v4] [] σ Q := by
  refine an_seg (B := pm_B) (F := []) (T := []) (S := []) (fun _ h => absurd h List.not_mem_nil) (k := 240) (d := 14) (cs := []) 4 64 3 [(0, 0, 9999), (1, 0, 30), (2, 0, 30)] [] [(2, 93, 0), (0, 0, 0), (0, 1, 0), (0, 2, 0), (5, 0, 0)] [] [(9999, [], [(0, 1, 0)], [(0, 0, 9999), (1, 0, 30), (2, 0, 30)], [], [], [])] (by decide +kernel) (ρ0 := (fun s => [x0, x1, x2].getD s 0)) hB eF trivial ⟨rfl, ⟨rfl, ⟨rfl, ⟨rfl, ⟨hv4, trivial⟩⟩⟩⟩⟩ trivial ?_
  refine List.forall_mem_cons.mpr ⟨?_, fun _ h => absurd h List.not_mem_nil⟩
  · intro ρ τ Lc stc hx g1 g2 g3 g4 g5 g6 g7 g8
    have e0 : ρ 0 = x0 := hx 0 (by decide)
    have e1 : ρ 1 = x1 := hx 1 (by decide)
    have e2 : ρ 2 = x2 := hx 2 (by decide)
    subst e0
    subst e1
    subst e2
    match stc, g8 with
    | [_], ⟨h, _⟩ => cases h; exact l0 τ ρ g1 g2 g3 g4 g5 g6
set_option maxRecDepth 100000 in
theorem wzwp_0 {σ : pm_S} {Q : Option Value → pm_S → Prop} (x0 : Int) (v2 : Value) (v3 : Value) (v4 : Value) (v5 : Value) (v6 : Value) (v7 : Value) (hv2 : v2.category = 1) (hv3 : v3.category = 1) (hv4 : v4.category = 1) (hv5 : v5.category = 1) (hv6 : v6.category = 1) (hv7 : v7.category = 1) (hB : an_GB pm_B σ) (eF : ((-2147483648) ≤ x0 ∧ x0 ≤ 2147483647) ∧ True)
    (l0 : ∀ (τ : pm_S) (y : Nat → Int), an_GB pm_B τ → FQ [(93, 0)] σ τ → (((-2147483648) ≤ x0 ∧ x0 ≤ (-1)) ∧ True) → (True) → (True) → (True) → Q (some (.int (Int32.ofInt (-1)))) τ)
    (l1 : ∀ (τ : pm_S) (y : Nat → Int), an_GB pm_B τ → FQ [(93, 0)] σ τ → ((10000 ≤ x0 ∧ x0 ≤ 2147483647) ∧ True) → (True) → (True) → (True) → Q (some (.int (Int32.ofInt (-1)))) τ)
    (l2 : ∀ (τ : pm_S) (y : Nat → Int) (v4 : Value) (v5 : Value) (v6 : Value) (v7 : Value), v4.category = 1 → v5.category = 1 → v6.category = 1 → v7.category = 1 → an_GB pm_B τ → FQ [(93, 0)] σ τ → ((0 ≤ x0 ∧ x0 ≤ 9999) ∧ True) → (True) → (True) → (True) → Ok 241 31 15 [.ref 93, .int (Int32.ofInt (x0)), .int (Int32.ofInt 0), .int (Int32.ofInt 0), v4, v5, v6, v7] [] τ Q)
    : Ok 241 31 0 [.ref 93, .int (Int32.ofInt (x0)), v2, v3, v4, v5, v6, v7] [] σ Q := by
  refine an_seg (B := pm_B) (F := [(93, 0)]) (T := []) (S := []) (fun _ h => absurd h List.not_mem_nil) (k := 241) (d := 30) (cs := [15]) 24 0 1 [(0, (-2147483648), 2147483647)] [] [(2, 93, 0), (0, 0, 0), (5, 0, 0), (5, 0, 0), (5, 0, 0), (5, 0, 0), (5, 0, 0), (5, 0, 0)] [] [(9999, [], [(1, 0, (-1))], [(0, (-2147483648), (-1))], [], [], []),
    (9999, [], [(1, 0, (-1))], [(0, 10000, 2147483647)], [], [], []),
    (15, [(2, 93, 0), (0, 0, 0), (1, 0, 0), (1, 0, 0), (5, 0, 0), (5, 0, 0), (5, 0, 0), (5, 0, 0)], [], [(0, 0, 9999)], [], [], [])] (by decide +kernel) (ρ0 := (fun s => [x0].getD s 0)) hB eF trivial ⟨rfl, ⟨rfl, ⟨hv2, ⟨hv3, ⟨hv4, ⟨hv5, ⟨hv6, ⟨hv7, trivial⟩⟩⟩⟩⟩⟩⟩⟩ trivial ?_
  refine List.forall_mem_cons.mpr ⟨?_, List.forall_mem_cons.mpr ⟨?_, List.forall_mem_cons.mpr ⟨?_, fun _ h => absurd h List.not_mem_nil⟩⟩⟩
  · intro ρ τ Lc stc hx g1 g2 g3 g4 g5 g6 g7 g8
    have e0 : ρ 0 = x0 := hx 0 (by decide)
    subst e0
    match stc, g8 with
    | [_], ⟨h, _⟩ => cases h; exact l0 τ ρ g1 g2 g3 g4 g5 g6
  · intro ρ τ Lc stc hx g1 g2 g3 g4 g5 g6 g7 g8
    have e0 : ρ 0 = x0 := hx 0 (by decide)
    subst e0
    match stc, g8 with
    | [_], ⟨h, _⟩ => cases h; exact l1 τ ρ g1 g2 g3 g4 g5 g6
  · intro ρ τ Lc stc hx g1 g2 g3 g4 g5 g6 g7 g8
    have e0 : ρ 0 = x0 := hx 0 (by decide)
    subst e0
    have g7 := g7 (by decide)
    match Lc, stc, g7, g8 with
    | [v0, v1, v2, v3, v4, v5, v6, v7], [], ⟨hv0, hv1, hv2, hv3, hv4, hv5, hv6, hv7, _⟩, _ =>
      cases hv0
      cases hv1
      cases hv2
      cases hv3
      exact l2 τ ρ v4 v5 v6 v7 hv4 hv5 hv6 hv7 g1 g2 g3 g4 g5 g6
set_option maxRecDepth 100000 in
theorem wzwp_15 {σ : pm_S} {Q : Option Value → pm_S → Prop} (x0 x1 x2 x3 : Int) (v4 : Value) (v5 : Value) (v6 : Value) (v7 : Value) (hv4 : v4.category = 1) (hv5 : v5.category = 1) (hv6 : v6.category = 1) (hv7 : v7.category = 1) (hB : an_GB pm_B σ) (eF : (0 ≤ x0 ∧ x0 ≤ 9999) ∧ (0 ≤ x1 ∧ x1 ≤ 1023) ∧ (0 ≤ x2 ∧ x2 ≤ 30) ∧ (0 ≤ x3 ∧ x3 ≤ 30) ∧ True) (eC : (σ.1 93 23).toInt = x3 ∧ True)
    (l0 : ∀ (τ : pm_S) (y : Nat → Int) (v4 : Value) (v5 : Value) (v6 : Value) (v7 : Value), v4.category = 1 → v5.category = 1 → v6.category = 1 → v7.category = 1 → an_GB pm_B τ → FQ [] σ τ → ((0 ≤ x0 ∧ x0 ≤ 9999) ∧ (0 ≤ x1 ∧ x1 ≤ 1023) ∧ (0 ≤ x2 ∧ x2 ≤ 30) ∧ (0 ≤ x3 ∧ x3 ≤ 30) ∧ True) → (True) → (True) → ((τ.1 93 23).toInt = x3 ∧ True) → Ok 241 31 18 [.ref 93, .int (Int32.ofInt (x0)), .int (Int32.ofInt (x1)), .int (Int32.ofInt (x2)), v4, v5, v6, v7] [.int (Int32.ofInt (x3)), .int (Int32.ofInt (x2))] τ Q)
    : Ok 241 31 15 [.ref 93, .int (Int32.ofInt (x0)), .int (Int32.ofInt (x1)), .int (Int32.ofInt (x2)), v4, v5, v6, v7] [] σ Q := by
  refine an_seg (B := pm_B) (F := []) (T := []) (S := []) (fun _ h => absurd h List.not_mem_nil) (k := 241) (d := 30) (cs := [18]) 5 15 4 [(0, 0, 9999), (1, 0, 1023), (2, 0, 30), (3, 0, 30)] [(93, (1, 0, 23), (0, 3, 0))] [(2, 93, 0), (0, 0, 0), (0, 1, 0), (0, 2, 0), (5, 0, 0), (5, 0, 0), (5, 0, 0), (5, 0, 0)] [] [(18, [(2, 93, 0), (0, 0, 0), (0, 1, 0), (0, 2, 0), (5, 0, 0), (5, 0, 0), (5, 0, 0), (5, 0, 0)], [(0, 3, 0), (0, 2, 0)], [(0, 0, 9999), (1, 0, 1023), (2, 0, 30), (3, 0, 30)], [], [], [(93, (1, 0, 23), (0, 3, 0))])] (by decide +kernel) (ρ0 := (fun s => [x0, x1, x2, x3].getD s 0)) hB eF eC ⟨rfl, ⟨rfl, ⟨rfl, ⟨rfl, ⟨hv4, ⟨hv5, ⟨hv6, ⟨hv7, trivial⟩⟩⟩⟩⟩⟩⟩⟩ trivial ?_
  refine List.forall_mem_cons.mpr ⟨?_, fun _ h => absurd h List.not_mem_nil⟩
  · intro ρ τ Lc stc hx g1 g2 g3 g4 g5 g6 g7 g8
    have e0 : ρ 0 = x0 := hx 0 (by decide)
    have e1 : ρ 1 = x1 := hx 1 (by decide)
    have e2 : ρ 2 = x2 := hx 2 (by decide)
    have e3 : ρ 3 = x3 := hx 3 (by decide)
    subst e0
    subst e1
    subst e2
    subst e3
    have g7 := g7 (by decide)
    match Lc, stc, g7, g8 with
    | [v0, v1, v2, v3, v4, v5, v6, v7], [w0, w1], ⟨hv0, hv1, hv2, hv3, hv4, hv5, hv6, hv7, _⟩, ⟨hw0, hw1, _⟩ =>
      cases hv0
      cases hv1
      cases hv2
      cases hv3
      cases hw0
      cases hw1
      exact l0 τ ρ v4 v5 v6 v7 hv4 hv5 hv6 hv7 g1 g2 g3 g4 g5 g6
set_option maxRecDepth 100000 in
theorem wzwp_19 {σ : pm_S} {Q : Option Value → pm_S → Prop} (x0 x1 x2 : Int) (v4 : Value) (v5 : Value) (v6 : Value) (v7 : Value) (hv4 : v4.category = 1) (hv5 : v5.category = 1) (hv6 : v6.category = 1) (hv7 : v7.category = 1) (hB : an_GB pm_B σ) (eF : (0 ≤ x0 ∧ x0 ≤ 9999) ∧ (0 ≤ x1 ∧ x1 ≤ 1023) ∧ (0 ≤ x2 ∧ x2 ≤ 29) ∧ True)
    (l0 : ∀ (τ : pm_S) (y : Nat → Int) (v4 : Value) (v5 : Value) (v6 : Value) (v7 : Value), v4.category = 1 → v5.category = 1 → v6.category = 1 → v7.category = 1 → an_GB pm_B τ → FQ [] σ τ → ((0 ≤ x0 ∧ x0 ≤ 9999) ∧ (0 ≤ x1 ∧ x1 ≤ 1023) ∧ (0 ≤ x2 ∧ x2 ≤ 29) ∧ ((-2147483648) ≤ y 3 ∧ y 3 ≤ 2147483647) ∧ True) → (True) → (True) → ((τ.1 109 (x2).toNat).toInt = y 3 ∧ True) → Ok 241 31 24 [.ref 93, .int (Int32.ofInt (x0)), .int (Int32.ofInt (x1)), .int (Int32.ofInt (x2)), v4, v5, v6, v7] [.int (Int32.ofInt (x0)), .int (Int32.ofInt (y 3))] τ Q)
    : Ok 241 31 19 [.ref 93, .int (Int32.ofInt (x0)), .int (Int32.ofInt (x1)), .int (Int32.ofInt (x2)), v4, v5, v6, v7] [] σ Q := by
  refine an_seg (B := pm_B) (F := []) (T := [109]) (S := []) (fun _ h => absurd h List.not_mem_nil) (k := 241) (d := 30) (cs := [24]) 7 19 3 [(0, 0, 9999), (1, 0, 1023), (2, 0, 29)] [] [(2, 93, 0), (0, 0, 0), (0, 1, 0), (0, 2, 0), (5, 0, 0), (5, 0, 0), (5, 0, 0), (5, 0, 0)] [] [(24, [(2, 93, 0), (0, 0, 0), (0, 1, 0), (0, 2, 0), (5, 0, 0), (5, 0, 0), (5, 0, 0), (5, 0, 0)], [(0, 0, 0), (0, 3, 0)], [(0, 0, 9999), (1, 0, 1023), (2, 0, 29), (3, (-2147483648), 2147483647)], [], [], [(109, (0, 2, 0), (0, 3, 0))])] (by decide +kernel) (ρ0 := (fun s => [x0, x1, x2].getD s 0)) hB eF trivial ⟨rfl, ⟨rfl, ⟨rfl, ⟨rfl, ⟨hv4, ⟨hv5, ⟨hv6, ⟨hv7, trivial⟩⟩⟩⟩⟩⟩⟩⟩ trivial ?_
  refine List.forall_mem_cons.mpr ⟨?_, fun _ h => absurd h List.not_mem_nil⟩
  · intro ρ τ Lc stc hx g1 g2 g3 g4 g5 g6 g7 g8
    have e0 : ρ 0 = x0 := hx 0 (by decide)
    have e1 : ρ 1 = x1 := hx 1 (by decide)
    have e2 : ρ 2 = x2 := hx 2 (by decide)
    subst e0
    subst e1
    subst e2
    have g7 := g7 (by decide)
    match Lc, stc, g7, g8 with
    | [v0, v1, v2, v3, v4, v5, v6, v7], [w0, w1], ⟨hv0, hv1, hv2, hv3, hv4, hv5, hv6, hv7, _⟩, ⟨hw0, hw1, _⟩ =>
      cases hv0
      cases hv1
      cases hv2
      cases hv3
      cases hw0
      cases hw1
      exact l0 τ ρ v4 v5 v6 v7 hv4 hv5 hv6 hv7 g1 g2 g3 g4 g5 g6
set_option maxRecDepth 100000 in
theorem wzwp_25 {σ : pm_S} {Q : Option Value → pm_S → Prop} (x0 x1 x2 : Int) (v4 : Value) (v5 : Value) (v6 : Value) (v7 : Value) (hv4 : v4.category = 1) (hv5 : v5.category = 1) (hv6 : v6.category = 1) (hv7 : v7.category = 1) (hB : an_GB pm_B σ) (eF : (0 ≤ x0 ∧ x0 ≤ 9999) ∧ (0 ≤ x1 ∧ x1 ≤ 1023) ∧ (0 ≤ x2 ∧ x2 ≤ 29) ∧ True)
    (l0 : ∀ (τ : pm_S) (y : Nat → Int) (v4 : Value) (v5 : Value) (v6 : Value) (v7 : Value), v4.category = 1 → v5.category = 1 → v6.category = 1 → v7.category = 1 → an_GB pm_B τ → FQ [] σ τ → ((0 ≤ x0 ∧ x0 ≤ 9999) ∧ (0 ≤ x1 ∧ x1 ≤ 1023) ∧ (0 ≤ x2 ∧ x2 ≤ 29) ∧ (0 ≤ y 3 ∧ y 3 ≤ 9) ∧ (1 ≤ y 4 ∧ y 4 ≤ 512) ∧ (0 ≤ y 5 ∧ y 5 ≤ 1023) ∧ (0 ≤ y 6 ∧ y 6 ≤ 9) ∧ (1 ≤ y 7 ∧ y 7 ≤ 512) ∧ (0 ≤ y 8 ∧ y 8 ≤ 1023) ∧ True) → (True) → ((an_f 6 (Int32.ofInt (1)) (Int32.ofInt (y 3))).toInt = y 4 ∧ (an_f 4 (Int32.ofInt (x1)) (Int32.ofInt (y 4))).toInt = y 5 ∧ (an_f 6 (Int32.ofInt (1)) (Int32.ofInt (y 6))).toInt = y 7 ∧ (an_f 4 (Int32.ofInt (y 5)) (Int32.ofInt (y 7))).toInt = y 8 ∧ True) → ((τ.1 110 (x2).toNat).toInt = y 3 ∧ (τ.1 111 (x2).toNat).toInt = y 6 ∧ True) → Ok 241 31 15 [.ref 93, .int (Int32.ofInt (x0)), .int (Int32.ofInt (y 8)), .int (Int32.ofInt (x2 + 1)), v4, v5, v6, v7] [] τ Q)
    (l1 : ∀ (τ : pm_S) (y : Nat → Int) (v4 : Value) (v5 : Value) (v6 : Value) (v7 : Value), v4.category = 1 → v5.category = 1 → v6.category = 1 → v7.category = 1 → an_GB pm_B τ → FQ [] σ τ → ((0 ≤ x0 ∧ x0 ≤ 9999) ∧ (0 ≤ x1 ∧ x1 ≤ 1023) ∧ (0 ≤ x2 ∧ x2 ≤ 29) ∧ (0 ≤ y 3 ∧ y 3 ≤ 9) ∧ (1 ≤ y 4 ∧ y 4 ≤ 512) ∧ (0 ≤ y 5 ∧ y 5 ≤ 1023) ∧ ((-1) ≤ y 6 ∧ y 6 ≤ (-1)) ∧ (0 ≤ y 7 ∧ y 7 ≤ 1023) ∧ True) → (True) → ((an_f 6 (Int32.ofInt (1)) (Int32.ofInt (y 3))).toInt = y 4 ∧ (an_f 4 (Int32.ofInt (x1)) (Int32.ofInt (y 4))).toInt = y 5 ∧ (an_f 4 (Int32.ofInt (y 5)) (Int32.ofInt (0))).toInt = y 7 ∧ True) → ((τ.1 110 (x2).toNat).toInt = y 3 ∧ (τ.1 111 (x2).toNat).toInt = y 6 ∧ True) → Ok 241 31 15 [.ref 93, .int (Int32.ofInt (x0)), .int (Int32.ofInt (y 7)), .int (Int32.ofInt (x2 + 1)), v4, v5, v6, v7] [] τ Q)
    : Ok 241 31 25 [.ref 93, .int (Int32.ofInt (x0)), .int (Int32.ofInt (x1)), .int (Int32.ofInt (x2)), v4, v5, v6, v7] [] σ Q := by
  refine an_seg (B := pm_B) (F := []) (T := [110, 111]) (S := []) (fun _ h => absurd h List.not_mem_nil) (k := 241) (d := 30) (cs := [15]) 26 25 3 [(0, 0, 9999), (1, 0, 1023), (2, 0, 29)] [] [(2, 93, 0), (0, 0, 0), (0, 1, 0), (0, 2, 0), (5, 0, 0), (5, 0, 0), (5, 0, 0), (5, 0, 0)] [] [(15, [(2, 93, 0), (0, 0, 0), (0, 8, 0), (0, 2, 1), (5, 0, 0), (5, 0, 0), (5, 0, 0), (5, 0, 0)], [], [(0, 0, 9999), (1, 0, 1023), (2, 0, 29), (3, 0, 9), (4, 1, 512), (5, 0, 1023), (6, 0, 9), (7, 1, 512), (8, 0, 1023)], [], [(6, (1, 0, 1), (0, 3, 0), 4), (4, (0, 1, 0), (0, 4, 0), 5), (6, (1, 0, 1), (0, 6, 0), 7), (4, (0, 5, 0), (0, 7, 0), 8)], [(110, (0, 2, 0), (0, 3, 0)), (111, (0, 2, 0), (0, 6, 0))]),
    (15, [(2, 93, 0), (0, 0, 0), (0, 7, 0), (0, 2, 1), (5, 0, 0), (5, 0, 0), (5, 0, 0), (5, 0, 0)], [], [(0, 0, 9999), (1, 0, 1023), (2, 0, 29), (3, 0, 9), (4, 1, 512), (5, 0, 1023), (6, (-1), (-1)), (7, 0, 1023)], [], [(6, (1, 0, 1), (0, 3, 0), 4), (4, (0, 1, 0), (0, 4, 0), 5), (4, (0, 5, 0), (1, 0, 0), 7)], [(110, (0, 2, 0), (0, 3, 0)), (111, (0, 2, 0), (0, 6, 0))])] (by decide +kernel) (ρ0 := (fun s => [x0, x1, x2].getD s 0)) hB eF trivial ⟨rfl, ⟨rfl, ⟨rfl, ⟨rfl, ⟨hv4, ⟨hv5, ⟨hv6, ⟨hv7, trivial⟩⟩⟩⟩⟩⟩⟩⟩ trivial ?_
  refine List.forall_mem_cons.mpr ⟨?_, List.forall_mem_cons.mpr ⟨?_, fun _ h => absurd h List.not_mem_nil⟩⟩
  · intro ρ τ Lc stc hx g1 g2 g3 g4 g5 g6 g7 g8
    have e0 : ρ 0 = x0 := hx 0 (by decide)
    have e1 : ρ 1 = x1 := hx 1 (by decide)
    have e2 : ρ 2 = x2 := hx 2 (by decide)
    subst e0
    subst e1
    subst e2
    have g7 := g7 (by decide)
    match Lc, stc, g7, g8 with
    | [v0, v1, v2, v3, v4, v5, v6, v7], [], ⟨hv0, hv1, hv2, hv3, hv4, hv5, hv6, hv7, _⟩, _ =>
      cases hv0
      cases hv1
      cases hv2
      cases hv3
      exact l0 τ ρ v4 v5 v6 v7 hv4 hv5 hv6 hv7 g1 g2 g3 g4 g5 g6
  · intro ρ τ Lc stc hx g1 g2 g3 g4 g5 g6 g7 g8
    have e0 : ρ 0 = x0 := hx 0 (by decide)
    have e1 : ρ 1 = x1 := hx 1 (by decide)
    have e2 : ρ 2 = x2 := hx 2 (by decide)
    subst e0
    subst e1
    subst e2
    have g7 := g7 (by decide)
    match Lc, stc, g7, g8 with
    | [v0, v1, v2, v3, v4, v5, v6, v7], [], ⟨hv0, hv1, hv2, hv3, hv4, hv5, hv6, hv7, _⟩, _ =>
      cases hv0
      cases hv1
      cases hv2
      cases hv3
      exact l1 τ ρ v4 v5 v6 v7 hv4 hv5 hv6 hv7 g1 g2 g3 g4 g5 g6
set_option maxRecDepth 100000 in
theorem wzwp_49 {σ : pm_S} {Q : Option Value → pm_S → Prop} (x0 x1 x2 : Int) (v4 : Value) (v5 : Value) (v6 : Value) (v7 : Value) (hv4 : v4.category = 1) (hv5 : v5.category = 1) (hv6 : v6.category = 1) (hv7 : v7.category = 1) (hB : an_GB pm_B σ) (eF : (0 ≤ x0 ∧ x0 ≤ 9999) ∧ (0 ≤ x1 ∧ x1 ≤ 1023) ∧ (0 ≤ x2 ∧ x2 ≤ 29) ∧ True)
    (l0 : ∀ (τ : pm_S) (y : Nat → Int) (v4 : Value) (v5 : Value) (v6 : Value) (v7 : Value), v4.category = 1 → v5.category = 1 → v6.category = 1 → v7.category = 1 → an_GB pm_B τ → FQ [] σ τ → ((0 ≤ x0 ∧ x0 ≤ 9999) ∧ (0 ≤ x1 ∧ x1 ≤ 1023) ∧ (0 ≤ x2 ∧ x2 ≤ 29) ∧ True) → (True) → (True) → (True) → Ok 241 31 15 [.ref 93, .int (Int32.ofInt (x0)), .int (Int32.ofInt (x1)), .int (Int32.ofInt (x2 + 1)), v4, v5, v6, v7] [] τ Q)
    : Ok 241 31 49 [.ref 93, .int (Int32.ofInt (x0)), .int (Int32.ofInt (x1)), .int (Int32.ofInt (x2)), v4, v5, v6, v7] [] σ Q := by
  refine an_seg (B := pm_B) (F := []) (T := []) (S := []) (fun _ h => absurd h List.not_mem_nil) (k := 241) (d := 30) (cs := [15]) 4 49 3 [(0, 0, 9999), (1, 0, 1023), (2, 0, 29)] [] [(2, 93, 0), (0, 0, 0), (0, 1, 0), (0, 2, 0), (5, 0, 0), (5, 0, 0), (5, 0, 0), (5, 0, 0)] [] [(15, [(2, 93, 0), (0, 0, 0), (0, 1, 0), (0, 2, 1), (5, 0, 0), (5, 0, 0), (5, 0, 0), (5, 0, 0)], [], [(0, 0, 9999), (1, 0, 1023), (2, 0, 29)], [], [], [])] (by decide +kernel) (ρ0 := (fun s => [x0, x1, x2].getD s 0)) hB eF trivial ⟨rfl, ⟨rfl, ⟨rfl, ⟨rfl, ⟨hv4, ⟨hv5, ⟨hv6, ⟨hv7, trivial⟩⟩⟩⟩⟩⟩⟩⟩ trivial ?_
  refine List.forall_mem_cons.mpr ⟨?_, fun _ h => absurd h List.not_mem_nil⟩
  · intro ρ τ Lc stc hx g1 g2 g3 g4 g5 g6 g7 g8
    have e0 : ρ 0 = x0 := hx 0 (by decide)
    have e1 : ρ 1 = x1 := hx 1 (by decide)
    have e2 : ρ 2 = x2 := hx 2 (by decide)
    subst e0
    subst e1
    subst e2
    have g7 := g7 (by decide)
    match Lc, stc, g7, g8 with
    | [v0, v1, v2, v3, v4, v5, v6, v7], [], ⟨hv0, hv1, hv2, hv3, hv4, hv5, hv6, hv7, _⟩, _ =>
      cases hv0
      cases hv1
      cases hv2
      cases hv3
      exact l0 τ ρ v4 v5 v6 v7 hv4 hv5 hv6 hv7 g1 g2 g3 g4 g5 g6
set_option maxRecDepth 100000 in
theorem wzwp_51 {σ : pm_S} {Q : Option Value → pm_S → Prop} (x0 x1 x2 : Int) (v4 : Value) (v5 : Value) (v6 : Value) (v7 : Value) (hv4 : v4.category = 1) (hv5 : v5.category = 1) (hv6 : v6.category = 1) (hv7 : v7.category = 1) (hB : an_GB pm_B σ) (eF : (0 ≤ x0 ∧ x0 ≤ 9999) ∧ (0 ≤ x1 ∧ x1 ≤ 1023) ∧ (0 ≤ x2 ∧ x2 ≤ 30) ∧ True)
    (l0 : ∀ (τ : pm_S) (y : Nat → Int) (v5 : Value) (v6 : Value) (v7 : Value), v5.category = 1 → v6.category = 1 → v7.category = 1 → an_GB pm_B τ → FQ [] σ τ → ((0 ≤ x0 ∧ x0 ≤ 9999) ∧ (0 ≤ x1 ∧ x1 ≤ 1023) ∧ (0 ≤ x2 ∧ x2 ≤ 30) ∧ (0 ≤ y 3 ∧ y 3 ≤ 5) ∧ True) → (True) → ((an_f 16 (Int32.ofInt (x1)) (Int32.ofInt (0))).toInt = y 3 ∧ True) → (True) → Ok 241 31 62 [.ref 93, .int (Int32.ofInt (x0)), .int (Int32.ofInt (x1)), .int (Int32.ofInt 1), .int (Int32.ofInt 0), v5, v6, v7] [] τ Q)
    (l1 : ∀ (τ : pm_S) (y : Nat → Int), an_GB pm_B τ → FQ [] σ τ → ((0 ≤ x0 ∧ x0 ≤ 9999) ∧ (0 ≤ x1 ∧ x1 ≤ 1023) ∧ (0 ≤ x2 ∧ x2 ≤ 30) ∧ (6 ≤ y 3 ∧ y 3 ≤ 10) ∧ True) → (True) → ((an_f 16 (Int32.ofInt (x1)) (Int32.ofInt (0))).toInt = y 3 ∧ True) → (True) → Q (some (.int (Int32.ofInt (-1)))) τ)
    : Ok 241 31 51 [.ref 93, .int (Int32.ofInt (x0)), .int (Int32.ofInt (x1)), .int (Int32.ofInt (x2)), v4, v5, v6, v7] [] σ Q := by
  refine an_seg (B := pm_B) (F := []) (T := []) (S := []) (fun _ h => absurd h List.not_mem_nil) (k := 241) (d := 30) (cs := [62]) 11 51 3 [(0, 0, 9999), (1, 0, 1023), (2, 0, 30)] [] [(2, 93, 0), (0, 0, 0), (0, 1, 0), (0, 2, 0), (5, 0, 0), (5, 0, 0), (5, 0, 0), (5, 0, 0)] [] [(62, [(2, 93, 0), (0, 0, 0), (0, 1, 0), (1, 0, 1), (1, 0, 0), (5, 0, 0), (5, 0, 0), (5, 0, 0)], [], [(0, 0, 9999), (1, 0, 1023), (2, 0, 30), (3, 0, 5)], [], [(16, (0, 1, 0), (1, 0, 0), 3)], []),
    (9999, [], [(1, 0, (-1))], [(0, 0, 9999), (1, 0, 1023), (2, 0, 30), (3, 6, 10)], [], [(16, (0, 1, 0), (1, 0, 0), 3)], [])] (by decide +kernel) (ρ0 := (fun s => [x0, x1, x2].getD s 0)) hB eF trivial ⟨rfl, ⟨rfl, ⟨rfl, ⟨rfl, ⟨hv4, ⟨hv5, ⟨hv6, ⟨hv7, trivial⟩⟩⟩⟩⟩⟩⟩⟩ trivial ?_
  refine List.forall_mem_cons.mpr ⟨?_, List.forall_mem_cons.mpr ⟨?_, fun _ h => absurd h List.not_mem_nil⟩⟩
  · intro ρ τ Lc stc hx g1 g2 g3 g4 g5 g6 g7 g8
    have e0 : ρ 0 = x0 := hx 0 (by decide)
    have e1 : ρ 1 = x1 := hx 1 (by decide)
    have e2 : ρ 2 = x2 := hx 2 (by decide)
    subst e0
    subst e1
    subst e2
    have g7 := g7 (by decide)
    match Lc, stc, g7, g8 with
    | [v0, v1, v2, v3, v4, v5, v6, v7], [], ⟨hv0, hv1, hv2, hv3, hv4, hv5, hv6, hv7, _⟩, _ =>
      cases hv0
      cases hv1
      cases hv2
      cases hv3
      cases hv4
      exact l0 τ ρ v5 v6 v7 hv5 hv6 hv7 g1 g2 g3 g4 g5 g6
  · intro ρ τ Lc stc hx g1 g2 g3 g4 g5 g6 g7 g8
    have e0 : ρ 0 = x0 := hx 0 (by decide)
    have e1 : ρ 1 = x1 := hx 1 (by decide)
    have e2 : ρ 2 = x2 := hx 2 (by decide)
    subst e0
    subst e1
    subst e2
    match stc, g8 with
    | [_], ⟨h, _⟩ => cases h; exact l1 τ ρ g1 g2 g3 g4 g5 g6
set_option maxRecDepth 100000 in
theorem wzwp_62 {σ : pm_S} {Q : Option Value → pm_S → Prop} (x0 x1 x2 x3 : Int) (v5 : Value) (v6 : Value) (v7 : Value) (hv5 : v5.category = 1) (hv6 : v6.category = 1) (hv7 : v7.category = 1) (hB : an_GB pm_B σ) (eF : (0 ≤ x0 ∧ x0 ≤ 9999) ∧ (0 ≤ x1 ∧ x1 ≤ 1023) ∧ (0 ≤ x2 ∧ x2 ≤ 100000) ∧ (0 ≤ x3 ∧ x3 ≤ 5) ∧ True)
    (l0 : ∀ (τ : pm_S) (y : Nat → Int) (v5 : Value) (v6 : Value) (v7 : Value), v5.category = 1 → v6.category = 1 → v7.category = 1 → an_GB pm_B τ → FQ [] σ τ → ((0 ≤ x0 ∧ x0 ≤ 9999) ∧ (0 ≤ x1 ∧ x1 ≤ 1023) ∧ (0 ≤ x2 ∧ x2 ≤ 100000) ∧ (0 ≤ x3 ∧ x3 ≤ 5) ∧ (0 ≤ y 4 ∧ y 4 ≤ 10) ∧ True) → (True) → ((an_f 16 (Int32.ofInt (x1)) (Int32.ofInt (0))).toInt = y 4 ∧ True) → (True) → Ok 241 31 66 [.ref 93, .int (Int32.ofInt (x0)), .int (Int32.ofInt (x1)), .int (Int32.ofInt (x2)), .int (Int32.ofInt (x3)), v5, v6, v7] [.int (Int32.ofInt (y 4)), .int (Int32.ofInt (x3))] τ Q)
    : Ok 241 31 62 [.ref 93, .int (Int32.ofInt (x0)), .int (Int32.ofInt (x1)), .int (Int32.ofInt (x2)), .int (Int32.ofInt (x3)), v5, v6, v7] [] σ Q := by
  refine an_seg (B := pm_B) (F := []) (T := []) (S := []) (fun _ h => absurd h List.not_mem_nil) (k := 241) (d := 30) (cs := [66]) 6 62 4 [(0, 0, 9999), (1, 0, 1023), (2, 0, 100000), (3, 0, 5)] [] [(2, 93, 0), (0, 0, 0), (0, 1, 0), (0, 2, 0), (0, 3, 0), (5, 0, 0), (5, 0, 0), (5, 0, 0)] [] [(66, [(2, 93, 0), (0, 0, 0), (0, 1, 0), (0, 2, 0), (0, 3, 0), (5, 0, 0), (5, 0, 0), (5, 0, 0)], [(0, 4, 0), (0, 3, 0)], [(0, 0, 9999), (1, 0, 1023), (2, 0, 100000), (3, 0, 5), (4, 0, 10)], [], [(16, (0, 1, 0), (1, 0, 0), 4)], [])] (by decide +kernel) (ρ0 := (fun s => [x0, x1, x2, x3].getD s 0)) hB eF trivial ⟨rfl, ⟨rfl, ⟨rfl, ⟨rfl, ⟨rfl, ⟨hv5, ⟨hv6, ⟨hv7, trivial⟩⟩⟩⟩⟩⟩⟩⟩ trivial ?_
  refine List.forall_mem_cons.mpr ⟨?_, fun _ h => absurd h List.not_mem_nil⟩
  · intro ρ τ Lc stc hx g1 g2 g3 g4 g5 g6 g7 g8
    have e0 : ρ 0 = x0 := hx 0 (by decide)
    have e1 : ρ 1 = x1 := hx 1 (by decide)
    have e2 : ρ 2 = x2 := hx 2 (by decide)
    have e3 : ρ 3 = x3 := hx 3 (by decide)
    subst e0
    subst e1
    subst e2
    subst e3
    have g7 := g7 (by decide)
    match Lc, stc, g7, g8 with
    | [v0, v1, v2, v3, v4, v5, v6, v7], [w0, w1], ⟨hv0, hv1, hv2, hv3, hv4, hv5, hv6, hv7, _⟩, ⟨hw0, hw1, _⟩ =>
      cases hv0
      cases hv1
      cases hv2
      cases hv3
      cases hv4
      cases hw0
      cases hw1
      exact l0 τ ρ v5 v6 v7 hv5 hv6 hv7 g1 g2 g3 g4 g5 g6
set_option maxRecDepth 100000 in
theorem wzwp_67 {σ : pm_S} {Q : Option Value → pm_S → Prop} (x0 x1 x2 x3 x4 : Int) (v5 : Value) (v6 : Value) (v7 : Value) (hv5 : v5.category = 1) (hv6 : v6.category = 1) (hv7 : v7.category = 1) (hB : an_GB pm_B σ) (eF : (0 ≤ x0 ∧ x0 ≤ 9999) ∧ (0 ≤ x1 ∧ x1 ≤ 1023) ∧ (0 ≤ x2 ∧ x2 ≤ 10000) ∧ (0 ≤ x3 ∧ x3 ≤ 4) ∧ (0 ≤ x4 ∧ x4 ≤ 10) ∧ True) (eC : (σ.1 93 2).toInt = x4 ∧ True)
    (l0 : ∀ (τ : pm_S) (y : Nat → Int) (v5 : Value) (v6 : Value) (v7 : Value), v5.category = 1 → v6.category = 1 → v7.category = 1 → an_GB pm_B τ → FQ [] σ τ → ((0 ≤ x0 ∧ x0 ≤ 9999) ∧ (0 ≤ x1 ∧ x1 ≤ 1023) ∧ (0 ≤ x2 ∧ x2 ≤ 10000) ∧ (0 ≤ x3 ∧ x3 ≤ 4) ∧ (0 ≤ x4 ∧ x4 ≤ 10) ∧ (0 ≤ y 5 ∧ y 5 ≤ 100000) ∧ True) → (True) → ((an_f 2 (Int32.ofInt (x2)) (Int32.ofInt (x4))).toInt = y 5 ∧ True) → ((τ.1 93 2).toInt = x4 ∧ True) → Ok 241 31 62 [.ref 93, .int (Int32.ofInt (x0)), .int (Int32.ofInt (x1)), .int (Int32.ofInt (y 5)), .int (Int32.ofInt (x3 + 1)), v5, v6, v7] [] τ Q)
    : Ok 241 31 67 [.ref 93, .int (Int32.ofInt (x0)), .int (Int32.ofInt (x1)), .int (Int32.ofInt (x2)), .int (Int32.ofInt (x3)), v5, v6, v7] [] σ Q := by
  refine an_seg (B := pm_B) (F := []) (T := []) (S := []) (fun _ h => absurd h List.not_mem_nil) (k := 241) (d := 30) (cs := [62]) 9 67 5 [(0, 0, 9999), (1, 0, 1023), (2, 0, 10000), (3, 0, 4), (4, 0, 10)] [(93, (1, 0, 2), (0, 4, 0))] [(2, 93, 0), (0, 0, 0), (0, 1, 0), (0, 2, 0), (0, 3, 0), (5, 0, 0), (5, 0, 0), (5, 0, 0)] [] [(62, [(2, 93, 0), (0, 0, 0), (0, 1, 0), (0, 5, 0), (0, 3, 1), (5, 0, 0), (5, 0, 0), (5, 0, 0)], [], [(0, 0, 9999), (1, 0, 1023), (2, 0, 10000), (3, 0, 4), (4, 0, 10), (5, 0, 100000)], [], [(2, (0, 2, 0), (0, 4, 0), 5)], [(93, (1, 0, 2), (0, 4, 0))])] (by decide +kernel) (ρ0 := (fun s => [x0, x1, x2, x3, x4].getD s 0)) hB eF eC ⟨rfl, ⟨rfl, ⟨rfl, ⟨rfl, ⟨rfl, ⟨hv5, ⟨hv6, ⟨hv7, trivial⟩⟩⟩⟩⟩⟩⟩⟩ trivial ?_
  refine List.forall_mem_cons.mpr ⟨?_, fun _ h => absurd h List.not_mem_nil⟩
  · intro ρ τ Lc stc hx g1 g2 g3 g4 g5 g6 g7 g8
    have e0 : ρ 0 = x0 := hx 0 (by decide)
    have e1 : ρ 1 = x1 := hx 1 (by decide)
    have e2 : ρ 2 = x2 := hx 2 (by decide)
    have e3 : ρ 3 = x3 := hx 3 (by decide)
    have e4 : ρ 4 = x4 := hx 4 (by decide)
    subst e0
    subst e1
    subst e2
    subst e3
    subst e4
    have g7 := g7 (by decide)
    match Lc, stc, g7, g8 with
    | [v0, v1, v2, v3, v4, v5, v6, v7], [], ⟨hv0, hv1, hv2, hv3, hv4, hv5, hv6, hv7, _⟩, _ =>
      cases hv0
      cases hv1
      cases hv2
      cases hv3
      cases hv4
      exact l0 τ ρ v5 v6 v7 hv5 hv6 hv7 g1 g2 g3 g4 g5 g6
set_option maxRecDepth 100000 in
theorem wzwp_74 {σ : pm_S} {Q : Option Value → pm_S → Prop} (x0 x1 x2 x3 : Int) (v5 : Value) (v6 : Value) (v7 : Value) (hv5 : v5.category = 1) (hv6 : v6.category = 1) (hv7 : v7.category = 1) (hB : an_GB pm_B σ) (eF : (0 ≤ x0 ∧ x0 ≤ 9999) ∧ (0 ≤ x1 ∧ x1 ≤ 1023) ∧ (0 ≤ x2 ∧ x2 ≤ 100000) ∧ (0 ≤ x3 ∧ x3 ≤ 5) ∧ True)
    (l0 : ∀ (τ : pm_S) (y : Nat → Int) (v6 : Value) (v7 : Value), v6.category = 1 → v7.category = 1 → an_GB pm_B τ → FQ [] σ τ → ((0 ≤ x0 ∧ x0 ≤ 9999) ∧ (0 ≤ x1 ∧ x1 ≤ 1023) ∧ (0 ≤ x2 ∧ x2 ≤ 100000) ∧ (0 ≤ x3 ∧ x3 ≤ 5) ∧ True) → (True) → (True) → (True) → Ok 241 31 78 [.ref 93, .int (Int32.ofInt (x0)), .int (Int32.ofInt (x1)), .int (Int32.ofInt (x2)), .int (Int32.ofInt 1000000000), .int (Int32.ofInt 0), v6, v7] [] τ Q)
    : Ok 241 31 74 [.ref 93, .int (Int32.ofInt (x0)), .int (Int32.ofInt (x1)), .int (Int32.ofInt (x2)), .int (Int32.ofInt (x3)), v5, v6, v7] [] σ Q := by
  refine an_seg (B := pm_B) (F := []) (T := []) (S := []) (fun _ h => absurd h List.not_mem_nil) (k := 241) (d := 30) (cs := [78]) 6 74 4 [(0, 0, 9999), (1, 0, 1023), (2, 0, 100000), (3, 0, 5)] [] [(2, 93, 0), (0, 0, 0), (0, 1, 0), (0, 2, 0), (0, 3, 0), (5, 0, 0), (5, 0, 0), (5, 0, 0)] [] [(78, [(2, 93, 0), (0, 0, 0), (0, 1, 0), (0, 2, 0), (1, 0, 1000000000), (1, 0, 0), (5, 0, 0), (5, 0, 0)], [], [(0, 0, 9999), (1, 0, 1023), (2, 0, 100000), (3, 0, 5)], [], [], [])] (by decide +kernel) (ρ0 := (fun s => [x0, x1, x2, x3].getD s 0)) hB eF trivial ⟨rfl, ⟨rfl, ⟨rfl, ⟨rfl, ⟨rfl, ⟨hv5, ⟨hv6, ⟨hv7, trivial⟩⟩⟩⟩⟩⟩⟩⟩ trivial ?_
  refine List.forall_mem_cons.mpr ⟨?_, fun _ h => absurd h List.not_mem_nil⟩
  · intro ρ τ Lc stc hx g1 g2 g3 g4 g5 g6 g7 g8
    have e0 : ρ 0 = x0 := hx 0 (by decide)
    have e1 : ρ 1 = x1 := hx 1 (by decide)
    have e2 : ρ 2 = x2 := hx 2 (by decide)
    have e3 : ρ 3 = x3 := hx 3 (by decide)
    subst e0
    subst e1
    subst e2
    subst e3
    have g7 := g7 (by decide)
    match Lc, stc, g7, g8 with
    | [v0, v1, v2, v3, v4, v5, v6, v7], [], ⟨hv0, hv1, hv2, hv3, hv4, hv5, hv6, hv7, _⟩, _ =>
      cases hv0
      cases hv1
      cases hv2
      cases hv3
      cases hv4
      cases hv5
      exact l0 τ ρ v6 v7 hv6 hv7 g1 g2 g3 g4 g5 g6
set_option maxRecDepth 100000 in
theorem wzwp_78 {σ : pm_S} {Q : Option Value → pm_S → Prop} (x0 x1 x2 x3 x4 : Int) (v6 : Value) (v7 : Value) (hv6 : v6.category = 1) (hv7 : v7.category = 1) (hB : an_GB pm_B σ) (eF : (0 ≤ x0 ∧ x0 ≤ 9999) ∧ (0 ≤ x1 ∧ x1 ≤ 1023) ∧ (0 ≤ x2 ∧ x2 ≤ 100000) ∧ ((-2147483648) ≤ x3 ∧ x3 ≤ 2147483647) ∧ (0 ≤ x4 ∧ x4 ≤ 100000) ∧ True)
    (l0 : ∀ (τ : pm_S) (y : Nat → Int) (v6 : Value) (v7 : Value), v6.category = 1 → v7.category = 1 → an_GB pm_B τ → FQ [] σ τ → ((0 ≤ x0 ∧ x0 ≤ 9999) ∧ (0 ≤ x1 ∧ x1 ≤ 1023) ∧ (0 ≤ x2 ∧ x2 ≤ 100000) ∧ ((-2147483648) ≤ x3 ∧ x3 ≤ 2147483647) ∧ (0 ≤ x4 ∧ x4 ≤ 100000) ∧ True) → (True) → (True) → (True) → Ok 241 31 80 [.ref 93, .int (Int32.ofInt (x0)), .int (Int32.ofInt (x1)), .int (Int32.ofInt (x2)), .int (Int32.ofInt (x3)), .int (Int32.ofInt (x4)), v6, v7] [.int (Int32.ofInt (x2)), .int (Int32.ofInt (x4))] τ Q)
    : Ok 241 31 78 [.ref 93, .int (Int32.ofInt (x0)), .int (Int32.ofInt (x1)), .int (Int32.ofInt (x2)), .int (Int32.ofInt (x3)), .int (Int32.ofInt (x4)), v6, v7] [] σ Q := by
  refine an_seg (B := pm_B) (F := []) (T := []) (S := []) (fun _ h => absurd h List.not_mem_nil) (k := 241) (d := 30) (cs := [80]) 4 78 5 [(0, 0, 9999), (1, 0, 1023), (2, 0, 100000), (3, (-2147483648), 2147483647), (4, 0, 100000)] [] [(2, 93, 0), (0, 0, 0), (0, 1, 0), (0, 2, 0), (0, 3, 0), (0, 4, 0), (5, 0, 0), (5, 0, 0)] [] [(80, [(2, 93, 0), (0, 0, 0), (0, 1, 0), (0, 2, 0), (0, 3, 0), (0, 4, 0), (5, 0, 0), (5, 0, 0)], [(0, 2, 0), (0, 4, 0)], [(0, 0, 9999), (1, 0, 1023), (2, 0, 100000), (3, (-2147483648), 2147483647), (4, 0, 100000)], [], [], [])] (by decide +kernel) (ρ0 := (fun s => [x0, x1, x2, x3, x4].getD s 0)) hB eF trivial ⟨rfl, ⟨rfl, ⟨rfl, ⟨rfl, ⟨rfl, ⟨rfl, ⟨hv6, ⟨hv7, trivial⟩⟩⟩⟩⟩⟩⟩⟩ trivial ?_
  refine List.forall_mem_cons.mpr ⟨?_, fun _ h => absurd h List.not_mem_nil⟩
  · intro ρ τ Lc stc hx g1 g2 g3 g4 g5 g6 g7 g8
    have e0 : ρ 0 = x0 := hx 0 (by decide)
    have e1 : ρ 1 = x1 := hx 1 (by decide)
    have e2 : ρ 2 = x2 := hx 2 (by decide)
    have e3 : ρ 3 = x3 := hx 3 (by decide)
    have e4 : ρ 4 = x4 := hx 4 (by decide)
    subst e0
    subst e1
    subst e2
    subst e3
    subst e4
    have g7 := g7 (by decide)
    match Lc, stc, g7, g8 with
    | [v0, v1, v2, v3, v4, v5, v6, v7], [w0, w1], ⟨hv0, hv1, hv2, hv3, hv4, hv5, hv6, hv7, _⟩, ⟨hw0, hw1, _⟩ =>
      cases hv0
      cases hv1
      cases hv2
      cases hv3
      cases hv4
      cases hv5
      cases hw0
      cases hw1
      exact l0 τ ρ v6 v7 hv6 hv7 g1 g2 g3 g4 g5 g6
set_option maxRecDepth 100000 in
theorem wzwp_81 {σ : pm_S} {Q : Option Value → pm_S → Prop} (x0 x1 x2 x3 x4 : Int) (v6 : Value) (v7 : Value) (hv6 : v6.category = 1) (hv7 : v7.category = 1) (hB : an_GB pm_B σ) (eF : (0 ≤ x0 ∧ x0 ≤ 9999) ∧ (0 ≤ x1 ∧ x1 ≤ 1023) ∧ (0 ≤ x2 ∧ x2 ≤ 100000) ∧ ((-2147483648) ≤ x3 ∧ x3 ≤ 2147483647) ∧ (0 ≤ x4 ∧ x4 ≤ 100000) ∧ True)
    (l0 : ∀ (τ : pm_S) (y : Nat → Int), an_GB pm_B τ → FQ [] σ τ → ((0 ≤ x0 ∧ x0 ≤ 9999) ∧ (0 ≤ x1 ∧ x1 ≤ 1023) ∧ (0 ≤ x2 ∧ x2 ≤ 100000) ∧ ((-2147483648) ≤ x3 ∧ x3 ≤ 2147483647) ∧ (0 ≤ x4 ∧ x4 ≤ 100000) ∧ True) → (True) → (True) → (True) → Ok 241 31 85 [.ref 93, .int (Int32.ofInt (x0)), .int (Int32.ofInt (x1)), .int (Int32.ofInt (x2)), .int (Int32.ofInt (x3)), .int (Int32.ofInt (x4)), .int (Int32.ofInt (x4)), .int (Int32.ofInt 0)] [] τ Q)
    : Ok 241 31 81 [.ref 93, .int (Int32.ofInt (x0)), .int (Int32.ofInt (x1)), .int (Int32.ofInt (x2)), .int (Int32.ofInt (x3)), .int (Int32.ofInt (x4)), v6, v7] [] σ Q := by
  refine an_seg (B := pm_B) (F := []) (T := []) (S := []) (fun _ h => absurd h List.not_mem_nil) (k := 241) (d := 30) (cs := [85]) 6 81 5 [(0, 0, 9999), (1, 0, 1023), (2, 0, 100000), (3, (-2147483648), 2147483647), (4, 0, 100000)] [] [(2, 93, 0), (0, 0, 0), (0, 1, 0), (0, 2, 0), (0, 3, 0), (0, 4, 0), (5, 0, 0), (5, 0, 0)] [] [(85, [(2, 93, 0), (0, 0, 0), (0, 1, 0), (0, 2, 0), (0, 3, 0), (0, 4, 0), (0, 4, 0), (1, 0, 0)], [], [(0, 0, 9999), (1, 0, 1023), (2, 0, 100000), (3, (-2147483648), 2147483647), (4, 0, 100000)], [], [], [])] (by decide +kernel) (ρ0 := (fun s => [x0, x1, x2, x3, x4].getD s 0)) hB eF trivial ⟨rfl, ⟨rfl, ⟨rfl, ⟨rfl, ⟨rfl, ⟨rfl, ⟨hv6, ⟨hv7, trivial⟩⟩⟩⟩⟩⟩⟩⟩ trivial ?_
  refine List.forall_mem_cons.mpr ⟨?_, fun _ h => absurd h List.not_mem_nil⟩
  · intro ρ τ Lc stc hx g1 g2 g3 g4 g5 g6 g7 g8
    have e0 : ρ 0 = x0 := hx 0 (by decide)
    have e1 : ρ 1 = x1 := hx 1 (by decide)
    have e2 : ρ 2 = x2 := hx 2 (by decide)
    have e3 : ρ 3 = x3 := hx 3 (by decide)
    have e4 : ρ 4 = x4 := hx 4 (by decide)
    subst e0
    subst e1
    subst e2
    subst e3
    subst e4
    have g7 := g7 (by decide)
    match Lc, stc, g7, g8 with
    | [v0, v1, v2, v3, v4, v5, v6, v7], [], ⟨hv0, hv1, hv2, hv3, hv4, hv5, hv6, hv7, _⟩, _ =>
      cases hv0
      cases hv1
      cases hv2
      cases hv3
      cases hv4
      cases hv5
      cases hv6
      cases hv7
      exact l0 τ ρ  g1 g2 g3 g4 g5 g6
set_option maxRecDepth 100000 in
theorem wzwp_85 {σ : pm_S} {Q : Option Value → pm_S → Prop} (x0 x1 x2 x3 x4 x5 x6 x7 : Int)  (hB : an_GB pm_B σ) (eF : (0 ≤ x0 ∧ x0 ≤ 9999) ∧ (0 ≤ x1 ∧ x1 ≤ 1023) ∧ (0 ≤ x2 ∧ x2 ≤ 100000) ∧ ((-2147483648) ≤ x3 ∧ x3 ≤ 2147483647) ∧ (0 ≤ x4 ∧ x4 ≤ 100000) ∧ (0 ≤ x5 ∧ x5 ≤ 100000) ∧ (0 ≤ x6 ∧ x6 ≤ 10) ∧ (0 ≤ x7 ∧ x7 ≤ 10) ∧ True) (eC : (σ.1 93 5).toInt = x7 ∧ True)
    (l0 : ∀ (τ : pm_S) (y : Nat → Int), an_GB pm_B τ → FQ [] σ τ → ((0 ≤ x0 ∧ x0 ≤ 9999) ∧ (0 ≤ x1 ∧ x1 ≤ 1023) ∧ (0 ≤ x2 ∧ x2 ≤ 100000) ∧ ((-2147483648) ≤ x3 ∧ x3 ≤ 2147483647) ∧ (0 ≤ x4 ∧ x4 ≤ 100000) ∧ (0 ≤ x5 ∧ x5 ≤ 100000) ∧ (0 ≤ x6 ∧ x6 ≤ 10) ∧ (0 ≤ x7 ∧ x7 ≤ 10) ∧ True) → (True) → (True) → ((τ.1 93 5).toInt = x7 ∧ True) → Ok 241 31 88 [.ref 93, .int (Int32.ofInt (x0)), .int (Int32.ofInt (x1)), .int (Int32.ofInt (x2)), .int (Int32.ofInt (x3)), .int (Int32.ofInt (x4)), .int (Int32.ofInt (x5)), .int (Int32.ofInt (x6))] [.int (Int32.ofInt (x7)), .int (Int32.ofInt (x6))] τ Q)
    : Ok 241 31 85 [.ref 93, .int (Int32.ofInt (x0)), .int (Int32.ofInt (x1)), .int (Int32.ofInt (x2)), .int (Int32.ofInt (x3)), .int (Int32.ofInt (x4)), .int (Int32.ofInt (x5)), .int (Int32.ofInt (x6))] [] σ Q := by
  refine an_seg (B := pm_B) (F := []) (T := []) (S := []) (fun _ h => absurd h List.not_mem_nil) (k := 241) (d := 30) (cs := [88]) 5 85 8 [(0, 0, 9999), (1, 0, 1023), (2, 0, 100000), (3, (-2147483648), 2147483647), (4, 0, 100000), (5, 0, 100000), (6, 0, 10), (7, 0, 10)] [(93, (1, 0, 5), (0, 7, 0))] [(2, 93, 0), (0, 0, 0), (0, 1, 0), (0, 2, 0), (0, 3, 0), (0, 4, 0), (0, 5, 0), (0, 6, 0)] [] [(88, [(2, 93, 0), (0, 0, 0), (0, 1, 0), (0, 2, 0), (0, 3, 0), (0, 4, 0), (0, 5, 0), (0, 6, 0)], [(0, 7, 0), (0, 6, 0)], [(0, 0, 9999), (1, 0, 1023), (2, 0, 100000), (3, (-2147483648), 2147483647), (4, 0, 100000), (5, 0, 100000), (6, 0, 10), (7, 0, 10)], [], [], [(93, (1, 0, 5), (0, 7, 0))])] (by decide +kernel) (ρ0 := (fun s => [x0, x1, x2, x3, x4, x5, x6, x7].getD s 0)) hB eF eC ⟨rfl, ⟨rfl, ⟨rfl, ⟨rfl, ⟨rfl, ⟨rfl, ⟨rfl, ⟨rfl, trivial⟩⟩⟩⟩⟩⟩⟩⟩ trivial ?_
  refine List.forall_mem_cons.mpr ⟨?_, fun _ h => absurd h List.not_mem_nil⟩
  · intro ρ τ Lc stc hx g1 g2 g3 g4 g5 g6 g7 g8
    have e0 : ρ 0 = x0 := hx 0 (by decide)
    have e1 : ρ 1 = x1 := hx 1 (by decide)
    have e2 : ρ 2 = x2 := hx 2 (by decide)
    have e3 : ρ 3 = x3 := hx 3 (by decide)
    have e4 : ρ 4 = x4 := hx 4 (by decide)
    have e5 : ρ 5 = x5 := hx 5 (by decide)
    have e6 : ρ 6 = x6 := hx 6 (by decide)
    have e7 : ρ 7 = x7 := hx 7 (by decide)
    subst e0
    subst e1
    subst e2
    subst e3
    subst e4
    subst e5
    subst e6
    subst e7
    have g7 := g7 (by decide)
    match Lc, stc, g7, g8 with
    | [v0, v1, v2, v3, v4, v5, v6, v7], [w0, w1], ⟨hv0, hv1, hv2, hv3, hv4, hv5, hv6, hv7, _⟩, ⟨hw0, hw1, _⟩ =>
      cases hv0
      cases hv1
      cases hv2
      cases hv3
      cases hv4
      cases hv5
      cases hv6
      cases hv7
      cases hw0
      cases hw1
      exact l0 τ ρ  g1 g2 g3 g4 g5 g6
set_option maxRecDepth 100000 in
theorem wzwp_89 {σ : pm_S} {Q : Option Value → pm_S → Prop} (x0 x1 x2 x3 x4 x5 x6 x7 : Int)  (hB : an_GB pm_B σ) (eF : (0 ≤ x0 ∧ x0 ≤ 9999) ∧ (0 ≤ x1 ∧ x1 ≤ 1023) ∧ (0 ≤ x2 ∧ x2 ≤ 100000) ∧ ((-2147483648) ≤ x3 ∧ x3 ≤ 2147483647) ∧ (0 ≤ x4 ∧ x4 ≤ 100000) ∧ (0 ≤ x5 ∧ x5 ≤ 100000) ∧ (0 ≤ x6 ∧ x6 ≤ 9) ∧ (1 ≤ x7 ∧ x7 ≤ 10) ∧ True) (eC : (σ.1 93 2).toInt = x7 ∧ True)
    (l0 : ∀ (τ : pm_S) (y : Nat → Int), an_GB pm_B τ → FQ [] σ τ → ((0 ≤ x0 ∧ x0 ≤ 9999) ∧ (0 ≤ x1 ∧ x1 ≤ 1023) ∧ (0 ≤ x2 ∧ x2 ≤ 100000) ∧ ((-2147483648) ≤ x3 ∧ x3 ≤ 2147483647) ∧ (0 ≤ x4 ∧ x4 ≤ 100000) ∧ (0 ≤ x5 ∧ x5 ≤ 100000) ∧ (0 ≤ x6 ∧ x6 ≤ 9) ∧ (1 ≤ x7 ∧ x7 ≤ 10) ∧ (0 ≤ y 8 ∧ y 8 ≤ 1023) ∧ (1 ≤ y 9 ∧ y 9 ≤ 1) ∧ (0 ≤ y 10 ∧ y 10 ≤ 9) ∧ True) → (y 10 ≤ x7 + (-1) ∧ (y 10).natAbs < (x7).natAbs ∧ y 9 ≤ y 8 + 0 ∧ True) → ((an_f 7 (Int32.ofInt (x1)) (Int32.ofInt (x6))).toInt = y 8 ∧ (an_f 3 (Int32.ofInt (y 8)) (Int32.ofInt (1))).toInt = y 9 ∧ (an_f 10 (Int32.ofInt (x5)) (Int32.ofInt (x7))).toInt = y 10 ∧ True) → ((τ.1 93 2).toInt = x7 ∧ True) → Ok 241 31 103 [.ref 93, .int (Int32.ofInt (x0)), .int (Int32.ofInt (x1)), .int (Int32.ofInt (x2)), .int (Int32.ofInt (x3)), .int (Int32.ofInt (x4)), .int (Int32.ofInt (x5)), .int (Int32.ofInt (x6))] [.int (Int32.ofInt (y 10)), .int (Int32.ofInt (x6)), .ref 132] τ Q)
    (l1 : ∀ (τ : pm_S) (y : Nat → Int), an_GB pm_B τ → FQ [] σ τ → ((0 ≤ x0 ∧ x0 ≤ 9999) ∧ (0 ≤ x1 ∧ x1 ≤ 1023) ∧ (0 ≤ x2 ∧ x2 ≤ 100000) ∧ ((-2147483648) ≤ x3 ∧ x3 ≤ 2147483647) ∧ (0 ≤ x4 ∧ x4 ≤ 100000) ∧ (0 ≤ x5 ∧ x5 ≤ 100000) ∧ (0 ≤ x6 ∧ x6 ≤ 9) ∧ (1 ≤ x7 ∧ x7 ≤ 10) ∧ (0 ≤ y 8 ∧ y 8 ≤ 1023) ∧ (0 ≤ y 9 ∧ y 9 ≤ 0) ∧ True) → (y 9 ≤ y 8 + 0 ∧ True) → ((an_f 7 (Int32.ofInt (x1)) (Int32.ofInt (x6))).toInt = y 8 ∧ (an_f 3 (Int32.ofInt (y 8)) (Int32.ofInt (1))).toInt = y 9 ∧ True) → ((τ.1 93 2).toInt = x7 ∧ True) → Ok 241 31 85 [.ref 93, .int (Int32.ofInt (x0)), .int (Int32.ofInt (x1)), .int (Int32.ofInt (x2)), .int (Int32.ofInt (x3)), .int (Int32.ofInt (x4)), .int (Int32.ofInt (x5)), .int (Int32.ofInt (x6 + 1))] [] τ Q)
    : Ok 241 31 89 [.ref 93, .int (Int32.ofInt (x0)), .int (Int32.ofInt (x1)), .int (Int32.ofInt (x2)), .int (Int32.ofInt (x3)), .int (Int32.ofInt (x4)), .int (Int32.ofInt (x5)), .int (Int32.ofInt (x6))] [] σ Q := by
  refine an_seg (B := pm_B) (F := []) (T := []) (S := []) (fun _ h => absurd h List.not_mem_nil) (k := 241) (d := 30) (cs := [85, 103]) 15 89 8 [(0, 0, 9999), (1, 0, 1023), (2, 0, 100000), (3, (-2147483648), 2147483647), (4, 0, 100000), (5, 0, 100000), (6, 0, 9), (7, 1, 10)] [(93, (1, 0, 2), (0, 7, 0))] [(2, 93, 0), (0, 0, 0), (0, 1, 0), (0, 2, 0), (0, 3, 0), (0, 4, 0), (0, 5, 0), (0, 6, 0)] [] [(103, [(2, 93, 0), (0, 0, 0), (0, 1, 0), (0, 2, 0), (0, 3, 0), (0, 4, 0), (0, 5, 0), (0, 6, 0)], [(0, 10, 0), (0, 6, 0), (2, 132, 0)], [(0, 0, 9999), (1, 0, 1023), (2, 0, 100000), (3, (-2147483648), 2147483647), (4, 0, 100000), (5, 0, 100000), (6, 0, 9), (7, 1, 10), (8, 0, 1023), (9, 1, 1), (10, 0, 9)], [(1, 10, 7, (-1)), (2, 10, 7, 0), (1, 9, 8, 0)], [(7, (0, 1, 0), (0, 6, 0), 8), (3, (0, 8, 0), (1, 0, 1), 9), (10, (0, 5, 0), (0, 7, 0), 10)], [(93, (1, 0, 2), (0, 7, 0))]),
    (85, [(2, 93, 0), (0, 0, 0), (0, 1, 0), (0, 2, 0), (0, 3, 0), (0, 4, 0), (0, 5, 0), (0, 6, 1)], [], [(0, 0, 9999), (1, 0, 1023), (2, 0, 100000), (3, (-2147483648), 2147483647), (4, 0, 100000), (5, 0, 100000), (6, 0, 9), (7, 1, 10), (8, 0, 1023), (9, 0, 0)], [(1, 9, 8, 0)], [(7, (0, 1, 0), (0, 6, 0), 8), (3, (0, 8, 0), (1, 0, 1), 9)], [(93, (1, 0, 2), (0, 7, 0))])] (by decide +kernel) (ρ0 := (fun s => [x0, x1, x2, x3, x4, x5, x6, x7].getD s 0)) hB eF eC ⟨rfl, ⟨rfl, ⟨rfl, ⟨rfl, ⟨rfl, ⟨rfl, ⟨rfl, ⟨rfl, trivial⟩⟩⟩⟩⟩⟩⟩⟩ trivial ?_
  refine List.forall_mem_cons.mpr ⟨?_, List.forall_mem_cons.mpr ⟨?_, fun _ h => absurd h List.not_mem_nil⟩⟩
  · intro ρ τ Lc stc hx g1 g2 g3 g4 g5 g6 g7 g8
    have e0 : ρ 0 = x0 := hx 0 (by decide)
    have e1 : ρ 1 = x1 := hx 1 (by decide)
    have e2 : ρ 2 = x2 := hx 2 (by decide)
    have e3 : ρ 3 = x3 := hx 3 (by decide)
    have e4 : ρ 4 = x4 := hx 4 (by decide)
    have e5 : ρ 5 = x5 := hx 5 (by decide)
    have e6 : ρ 6 = x6 := hx 6 (by decide)
    have e7 : ρ 7 = x7 := hx 7 (by decide)
    subst e0
    subst e1
    subst e2
    subst e3
    subst e4
    subst e5
    subst e6
    subst e7
    have g7 := g7 (by decide)
    match Lc, stc, g7, g8 with
    | [v0, v1, v2, v3, v4, v5, v6, v7], [w0, w1, w2], ⟨hv0, hv1, hv2, hv3, hv4, hv5, hv6, hv7, _⟩, ⟨hw0, hw1, hw2, _⟩ =>
      cases hv0
      cases hv1
      cases hv2
      cases hv3
      cases hv4
      cases hv5
      cases hv6
      cases hv7
      cases hw0
      cases hw1
      cases hw2
      exact l0 τ ρ  g1 g2 g3 g4 g5 g6
  · intro ρ τ Lc stc hx g1 g2 g3 g4 g5 g6 g7 g8
    have e0 : ρ 0 = x0 := hx 0 (by decide)
    have e1 : ρ 1 = x1 := hx 1 (by decide)
    have e2 : ρ 2 = x2 := hx 2 (by decide)
    have e3 : ρ 3 = x3 := hx 3 (by decide)
    have e4 : ρ 4 = x4 := hx 4 (by decide)
    have e5 : ρ 5 = x5 := hx 5 (by decide)
    have e6 : ρ 6 = x6 := hx 6 (by decide)
    have e7 : ρ 7 = x7 := hx 7 (by decide)
    subst e0
    subst e1
    subst e2
    subst e3
    subst e4
    subst e5
    subst e6
    subst e7
    have g7 := g7 (by decide)
    match Lc, stc, g7, g8 with
    | [v0, v1, v2, v3, v4, v5, v6, v7], [], ⟨hv0, hv1, hv2, hv3, hv4, hv5, hv6, hv7, _⟩, _ =>
      cases hv0
      cases hv1
      cases hv2
      cases hv3
      cases hv4
      cases hv5
      cases hv6
      cases hv7
      exact l1 τ ρ  g1 g2 g3 g4 g5 g6
set_option maxRecDepth 100000 in
theorem wzwp_104 {σ : pm_S} {Q : Option Value → pm_S → Prop} (x0 x1 x2 x3 x4 x5 x6 x7 : Int)  (hB : an_GB pm_B σ) (eF : (0 ≤ x0 ∧ x0 ≤ 9999) ∧ (0 ≤ x1 ∧ x1 ≤ 1023) ∧ (0 ≤ x2 ∧ x2 ≤ 100000) ∧ ((-2147483648) ≤ x3 ∧ x3 ≤ 2147483647) ∧ (0 ≤ x4 ∧ x4 ≤ 100000) ∧ (0 ≤ x5 ∧ x5 ≤ 100000) ∧ (0 ≤ x6 ∧ x6 ≤ 9) ∧ (1 ≤ x7 ∧ x7 ≤ 10) ∧ True) (eC : (σ.1 93 2).toInt = x7 ∧ True)
    (l0 : ∀ (τ : pm_S) (y : Nat → Int), an_GB pm_B τ → FQ [] σ τ → ((0 ≤ x0 ∧ x0 ≤ 9999) ∧ (0 ≤ x1 ∧ x1 ≤ 1023) ∧ (0 ≤ x2 ∧ x2 ≤ 100000) ∧ ((-2147483648) ≤ x3 ∧ x3 ≤ 2147483647) ∧ (0 ≤ x4 ∧ x4 ≤ 100000) ∧ (0 ≤ x5 ∧ x5 ≤ 100000) ∧ (0 ≤ x6 ∧ x6 ≤ 9) ∧ (1 ≤ x7 ∧ x7 ≤ 10) ∧ (0 ≤ y 8 ∧ y 8 ≤ 100000) ∧ True) → (True) → ((an_f 9 (Int32.ofInt (x5)) (Int32.ofInt (x7))).toInt = y 8 ∧ True) → ((τ.1 93 2).toInt = x7 ∧ True) → Ok 241 31 85 [.ref 93, .int (Int32.ofInt (x0)), .int (Int32.ofInt (x1)), .int (Int32.ofInt (x2)), .int (Int32.ofInt (x3)), .int (Int32.ofInt (x4)), .int (Int32.ofInt (y 8)), .int (Int32.ofInt (x6 + 1))] [] τ Q)
    : Ok 241 31 104 [.ref 93, .int (Int32.ofInt (x0)), .int (Int32.ofInt (x1)), .int (Int32.ofInt (x2)), .int (Int32.ofInt (x3)), .int (Int32.ofInt (x4)), .int (Int32.ofInt (x5)), .int (Int32.ofInt (x6))] [] σ Q := by
  refine an_seg (B := pm_B) (F := []) (T := []) (S := []) (fun _ h => absurd h List.not_mem_nil) (k := 241) (d := 30) (cs := [85]) 9 104 8 [(0, 0, 9999), (1, 0, 1023), (2, 0, 100000), (3, (-2147483648), 2147483647), (4, 0, 100000), (5, 0, 100000), (6, 0, 9), (7, 1, 10)] [(93, (1, 0, 2), (0, 7, 0))] [(2, 93, 0), (0, 0, 0), (0, 1, 0), (0, 2, 0), (0, 3, 0), (0, 4, 0), (0, 5, 0), (0, 6, 0)] [] [(85, [(2, 93, 0), (0, 0, 0), (0, 1, 0), (0, 2, 0), (0, 3, 0), (0, 4, 0), (0, 8, 0), (0, 6, 1)], [], [(0, 0, 9999), (1, 0, 1023), (2, 0, 100000), (3, (-2147483648), 2147483647), (4, 0, 100000), (5, 0, 100000), (6, 0, 9), (7, 1, 10), (8, 0, 100000)], [], [(9, (0, 5, 0), (0, 7, 0), 8)], [(93, (1, 0, 2), (0, 7, 0))])] (by decide +kernel) (ρ0 := (fun s => [x0, x1, x2, x3, x4, x5, x6, x7].getD s 0)) hB eF eC ⟨rfl, ⟨rfl, ⟨rfl, ⟨rfl, ⟨rfl, ⟨rfl, ⟨rfl, ⟨rfl, trivial⟩⟩⟩⟩⟩⟩⟩⟩ trivial ?_
  refine List.forall_mem_cons.mpr ⟨?_, fun _ h => absurd h List.not_mem_nil⟩
  · intro ρ τ Lc stc hx g1 g2 g3 g4 g5 g6 g7 g8
    have e0 : ρ 0 = x0 := hx 0 (by decide)
    have e1 : ρ 1 = x1 := hx 1 (by decide)
    have e2 : ρ 2 = x2 := hx 2 (by decide)
    have e3 : ρ 3 = x3 := hx 3 (by decide)
    have e4 : ρ 4 = x4 := hx 4 (by decide)
    have e5 : ρ 5 = x5 := hx 5 (by decide)
    have e6 : ρ 6 = x6 := hx 6 (by decide)
    have e7 : ρ 7 = x7 := hx 7 (by decide)
    subst e0
    subst e1
    subst e2
    subst e3
    subst e4
    subst e5
    subst e6
    subst e7
    have g7 := g7 (by decide)
    match Lc, stc, g7, g8 with
    | [v0, v1, v2, v3, v4, v5, v6, v7], [], ⟨hv0, hv1, hv2, hv3, hv4, hv5, hv6, hv7, _⟩, _ =>
      cases hv0
      cases hv1
      cases hv2
      cases hv3
      cases hv4
      cases hv5
      cases hv6
      cases hv7
      exact l0 τ ρ  g1 g2 g3 g4 g5 g6
set_option maxRecDepth 100000 in
theorem wzwp_111 {σ : pm_S} {Q : Option Value → pm_S → Prop} (x0 x1 x2 x3 x4 x5 x6 : Int)  (hB : an_GB pm_B σ) (eF : (0 ≤ x0 ∧ x0 ≤ 9999) ∧ (0 ≤ x1 ∧ x1 ≤ 1023) ∧ (0 ≤ x2 ∧ x2 ≤ 100000) ∧ ((-2147483648) ≤ x3 ∧ x3 ≤ 2147483647) ∧ (0 ≤ x4 ∧ x4 ≤ 100000) ∧ (0 ≤ x5 ∧ x5 ≤ 100000) ∧ (0 ≤ x6 ∧ x6 ≤ 10) ∧ True)
    (l0 : ∀ (τ : pm_S) (y : Nat → Int), an_GB pm_B τ → FQ [] σ τ → ((0 ≤ x0 ∧ x0 ≤ 9999) ∧ (0 ≤ x1 ∧ x1 ≤ 1023) ∧ (0 ≤ x2 ∧ x2 ≤ 100000) ∧ ((-2147483648) ≤ x3 ∧ x3 ≤ 2147483647) ∧ (0 ≤ x4 ∧ x4 ≤ 100000) ∧ (0 ≤ x5 ∧ x5 ≤ 100000) ∧ (0 ≤ x6 ∧ x6 ≤ 10) ∧ True) → (True) → (True) → (True) → Ok 241 31 113 [.ref 93, .int (Int32.ofInt (x0)), .int (Int32.ofInt (x1)), .int (Int32.ofInt (x2)), .int (Int32.ofInt (x3)), .int (Int32.ofInt (x4)), .int (Int32.ofInt (x5)), .int (Int32.ofInt (x6))] [.int (Int32.ofInt (x0)), .ref 93] τ Q)
    : Ok 241 31 111 [.ref 93, .int (Int32.ofInt (x0)), .int (Int32.ofInt (x1)), .int (Int32.ofInt (x2)), .int (Int32.ofInt (x3)), .int (Int32.ofInt (x4)), .int (Int32.ofInt (x5)), .int (Int32.ofInt (x6))] [] σ Q := by
  refine an_seg (B := pm_B) (F := []) (T := []) (S := []) (fun _ h => absurd h List.not_mem_nil) (k := 241) (d := 30) (cs := [113]) 4 111 7 [(0, 0, 9999), (1, 0, 1023), (2, 0, 100000), (3, (-2147483648), 2147483647), (4, 0, 100000), (5, 0, 100000), (6, 0, 10)] [] [(2, 93, 0), (0, 0, 0), (0, 1, 0), (0, 2, 0), (0, 3, 0), (0, 4, 0), (0, 5, 0), (0, 6, 0)] [] [(113, [(2, 93, 0), (0, 0, 0), (0, 1, 0), (0, 2, 0), (0, 3, 0), (0, 4, 0), (0, 5, 0), (0, 6, 0)], [(0, 0, 0), (2, 93, 0)], [(0, 0, 9999), (1, 0, 1023), (2, 0, 100000), (3, (-2147483648), 2147483647), (4, 0, 100000), (5, 0, 100000), (6, 0, 10)], [], [], [])] (by decide +kernel) (ρ0 := (fun s => [x0, x1, x2, x3, x4, x5, x6].getD s 0)) hB eF trivial ⟨rfl, ⟨rfl, ⟨rfl, ⟨rfl, ⟨rfl, ⟨rfl, ⟨rfl, ⟨rfl, trivial⟩⟩⟩⟩⟩⟩⟩⟩ trivial ?_
  refine List.forall_mem_cons.mpr ⟨?_, fun _ h => absurd h List.not_mem_nil⟩
  · intro ρ τ Lc stc hx g1 g2 g3 g4 g5 g6 g7 g8
    have e0 : ρ 0 = x0 := hx 0 (by decide)
    have e1 : ρ 1 = x1 := hx 1 (by decide)
    have e2 : ρ 2 = x2 := hx 2 (by decide)
    have e3 : ρ 3 = x3 := hx 3 (by decide)
    have e4 : ρ 4 = x4 := hx 4 (by decide)
    have e5 : ρ 5 = x5 := hx 5 (by decide)
    have e6 : ρ 6 = x6 := hx 6 (by decide)
    subst e0
    subst e1
    subst e2
    subst e3
    subst e4
    subst e5
    subst e6
    have g7 := g7 (by decide)
    match Lc, stc, g7, g8 with
    | [v0, v1, v2, v3, v4, v5, v6, v7], [w0, w1], ⟨hv0, hv1, hv2, hv3, hv4, hv5, hv6, hv7, _⟩, ⟨hw0, hw1, _⟩ =>
      cases hv0
      cases hv1
      cases hv2
      cases hv3
      cases hv4
      cases hv5
      cases hv6
      cases hv7
      cases hw0
      cases hw1
      exact l0 τ ρ  g1 g2 g3 g4 g5 g6
set_option maxRecDepth 100000 in
theorem wzwp_114 {σ : pm_S} {Q : Option Value → pm_S → Prop} (x0 x1 x2 x3 x4 x5 x6 : Int) (v7 : Value) (hv7 : v7.category = 1) (hB : an_GB pm_B σ) (eF : (0 ≤ x0 ∧ x0 ≤ 9999) ∧ (0 ≤ x1 ∧ x1 ≤ 1023) ∧ (0 ≤ x2 ∧ x2 ≤ 100000) ∧ ((-2147483648) ≤ x3 ∧ x3 ≤ 2147483647) ∧ (0 ≤ x4 ∧ x4 ≤ 100000) ∧ (0 ≤ x5 ∧ x5 ≤ 100000) ∧ (0 ≤ x6 ∧ x6 ≤ 30) ∧ True)
    (l0 : ∀ (τ : pm_S) (y : Nat → Int), an_GB pm_B τ → FQ [] σ τ → ((0 ≤ x0 ∧ x0 ≤ 9999) ∧ (0 ≤ x1 ∧ x1 ≤ 1023) ∧ (0 ≤ x2 ∧ x2 ≤ 100000) ∧ ((-2147483648) ≤ x3 ∧ x3 ≤ 2147483647) ∧ (0 ≤ x4 ∧ x4 ≤ 100000) ∧ (0 ≤ x5 ∧ x5 ≤ 100000) ∧ (0 ≤ x6 ∧ x6 ≤ 30) ∧ True) → (True) → (True) → (True) → Ok 241 31 117 [.ref 93, .int (Int32.ofInt (x0)), .int (Int32.ofInt (x1)), .int (Int32.ofInt (x2)), .int (Int32.ofInt (x3)), .int (Int32.ofInt (x4)), .int (Int32.ofInt (x5)), .int (Int32.ofInt (x6))] [.int (Int32.ofInt (x3)), .int (Int32.ofInt (x6))] τ Q)
    : Ok 241 31 114 [.ref 93, .int (Int32.ofInt (x0)), .int (Int32.ofInt (x1)), .int (Int32.ofInt (x2)), .int (Int32.ofInt (x3)), .int (Int32.ofInt (x4)), .int (Int32.ofInt (x5)), v7] [.int (Int32.ofInt (x6))] σ Q := by
  refine an_seg (B := pm_B) (F := []) (T := []) (S := []) (fun _ h => absurd h List.not_mem_nil) (k := 241) (d := 30) (cs := [117]) 5 114 7 [(0, 0, 9999), (1, 0, 1023), (2, 0, 100000), (3, (-2147483648), 2147483647), (4, 0, 100000), (5, 0, 100000), (6, 0, 30)] [] [(2, 93, 0), (0, 0, 0), (0, 1, 0), (0, 2, 0), (0, 3, 0), (0, 4, 0), (0, 5, 0), (5, 0, 0)] [(0, 6, 0)] [(117, [(2, 93, 0), (0, 0, 0), (0, 1, 0), (0, 2, 0), (0, 3, 0), (0, 4, 0), (0, 5, 0), (0, 6, 0)], [(0, 3, 0), (0, 6, 0)], [(0, 0, 9999), (1, 0, 1023), (2, 0, 100000), (3, (-2147483648), 2147483647), (4, 0, 100000), (5, 0, 100000), (6, 0, 30)], [], [], [])] (by decide +kernel) (ρ0 := (fun s => [x0, x1, x2, x3, x4, x5, x6].getD s 0)) hB eF trivial ⟨rfl, ⟨rfl, ⟨rfl, ⟨rfl, ⟨rfl, ⟨rfl, ⟨rfl, ⟨hv7, trivial⟩⟩⟩⟩⟩⟩⟩⟩ ⟨rfl, trivial⟩ ?_
  refine List.forall_mem_cons.mpr ⟨?_, fun _ h => absurd h List.not_mem_nil⟩
  · intro ρ τ Lc stc hx g1 g2 g3 g4 g5 g6 g7 g8
    have e0 : ρ 0 = x0 := hx 0 (by decide)
    have e1 : ρ 1 = x1 := hx 1 (by decide)
    have e2 : ρ 2 = x2 := hx 2 (by decide)
    have e3 : ρ 3 = x3 := hx 3 (by decide)
    have e4 : ρ 4 = x4 := hx 4 (by decide)
    have e5 : ρ 5 = x5 := hx 5 (by decide)
    have e6 : ρ 6 = x6 := hx 6 (by decide)
    subst e0
    subst e1
    subst e2
    subst e3
    subst e4
    subst e5
    subst e6
    have g7 := g7 (by decide)
    match Lc, stc, g7, g8 with
    | [v0, v1, v2, v3, v4, v5, v6, v7], [w0, w1], ⟨hv0, hv1, hv2, hv3, hv4, hv5, hv6, hv7, _⟩, ⟨hw0, hw1, _⟩ =>
      cases hv0
      cases hv1
      cases hv2
      cases hv3
      cases hv4
      cases hv5
      cases hv6
      cases hv7
      cases hw0
      cases hw1
      exact l0 τ ρ  g1 g2 g3 g4 g5 g6
set_option maxRecDepth 100000 in
theorem wzwp_118 {σ : pm_S} {Q : Option Value → pm_S → Prop} (x0 x1 x2 x3 x4 x5 x6 : Int)  (hB : an_GB pm_B σ) (eF : (0 ≤ x0 ∧ x0 ≤ 9999) ∧ (0 ≤ x1 ∧ x1 ≤ 1023) ∧ (0 ≤ x2 ∧ x2 ≤ 100000) ∧ ((-2147483648) ≤ x3 ∧ x3 ≤ 2147483647) ∧ (0 ≤ x4 ∧ x4 ≤ 100000) ∧ (0 ≤ x5 ∧ x5 ≤ 100000) ∧ (0 ≤ x6 ∧ x6 ≤ 30) ∧ True)
    (l0 : ∀ (τ : pm_S) (y : Nat → Int), an_GB pm_B τ → FQ [] σ τ → ((0 ≤ x0 ∧ x0 ≤ 9999) ∧ (0 ≤ x1 ∧ x1 ≤ 1023) ∧ (0 ≤ x2 ∧ x2 ≤ 100000) ∧ ((-2147483648) ≤ x3 ∧ x3 ≤ 2147483647) ∧ (0 ≤ x4 ∧ x4 ≤ 100000) ∧ (0 ≤ x5 ∧ x5 ≤ 100000) ∧ (0 ≤ x6 ∧ x6 ≤ 30) ∧ True) → (True) → (True) → (True) → Ok 241 31 78 [.ref 93, .int (Int32.ofInt (x0)), .int (Int32.ofInt (x1)), .int (Int32.ofInt (x2)), .int (Int32.ofInt (x6)), .int (Int32.ofInt (x4 + 1)), .int (Int32.ofInt (x5)), .int (Int32.ofInt (x6))] [] τ Q)
    : Ok 241 31 118 [.ref 93, .int (Int32.ofInt (x0)), .int (Int32.ofInt (x1)), .int (Int32.ofInt (x2)), .int (Int32.ofInt (x3)), .int (Int32.ofInt (x4)), .int (Int32.ofInt (x5)), .int (Int32.ofInt (x6))] [] σ Q := by
  refine an_seg (B := pm_B) (F := []) (T := []) (S := []) (fun _ h => absurd h List.not_mem_nil) (k := 241) (d := 30) (cs := [78]) 7 118 7 [(0, 0, 9999), (1, 0, 1023), (2, 0, 100000), (3, (-2147483648), 2147483647), (4, 0, 100000), (5, 0, 100000), (6, 0, 30)] [] [(2, 93, 0), (0, 0, 0), (0, 1, 0), (0, 2, 0), (0, 3, 0), (0, 4, 0), (0, 5, 0), (0, 6, 0)] [] [(78, [(2, 93, 0), (0, 0, 0), (0, 1, 0), (0, 2, 0), (0, 6, 0), (0, 4, 1), (0, 5, 0), (0, 6, 0)], [], [(0, 0, 9999), (1, 0, 1023), (2, 0, 100000), (3, (-2147483648), 2147483647), (4, 0, 100000), (5, 0, 100000), (6, 0, 30)], [], [], [])] (by decide +kernel) (ρ0 := (fun s => [x0, x1, x2, x3, x4, x5, x6].getD s 0)) hB eF trivial ⟨rfl, ⟨rfl, ⟨rfl, ⟨rfl, ⟨rfl, ⟨rfl, ⟨rfl, ⟨rfl, trivial⟩⟩⟩⟩⟩⟩⟩⟩ trivial ?_
  refine List.forall_mem_cons.mpr ⟨?_, fun _ h => absurd h List.not_mem_nil⟩
  · intro ρ τ Lc stc hx g1 g2 g3 g4 g5 g6 g7 g8
    have e0 : ρ 0 = x0 := hx 0 (by decide)
    have e1 : ρ 1 = x1 := hx 1 (by decide)
    have e2 : ρ 2 = x2 := hx 2 (by decide)
    have e3 : ρ 3 = x3 := hx 3 (by decide)
    have e4 : ρ 4 = x4 := hx 4 (by decide)
    have e5 : ρ 5 = x5 := hx 5 (by decide)
    have e6 : ρ 6 = x6 := hx 6 (by decide)
    subst e0
    subst e1
    subst e2
    subst e3
    subst e4
    subst e5
    subst e6
    have g7 := g7 (by decide)
    match Lc, stc, g7, g8 with
    | [v0, v1, v2, v3, v4, v5, v6, v7], [], ⟨hv0, hv1, hv2, hv3, hv4, hv5, hv6, hv7, _⟩, _ =>
      cases hv0
      cases hv1
      cases hv2
      cases hv3
      cases hv4
      cases hv5
      cases hv6
      cases hv7
      exact l0 τ ρ  g1 g2 g3 g4 g5 g6
set_option maxRecDepth 100000 in
theorem wzwp_120 {σ : pm_S} {Q : Option Value → pm_S → Prop} (x0 x1 x2 x3 x4 x5 x6 : Int)  (hB : an_GB pm_B σ) (eF : (0 ≤ x0 ∧ x0 ≤ 9999) ∧ (0 ≤ x1 ∧ x1 ≤ 1023) ∧ (0 ≤ x2 ∧ x2 ≤ 100000) ∧ ((-2147483648) ≤ x3 ∧ x3 ≤ 2147483647) ∧ (0 ≤ x4 ∧ x4 ≤ 100000) ∧ (0 ≤ x5 ∧ x5 ≤ 100000) ∧ (0 ≤ x6 ∧ x6 ≤ 30) ∧ True)
    (l0 : ∀ (τ : pm_S) (y : Nat → Int), an_GB pm_B τ → FQ [] σ τ → ((0 ≤ x0 ∧ x0 ≤ 9999) ∧ (0 ≤ x1 ∧ x1 ≤ 1023) ∧ (0 ≤ x2 ∧ x2 ≤ 100000) ∧ ((-2147483648) ≤ x3 ∧ x3 ≤ 2147483647) ∧ (0 ≤ x4 ∧ x4 ≤ 100000) ∧ (0 ≤ x5 ∧ x5 ≤ 100000) ∧ (0 ≤ x6 ∧ x6 ≤ 30) ∧ True) → (True) → (True) → (True) → Ok 241 31 78 [.ref 93, .int (Int32.ofInt (x0)), .int (Int32.ofInt (x1)), .int (Int32.ofInt (x2)), .int (Int32.ofInt (x3)), .int (Int32.ofInt (x4 + 1)), .int (Int32.ofInt (x5)), .int (Int32.ofInt (x6))] [] τ Q)
    : Ok 241 31 120 [.ref 93, .int (Int32.ofInt (x0)), .int (Int32.ofInt (x1)), .int (Int32.ofInt (x2)), .int (Int32.ofInt (x3)), .int (Int32.ofInt (x4)), .int (Int32.ofInt (x5)), .int (Int32.ofInt (x6))] [] σ Q := by
  refine an_seg (B := pm_B) (F := []) (T := []) (S := []) (fun _ h => absurd h List.not_mem_nil) (k := 241) (d := 30) (cs := [78]) 6 120 7 [(0, 0, 9999), (1, 0, 1023), (2, 0, 100000), (3, (-2147483648), 2147483647), (4, 0, 100000), (5, 0, 100000), (6, 0, 30)] [] [(2, 93, 0), (0, 0, 0), (0, 1, 0), (0, 2, 0), (0, 3, 0), (0, 4, 0), (0, 5, 0), (0, 6, 0)] [] [(78, [(2, 93, 0), (0, 0, 0), (0, 1, 0), (0, 2, 0), (0, 3, 0), (0, 4, 1), (0, 5, 0), (0, 6, 0)], [], [(0, 0, 9999), (1, 0, 1023), (2, 0, 100000), (3, (-2147483648), 2147483647), (4, 0, 100000), (5, 0, 100000), (6, 0, 30)], [], [], [])] (by decide +kernel) (ρ0 := (fun s => [x0, x1, x2, x3, x4, x5, x6].getD s 0)) hB eF trivial ⟨rfl, ⟨rfl, ⟨rfl, ⟨rfl, ⟨rfl, ⟨rfl, ⟨rfl, ⟨rfl, trivial⟩⟩⟩⟩⟩⟩⟩⟩ trivial ?_
  refine List.forall_mem_cons.mpr ⟨?_, fun _ h => absurd h List.not_mem_nil⟩
  · intro ρ τ Lc stc hx g1 g2 g3 g4 g5 g6 g7 g8
    have e0 : ρ 0 = x0 := hx 0 (by decide)
    have e1 : ρ 1 = x1 := hx 1 (by decide)
    have e2 : ρ 2 = x2 := hx 2 (by decide)
    have e3 : ρ 3 = x3 := hx 3 (by decide)
    have e4 : ρ 4 = x4 := hx 4 (by decide)
    have e5 : ρ 5 = x5 := hx 5 (by decide)
    have e6 : ρ 6 = x6 := hx 6 (by decide)
    subst e0
    subst e1
    subst e2
    subst e3
    subst e4
    subst e5
    subst e6
    have g7 := g7 (by decide)
    match Lc, stc, g7, g8 with
    | [v0, v1, v2, v3, v4, v5, v6, v7], [], ⟨hv0, hv1, hv2, hv3, hv4, hv5, hv6, hv7, _⟩, _ =>
      cases hv0
      cases hv1
      cases hv2
      cases hv3
      cases hv4
      cases hv5
      cases hv6
      cases hv7
      exact l0 τ ρ  g1 g2 g3 g4 g5 g6
set_option maxRecDepth 100000 in
theorem wzwp_124 {σ : pm_S} {Q : Option Value → pm_S → Prop} (x0 x1 x2 x3 x4 : Int) (v6 : Value) (v7 : Value) (hv6 : v6.category = 1) (hv7 : v7.category = 1) (hB : an_GB pm_B σ) (eF : (0 ≤ x0 ∧ x0 ≤ 9999) ∧ (0 ≤ x1 ∧ x1 ≤ 1023) ∧ (0 ≤ x2 ∧ x2 ≤ 100000) ∧ ((-2147483648) ≤ x3 ∧ x3 ≤ 2147483647) ∧ (0 ≤ x4 ∧ x4 ≤ 100000) ∧ True)
    (l0 : ∀ (τ : pm_S) (y : Nat → Int), an_GB pm_B τ → FQ [] σ τ → ((0 ≤ x0 ∧ x0 ≤ 9999) ∧ (0 ≤ x1 ∧ x1 ≤ 1023) ∧ (0 ≤ x2 ∧ x2 ≤ 100000) ∧ ((-2147483648) ≤ x3 ∧ x3 ≤ 2147483647) ∧ (0 ≤ x4 ∧ x4 ≤ 100000) ∧ True) → (True) → (True) → (True) → Q (some (.int (Int32.ofInt (x3)))) τ)
    : Ok 241 31 124 [.ref 93, .int (Int32.ofInt (x0)), .int (Int32.ofInt (x1)), .int (Int32.ofInt (x2)), .int (Int32.ofInt (x3)), .int (Int32.ofInt (x4)), v6, v7] [] σ Q := by
  refine an_seg (B := pm_B) (F := []) (T := []) (S := []) (fun _ h => absurd h List.not_mem_nil) (k := 241) (d := 30) (cs := []) 4 124 5 [(0, 0, 9999), (1, 0, 1023), (2, 0, 100000), (3, (-2147483648), 2147483647), (4, 0, 100000)] [] [(2, 93, 0), (0, 0, 0), (0, 1, 0), (0, 2, 0), (0, 3, 0), (0, 4, 0), (5, 0, 0), (5, 0, 0)] [] [(9999, [], [(0, 3, 0)], [(0, 0, 9999), (1, 0, 1023), (2, 0, 100000), (3, (-2147483648), 2147483647), (4, 0, 100000)], [], [], [])] (by decide +kernel) (ρ0 := (fun s => [x0, x1, x2, x3, x4].getD s 0)) hB eF trivial ⟨rfl, ⟨rfl, ⟨rfl, ⟨rfl, ⟨rfl, ⟨rfl, ⟨hv6, ⟨hv7, trivial⟩⟩⟩⟩⟩⟩⟩⟩ trivial ?_
  refine List.forall_mem_cons.mpr ⟨?_, fun _ h => absurd h List.not_mem_nil⟩
  · intro ρ τ Lc stc hx g1 g2 g3 g4 g5 g6 g7 g8
    have e0 : ρ 0 = x0 := hx 0 (by decide)
    have e1 : ρ 1 = x1 := hx 1 (by decide)
    have e2 : ρ 2 = x2 := hx 2 (by decide)
    have e3 : ρ 3 = x3 := hx 3 (by decide)
    have e4 : ρ 4 = x4 := hx 4 (by decide)
    subst e0
    subst e1
    subst e2
    subst e3
    subst e4
    match stc, g8 with
    | [_], ⟨h, _⟩ => cases h; exact l0 τ ρ g1 g2 g3 g4 g5 g6
