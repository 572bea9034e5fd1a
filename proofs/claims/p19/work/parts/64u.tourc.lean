/-! the class's tour: pieces, and its loops -/
set_option maxRecDepth 100000 in
theorem su_mb0 {σ : pm_S} {Q : Option Value → pm_S → Prop} (x0 x1 : Int)  (hB : an_GB pm_B σ) (eF : (0 ≤ x0 ∧ x0 ≤ 9) ∧ (0 ≤ x1 ∧ x1 ≤ 9) ∧ True)
    (l0 : ∀ (τ : pm_S) (y : Nat → Int), an_GB pm_B τ → FQ [] σ τ → ((0 ≤ x0 ∧ x0 ≤ 9) ∧ (0 ≤ x1 ∧ x1 ≤ 9) ∧ True) → (True) → (True) → (True) → Ok 85 9 2 [.ref 3, .int (Int32.ofInt (x0)), .int (Int32.ofInt (x1))] [.int (Int32.ofInt (x0)), .ref 3] τ Q)
    : Ok 85 9 0 [.ref 3, .int (Int32.ofInt (x0)), .int (Int32.ofInt (x1))] [] σ Q := by
  refine an_seg (B := pm_B) (F := []) (T := []) (S := []) (fun _ h => absurd h List.not_mem_nil) (k := 85) (d := 8) (cs := [2]) 4 0 2 [(0, 0, 9), (1, 0, 9)] [] [(2, 3, 0), (0, 0, 0), (0, 1, 0)] [] [(2, [(2, 3, 0), (0, 0, 0), (0, 1, 0)], [(0, 0, 0), (2, 3, 0)], [(0, 0, 9), (1, 0, 9)], [], [], [])] (by decide +kernel) (ρ0 := (fun s => [x0, x1].getD s 0)) hB eF trivial ⟨rfl, ⟨rfl, ⟨rfl, trivial⟩⟩⟩ trivial ?_
  refine List.forall_mem_cons.mpr ⟨?_, fun _ h => absurd h List.not_mem_nil⟩
  · intro ρ τ Lc stc hx g1 g2 g3 g4 g5 g6 g7 g8
    have e0 : ρ 0 = x0 := hx 0 (by decide)
    have e1 : ρ 1 = x1 := hx 1 (by decide)
    subst e0
    subst e1
    have g7 := g7 (by decide)
    match Lc, stc, g7, g8 with
    | [v0, v1, v2], [w0, w1], ⟨hv0, hv1, hv2, _⟩, ⟨hw0, hw1, _⟩ =>
      cases hv0
      cases hv1
      cases hv2
      cases hw0
      cases hw1
      exact l0 τ ρ  g1 g2 g3 g4 g5 g6
set_option maxRecDepth 100000 in
theorem su_mb3 {σ : pm_S} {Q : Option Value → pm_S → Prop} (x0 x1 : Int)  (hB : an_GB pm_B σ) (eF : (0 ≤ x0 ∧ x0 ≤ 9) ∧ (0 ≤ x1 ∧ x1 ≤ 9) ∧ True)
    (l0 : ∀ (τ : pm_S) (y : Nat → Int), an_GB pm_B τ → FQ [] σ τ → ((0 ≤ x0 ∧ x0 ≤ 9) ∧ (0 ≤ x1 ∧ x1 ≤ 9) ∧ True) → (True) → (True) → (True) → Ok 85 9 6 [.ref 3, .int (Int32.ofInt (x0)), .int (Int32.ofInt (x1))] [.int (Int32.ofInt (x1)), .ref 3] τ Q)
    : Ok 85 9 3 [.ref 3, .int (Int32.ofInt (x0)), .int (Int32.ofInt (x1))] [.int (Int32.ofInt 1)] σ Q := by
  refine an_seg (B := pm_B) (F := []) (T := []) (S := []) (fun _ h => absurd h List.not_mem_nil) (k := 85) (d := 8) (cs := [6]) 5 3 2 [(0, 0, 9), (1, 0, 9)] [] [(2, 3, 0), (0, 0, 0), (0, 1, 0)] [(1, 0, 1)] [(6, [(2, 3, 0), (0, 0, 0), (0, 1, 0)], [(0, 1, 0), (2, 3, 0)], [(0, 0, 9), (1, 0, 9)], [], [], [])] (by decide +kernel) (ρ0 := (fun s => [x0, x1].getD s 0)) hB eF trivial ⟨rfl, ⟨rfl, ⟨rfl, trivial⟩⟩⟩ ⟨rfl, trivial⟩ ?_
  refine List.forall_mem_cons.mpr ⟨?_, fun _ h => absurd h List.not_mem_nil⟩
  · intro ρ τ Lc stc hx g1 g2 g3 g4 g5 g6 g7 g8
    have e0 : ρ 0 = x0 := hx 0 (by decide)
    have e1 : ρ 1 = x1 := hx 1 (by decide)
    subst e0
    subst e1
    have g7 := g7 (by decide)
    match Lc, stc, g7, g8 with
    | [v0, v1, v2], [w0, w1], ⟨hv0, hv1, hv2, _⟩, ⟨hw0, hw1, _⟩ =>
      cases hv0
      cases hv1
      cases hv2
      cases hw0
      cases hw1
      exact l0 τ ρ  g1 g2 g3 g4 g5 g6
set_option maxRecDepth 100000 in
theorem su_mb7 {σ : pm_S} {Q : Option Value → pm_S → Prop} (x0 x1 : Int)  (hB : an_GB pm_B σ) (eF : (0 ≤ x0 ∧ x0 ≤ 9) ∧ (0 ≤ x1 ∧ x1 ≤ 9) ∧ True)
    (l0 : ∀ (τ : pm_S) (y : Nat → Int), an_GB pm_B τ → FQ [] σ τ → ((0 ≤ x0 ∧ x0 ≤ 9) ∧ (0 ≤ x1 ∧ x1 ≤ 9) ∧ (0 ≤ y 2 ∧ y 2 ≤ 90) ∧ (0 ≤ y 3 ∧ y 3 ≤ 99) ∧ (0 ≤ y 4 ∧ y 4 ≤ 99) ∧ True) → (True) → ((an_f 2 (Int32.ofInt (x0)) (Int32.ofInt (10))).toInt = y 2 ∧ (an_f 0 (Int32.ofInt (y 2)) (Int32.ofInt (x1))).toInt = y 3 ∧ True) → ((τ.1 5 (y 3).toNat).toInt = y 4 ∧ True) → Q (some (.int (Int32.ofInt (y 4)))) τ)
    : Ok 85 9 7 [.ref 3, .int (Int32.ofInt (x0)), .int (Int32.ofInt (x1))] [.int (Int32.ofInt 1)] σ Q := by
  refine an_seg (B := pm_B) (F := []) (T := [5]) (S := []) (fun _ h => absurd h List.not_mem_nil) (k := 85) (d := 8) (cs := []) 13 7 2 [(0, 0, 9), (1, 0, 9)] [] [(2, 3, 0), (0, 0, 0), (0, 1, 0)] [(1, 0, 1)] [(9999, [], [(0, 4, 0)], [(0, 0, 9), (1, 0, 9), (2, 0, 90), (3, 0, 99), (4, 0, 99)], [], [(2, (0, 0, 0), (1, 0, 10), 2), (0, (0, 2, 0), (0, 1, 0), 3)], [(5, (0, 3, 0), (0, 4, 0))])] (by decide +kernel) (ρ0 := (fun s => [x0, x1].getD s 0)) hB eF trivial ⟨rfl, ⟨rfl, ⟨rfl, trivial⟩⟩⟩ ⟨rfl, trivial⟩ ?_
  refine List.forall_mem_cons.mpr ⟨?_, fun _ h => absurd h List.not_mem_nil⟩
  · intro ρ τ Lc stc hx g1 g2 g3 g4 g5 g6 g7 g8
    have e0 : ρ 0 = x0 := hx 0 (by decide)
    have e1 : ρ 1 = x1 := hx 1 (by decide)
    subst e0
    subst e1
    match stc, g8 with
    | [_], ⟨h, _⟩ => cases h; exact l0 τ ρ g1 g2 g3 g4 g5 g6
set_option maxRecDepth 100000 in
theorem su_p0 {σ : pm_S} {Q : Option Value → pm_S → Prop} (x0 x1 : Int) (v3 : Value) (v4 : Value) (hv3 : v3.category = 1) (hv4 : v4.category = 1) (hB : an_GB pm_B σ) (eF : (0 ≤ x0 ∧ x0 ≤ 9) ∧ (0 ≤ x1 ∧ x1 ≤ 1023) ∧ True)
    (l0 : ∀ (τ : pm_S) (y : Nat → Int) (v4 : Value), v4.category = 1 → an_GB pm_B τ → FQ [(85, 1)] σ τ → ((0 ≤ x0 ∧ x0 ≤ 9) ∧ (0 ≤ x1 ∧ x1 ≤ 1023) ∧ True) → (True) → (True) → ((τ.1 85 1).toInt = 0 ∧ True) → Ok 105 21 5 [.ref 85, .int (Int32.ofInt (x0)), .int (Int32.ofInt (x1)), .int (Int32.ofInt 0), v4] [] τ Q)
    : Ok 105 21 0 [.ref 85, .int (Int32.ofInt (x0)), .int (Int32.ofInt (x1)), v3, v4] [] σ Q := by
  refine an_seg (B := pm_B) (F := [(85, 1)]) (T := []) (S := []) (fun _ h => absurd h List.not_mem_nil) (k := 105) (d := 20) (cs := [5]) 7 0 2 [(0, 0, 9), (1, 0, 1023)] [] [(2, 85, 0), (0, 0, 0), (0, 1, 0), (5, 0, 0), (5, 0, 0)] [] [(5, [(2, 85, 0), (0, 0, 0), (0, 1, 0), (1, 0, 0), (5, 0, 0)], [], [(0, 0, 9), (1, 0, 1023)], [], [], [(85, (1, 0, 1), (1, 0, 0))])] (by decide +kernel) (ρ0 := (fun s => [x0, x1].getD s 0)) hB eF trivial ⟨rfl, ⟨rfl, ⟨rfl, ⟨hv3, ⟨hv4, trivial⟩⟩⟩⟩⟩ trivial ?_
  refine List.forall_mem_cons.mpr ⟨?_, fun _ h => absurd h List.not_mem_nil⟩
  · intro ρ τ Lc stc hx g1 g2 g3 g4 g5 g6 g7 g8
    have e0 : ρ 0 = x0 := hx 0 (by decide)
    have e1 : ρ 1 = x1 := hx 1 (by decide)
    subst e0
    subst e1
    have g7 := g7 (by decide)
    match Lc, stc, g7, g8 with
    | [v0, v1, v2, v3, v4], [], ⟨hv0, hv1, hv2, hv3, hv4, _⟩, _ =>
      cases hv0
      cases hv1
      cases hv2
      cases hv3
      exact l0 τ ρ v4 hv4 g1 g2 g3 g4 g5 g6
set_option maxRecDepth 100000 in
theorem su_p5 {σ : pm_S} {Q : Option Value → pm_S → Prop} (x0 x1 x2 x3 x4 : Int) (v4 : Value) (hv4 : v4.category = 1) (hB : an_GB pm_B σ) (eF : (0 ≤ x0 ∧ x0 ≤ 9) ∧ (0 ≤ x1 ∧ x1 ≤ 1023) ∧ (0 ≤ x2 ∧ x2 ≤ 10) ∧ (0 ≤ x3 ∧ x3 ≤ 9) ∧ (0 ≤ x4 ∧ x4 ≤ 10) ∧ True) (eC : (σ.1 85 1).toInt = x3 ∧ (σ.1 3 0).toInt = x4 ∧ True)
    (l0 : ∀ (τ : pm_S) (y : Nat → Int) (v4 : Value), v4.category = 1 → an_GB pm_B τ → FQ [] σ τ → ((0 ≤ x0 ∧ x0 ≤ 9) ∧ (0 ≤ x1 ∧ x1 ≤ 1023) ∧ (0 ≤ x2 ∧ x2 ≤ 10) ∧ (0 ≤ x3 ∧ x3 ≤ 9) ∧ (0 ≤ x4 ∧ x4 ≤ 10) ∧ True) → (True) → (True) → ((τ.1 3 0).toInt = x4 ∧ (τ.1 85 1).toInt = x3 ∧ True) → Ok 105 21 10 [.ref 85, .int (Int32.ofInt (x0)), .int (Int32.ofInt (x1)), .int (Int32.ofInt (x2)), v4] [.int (Int32.ofInt (x4)), .int (Int32.ofInt (x2))] τ Q)
    : Ok 105 21 5 [.ref 85, .int (Int32.ofInt (x0)), .int (Int32.ofInt (x1)), .int (Int32.ofInt (x2)), v4] [] σ Q := by
  refine an_seg (B := pm_B) (F := []) (T := []) (S := []) (fun _ h => absurd h List.not_mem_nil) (k := 105) (d := 20) (cs := [10]) 7 5 5 [(0, 0, 9), (1, 0, 1023), (2, 0, 10), (3, 0, 9), (4, 0, 10)] [(85, (1, 0, 1), (0, 3, 0)), (3, (1, 0, 0), (0, 4, 0))] [(2, 85, 0), (0, 0, 0), (0, 1, 0), (0, 2, 0), (5, 0, 0)] [] [(10, [(2, 85, 0), (0, 0, 0), (0, 1, 0), (0, 2, 0), (5, 0, 0)], [(0, 4, 0), (0, 2, 0)], [(0, 0, 9), (1, 0, 1023), (2, 0, 10), (3, 0, 9), (4, 0, 10)], [], [], [(3, (1, 0, 0), (0, 4, 0)), (85, (1, 0, 1), (0, 3, 0))])] (by decide +kernel) (ρ0 := (fun s => [x0, x1, x2, x3, x4].getD s 0)) hB eF eC ⟨rfl, ⟨rfl, ⟨rfl, ⟨rfl, ⟨hv4, trivial⟩⟩⟩⟩⟩ trivial ?_
  refine List.forall_mem_cons.mpr ⟨?_, fun _ h => absurd h List.not_mem_nil⟩
  · intro ρ τ Lc stc hx g1 g2 g3 g4 g5 g6 g7 g8
    have e0 : ρ 0 = x0 := hx 0 (by decide)
    have e1 : ρ 1 = x1 := hx 1 (by decide)
    have e2 : ρ 2 = x2 := hx 2 (by decide)
    have e3 : ρ 3 = x3 := hx 3 (by decide)
    have e4 : ρ 4 = x4 := hx 4 (by decide)
    subst e0
    subst e1
    subst e2
    subst e3
    subst e4
    have g7 := g7 (by decide)
    match Lc, stc, g7, g8 with
    | [v0, v1, v2, v3, v4], [w0, w1], ⟨hv0, hv1, hv2, hv3, hv4, _⟩, ⟨hw0, hw1, _⟩ =>
      cases hv0
      cases hv1
      cases hv2
      cases hv3
      cases hw0
      cases hw1
      exact l0 τ ρ v4 hv4 g1 g2 g3 g4 g5 g6
set_option maxRecDepth 100000 in
theorem su_p11 {σ : pm_S} {Q : Option Value → pm_S → Prop} (x0 x1 x2 x3 : Int) (v4 : Value) (hv4 : v4.category = 1) (hB : an_GB pm_B σ) (eF : (0 ≤ x0 ∧ x0 ≤ 9) ∧ (0 ≤ x1 ∧ x1 ≤ 1023) ∧ (0 ≤ x2 ∧ x2 ≤ 9) ∧ (0 ≤ x3 ∧ x3 ≤ 9) ∧ True) (eC : (σ.1 85 1).toInt = x3 ∧ True)
    (l0 : ∀ (τ : pm_S) (y : Nat → Int) (v4 : Value), v4.category = 1 → an_GB pm_B τ → FQ [] σ τ → ((0 ≤ x0 ∧ x0 ≤ 9) ∧ (0 ≤ x1 ∧ x1 ≤ 1023) ∧ (0 ≤ x2 ∧ x2 ≤ 9) ∧ (0 ≤ x3 ∧ x3 ≤ 9) ∧ True) → (True) → (True) → ((τ.1 85 1).toInt = x3 ∧ True) → Ok 105 21 13 [.ref 85, .int (Int32.ofInt (x0)), .int (Int32.ofInt (x1)), .int (Int32.ofInt (x2)), v4] [.int (Int32.ofInt (x0)), .int (Int32.ofInt (x2))] τ Q)
    : Ok 105 21 11 [.ref 85, .int (Int32.ofInt (x0)), .int (Int32.ofInt (x1)), .int (Int32.ofInt (x2)), v4] [] σ Q := by
  refine an_seg (B := pm_B) (F := []) (T := []) (S := []) (fun _ h => absurd h List.not_mem_nil) (k := 105) (d := 20) (cs := [13]) 4 11 4 [(0, 0, 9), (1, 0, 1023), (2, 0, 9), (3, 0, 9)] [(85, (1, 0, 1), (0, 3, 0))] [(2, 85, 0), (0, 0, 0), (0, 1, 0), (0, 2, 0), (5, 0, 0)] [] [(13, [(2, 85, 0), (0, 0, 0), (0, 1, 0), (0, 2, 0), (5, 0, 0)], [(0, 0, 0), (0, 2, 0)], [(0, 0, 9), (1, 0, 1023), (2, 0, 9), (3, 0, 9)], [], [], [(85, (1, 0, 1), (0, 3, 0))])] (by decide +kernel) (ρ0 := (fun s => [x0, x1, x2, x3].getD s 0)) hB eF eC ⟨rfl, ⟨rfl, ⟨rfl, ⟨rfl, ⟨hv4, trivial⟩⟩⟩⟩⟩ trivial ?_
  refine List.forall_mem_cons.mpr ⟨?_, fun _ h => absurd h List.not_mem_nil⟩
  · intro ρ τ Lc stc hx g1 g2 g3 g4 g5 g6 g7 g8
    have e0 : ρ 0 = x0 := hx 0 (by decide)
    have e1 : ρ 1 = x1 := hx 1 (by decide)
    have e2 : ρ 2 = x2 := hx 2 (by decide)
    have e3 : ρ 3 = x3 := hx 3 (by decide)
    subst e0
    subst e1
    subst e2
    subst e3
    have g7 := g7 (by decide)
    match Lc, stc, g7, g8 with
    | [v0, v1, v2, v3, v4], [w0, w1], ⟨hv0, hv1, hv2, hv3, hv4, _⟩, ⟨hw0, hw1, _⟩ =>
      cases hv0
      cases hv1
      cases hv2
      cases hv3
      cases hw0
      cases hw1
      exact l0 τ ρ v4 hv4 g1 g2 g3 g4 g5 g6
set_option maxRecDepth 100000 in
theorem su_p14 {σ : pm_S} {Q : Option Value → pm_S → Prop} (x0 x1 x2 x3 : Int) (v4 : Value) (hv4 : v4.category = 1) (hB : an_GB pm_B σ) (eF : (0 ≤ x0 ∧ x0 ≤ 9) ∧ (0 ≤ x1 ∧ x1 ≤ 1023) ∧ (0 ≤ x2 ∧ x2 ≤ 9) ∧ (0 ≤ x3 ∧ x3 ≤ 8) ∧ True) (eC : (σ.1 85 1).toInt = x3 ∧ True)
    (l0 : ∀ (τ : pm_S) (y : Nat → Int) (v4 : Value), v4.category = 1 → an_GB pm_B τ → FQ [] σ τ → ((0 ≤ x0 ∧ x0 ≤ 9) ∧ (0 ≤ x1 ∧ x1 ≤ 1023) ∧ (0 ≤ x2 ∧ x2 ≤ 9) ∧ (0 ≤ x3 ∧ x3 ≤ 8) ∧ (0 ≤ y 4 ∧ y 4 ≤ 1023) ∧ (0 ≤ y 5 ∧ y 5 ≤ 0) ∧ True) → (y 5 ≤ y 4 + 0 ∧ True) → ((an_f 7 (Int32.ofInt (x1)) (Int32.ofInt (x2))).toInt = y 4 ∧ (an_f 3 (Int32.ofInt (y 4)) (Int32.ofInt (1))).toInt = y 5 ∧ True) → ((τ.1 85 1).toInt = x3 ∧ True) → Ok 105 21 5 [.ref 85, .int (Int32.ofInt (x0)), .int (Int32.ofInt (x1)), .int (Int32.ofInt (x2 + 1)), v4] [] τ Q)
    (l1 : ∀ (τ : pm_S) (y : Nat → Int) (v4 : Value), v4.category = 1 → an_GB pm_B τ → FQ [] σ τ → ((0 ≤ x0 ∧ x0 ≤ 9) ∧ (0 ≤ x1 ∧ x1 ≤ 1023) ∧ (0 ≤ x2 ∧ x2 ≤ 9) ∧ (0 ≤ x3 ∧ x3 ≤ 8) ∧ (0 ≤ y 4 ∧ y 4 ≤ 1023) ∧ (1 ≤ y 5 ∧ y 5 ≤ 1) ∧ True) → (y 5 ≤ y 4 + 0 ∧ True) → ((an_f 7 (Int32.ofInt (x1)) (Int32.ofInt (x2))).toInt = y 4 ∧ (an_f 3 (Int32.ofInt (y 4)) (Int32.ofInt (1))).toInt = y 5 ∧ True) → ((τ.1 85 1).toInt = x3 ∧ True) → Ok 105 21 27 [.ref 85, .int (Int32.ofInt (x0)), .int (Int32.ofInt (x1)), .int (Int32.ofInt (x2)), v4] [.int (Int32.ofInt (x2)), .int (Int32.ofInt (x3)), .ref 86] τ Q)
    : Ok 105 21 14 [.ref 85, .int (Int32.ofInt (x0)), .int (Int32.ofInt (x1)), .int (Int32.ofInt (x2)), v4] [] σ Q := by
  refine an_seg (B := pm_B) (F := []) (T := []) (S := []) (fun _ h => absurd h List.not_mem_nil) (k := 105) (d := 20) (cs := [27, 5]) 25 14 4 [(0, 0, 9), (1, 0, 1023), (2, 0, 9), (3, 0, 8)] [(85, (1, 0, 1), (0, 3, 0))] [(2, 85, 0), (0, 0, 0), (0, 1, 0), (0, 2, 0), (5, 0, 0)] [] [(5, [(2, 85, 0), (0, 0, 0), (0, 1, 0), (0, 2, 1), (5, 0, 0)], [], [(0, 0, 9), (1, 0, 1023), (2, 0, 9), (3, 0, 8), (4, 0, 1023), (5, 0, 0)], [(1, 5, 4, 0)], [(7, (0, 1, 0), (0, 2, 0), 4), (3, (0, 4, 0), (1, 0, 1), 5)], [(85, (1, 0, 1), (0, 3, 0))]),
    (27, [(2, 85, 0), (0, 0, 0), (0, 1, 0), (0, 2, 0), (5, 0, 0)], [(0, 2, 0), (0, 3, 0), (2, 86, 0)], [(0, 0, 9), (1, 0, 1023), (2, 0, 9), (3, 0, 8), (4, 0, 1023), (5, 1, 1)], [(1, 5, 4, 0)], [(7, (0, 1, 0), (0, 2, 0), 4), (3, (0, 4, 0), (1, 0, 1), 5)], [(85, (1, 0, 1), (0, 3, 0))])] (by decide +kernel) (ρ0 := (fun s => [x0, x1, x2, x3].getD s 0)) hB eF eC ⟨rfl, ⟨rfl, ⟨rfl, ⟨rfl, ⟨hv4, trivial⟩⟩⟩⟩⟩ trivial ?_
  refine List.forall_mem_cons.mpr ⟨?_, List.forall_mem_cons.mpr ⟨?_, fun _ h => absurd h List.not_mem_nil⟩⟩
  · intro ρ τ Lc stc hx g1 g2 g3 g4 g5 g6 g7 g8
    have e0 : ρ 0 = x0 := hx 0 (by decide)
    have e1 : ρ 1 = x1 := hx 1 (by decide)
    have e2 : ρ 2 = x2 := hx 2 (by decide)
    have e3 : ρ 3 = x3 := hx 3 (by decide)
    subst e0
    subst e1
    subst e2
    subst e3
    have g7 := g7 (by decide)
    match Lc, stc, g7, g8 with
    | [v0, v1, v2, v3, v4], [], ⟨hv0, hv1, hv2, hv3, hv4, _⟩, _ =>
      cases hv0
      cases hv1
      cases hv2
      cases hv3
      exact l0 τ ρ v4 hv4 g1 g2 g3 g4 g5 g6
  · intro ρ τ Lc stc hx g1 g2 g3 g4 g5 g6 g7 g8
    have e0 : ρ 0 = x0 := hx 0 (by decide)
    have e1 : ρ 1 = x1 := hx 1 (by decide)
    have e2 : ρ 2 = x2 := hx 2 (by decide)
    have e3 : ρ 3 = x3 := hx 3 (by decide)
    subst e0
    subst e1
    subst e2
    subst e3
    have g7 := g7 (by decide)
    match Lc, stc, g7, g8 with
    | [v0, v1, v2, v3, v4], [w0, w1, w2], ⟨hv0, hv1, hv2, hv3, hv4, _⟩, ⟨hw0, hw1, hw2, _⟩ =>
      cases hv0
      cases hv1
      cases hv2
      cases hv3
      cases hw0
      cases hw1
      cases hw2
      exact l1 τ ρ v4 hv4 g1 g2 g3 g4 g5 g6
set_option maxRecDepth 100000 in
theorem su_p28 {σ : pm_S} {Q : Option Value → pm_S → Prop} (x0 x1 x2 x3 : Int) (v4 : Value) (hv4 : v4.category = 1) (hB : an_GB pm_B σ) (eF : (0 ≤ x0 ∧ x0 ≤ 9) ∧ (0 ≤ x1 ∧ x1 ≤ 1023) ∧ (0 ≤ x2 ∧ x2 ≤ 9) ∧ (0 ≤ x3 ∧ x3 ≤ 8) ∧ True) (eC : (σ.1 85 1).toInt = x3 ∧ True)
    (l0 : ∀ (τ : pm_S) (y : Nat → Int) (v4 : Value), v4.category = 1 → an_GB pm_B τ → FQ [(85, 1)] σ τ → ((0 ≤ x0 ∧ x0 ≤ 9) ∧ (0 ≤ x1 ∧ x1 ≤ 1023) ∧ (0 ≤ x2 ∧ x2 ≤ 9) ∧ (0 ≤ x3 ∧ x3 ≤ 8) ∧ True) → (True) → (True) → ((τ.1 85 1).toInt = x3 + 1 ∧ True) → Ok 105 21 5 [.ref 85, .int (Int32.ofInt (x0)), .int (Int32.ofInt (x1)), .int (Int32.ofInt (x2 + 1)), v4] [] τ Q)
    : Ok 105 21 28 [.ref 85, .int (Int32.ofInt (x0)), .int (Int32.ofInt (x1)), .int (Int32.ofInt (x2)), v4] [] σ Q := by
  refine an_seg (B := pm_B) (F := [(85, 1)]) (T := []) (S := []) (fun _ h => absurd h List.not_mem_nil) (k := 105) (d := 20) (cs := [5]) 10 28 4 [(0, 0, 9), (1, 0, 1023), (2, 0, 9), (3, 0, 8)] [(85, (1, 0, 1), (0, 3, 0))] [(2, 85, 0), (0, 0, 0), (0, 1, 0), (0, 2, 0), (5, 0, 0)] [] [(5, [(2, 85, 0), (0, 0, 0), (0, 1, 0), (0, 2, 1), (5, 0, 0)], [], [(0, 0, 9), (1, 0, 1023), (2, 0, 9), (3, 0, 8)], [], [], [(85, (1, 0, 1), (0, 3, 1))])] (by decide +kernel) (ρ0 := (fun s => [x0, x1, x2, x3].getD s 0)) hB eF eC ⟨rfl, ⟨rfl, ⟨rfl, ⟨rfl, ⟨hv4, trivial⟩⟩⟩⟩⟩ trivial ?_
  refine List.forall_mem_cons.mpr ⟨?_, fun _ h => absurd h List.not_mem_nil⟩
  · intro ρ τ Lc stc hx g1 g2 g3 g4 g5 g6 g7 g8
    have e0 : ρ 0 = x0 := hx 0 (by decide)
    have e1 : ρ 1 = x1 := hx 1 (by decide)
    have e2 : ρ 2 = x2 := hx 2 (by decide)
    have e3 : ρ 3 = x3 := hx 3 (by decide)
    subst e0
    subst e1
    subst e2
    subst e3
    have g7 := g7 (by decide)
    match Lc, stc, g7, g8 with
    | [v0, v1, v2, v3, v4], [], ⟨hv0, hv1, hv2, hv3, hv4, _⟩, _ =>
      cases hv0
      cases hv1
      cases hv2
      cases hv3
      exact l0 τ ρ v4 hv4 g1 g2 g3 g4 g5 g6
set_option maxRecDepth 100000 in
theorem su_p34 {σ : pm_S} {Q : Option Value → pm_S → Prop} (x0 x1 x2 x3 : Int) (v4 : Value) (hv4 : v4.category = 1) (hB : an_GB pm_B σ) (eF : (0 ≤ x0 ∧ x0 ≤ 9) ∧ (0 ≤ x1 ∧ x1 ≤ 1023) ∧ (0 ≤ x2 ∧ x2 ≤ 9) ∧ (0 ≤ x3 ∧ x3 ≤ 9) ∧ True) (eC : (σ.1 85 1).toInt = x3 ∧ True)
    (l0 : ∀ (τ : pm_S) (y : Nat → Int) (v4 : Value), v4.category = 1 → an_GB pm_B τ → FQ [] σ τ → ((0 ≤ x0 ∧ x0 ≤ 9) ∧ (0 ≤ x1 ∧ x1 ≤ 1023) ∧ (0 ≤ x2 ∧ x2 ≤ 9) ∧ (0 ≤ x3 ∧ x3 ≤ 9) ∧ True) → (True) → (True) → ((τ.1 85 1).toInt = x3 ∧ True) → Ok 105 21 5 [.ref 85, .int (Int32.ofInt (x0)), .int (Int32.ofInt (x1)), .int (Int32.ofInt (x2 + 1)), v4] [] τ Q)
    : Ok 105 21 34 [.ref 85, .int (Int32.ofInt (x0)), .int (Int32.ofInt (x1)), .int (Int32.ofInt (x2)), v4] [] σ Q := by
  refine an_seg (B := pm_B) (F := []) (T := []) (S := []) (fun _ h => absurd h List.not_mem_nil) (k := 105) (d := 20) (cs := [5]) 4 34 4 [(0, 0, 9), (1, 0, 1023), (2, 0, 9), (3, 0, 9)] [(85, (1, 0, 1), (0, 3, 0))] [(2, 85, 0), (0, 0, 0), (0, 1, 0), (0, 2, 0), (5, 0, 0)] [] [(5, [(2, 85, 0), (0, 0, 0), (0, 1, 0), (0, 2, 1), (5, 0, 0)], [], [(0, 0, 9), (1, 0, 1023), (2, 0, 9), (3, 0, 9)], [], [], [(85, (1, 0, 1), (0, 3, 0))])] (by decide +kernel) (ρ0 := (fun s => [x0, x1, x2, x3].getD s 0)) hB eF eC ⟨rfl, ⟨rfl, ⟨rfl, ⟨rfl, ⟨hv4, trivial⟩⟩⟩⟩⟩ trivial ?_
  refine List.forall_mem_cons.mpr ⟨?_, fun _ h => absurd h List.not_mem_nil⟩
  · intro ρ τ Lc stc hx g1 g2 g3 g4 g5 g6 g7 g8
    have e0 : ρ 0 = x0 := hx 0 (by decide)
    have e1 : ρ 1 = x1 := hx 1 (by decide)
    have e2 : ρ 2 = x2 := hx 2 (by decide)
    have e3 : ρ 3 = x3 := hx 3 (by decide)
    subst e0
    subst e1
    subst e2
    subst e3
    have g7 := g7 (by decide)
    match Lc, stc, g7, g8 with
    | [v0, v1, v2, v3, v4], [], ⟨hv0, hv1, hv2, hv3, hv4, _⟩, _ =>
      cases hv0
      cases hv1
      cases hv2
      cases hv3
      exact l0 τ ρ v4 hv4 g1 g2 g3 g4 g5 g6
set_option maxRecDepth 100000 in
theorem su_n0 {σ : pm_S} {Q : Option Value → pm_S → Prop} (x0 : Int) (v2 : Value) (v3 : Value) (hv2 : v2.category = 1) (hv3 : v3.category = 1) (hB : an_GB pm_B σ) (eF : (0 ≤ x0 ∧ x0 ≤ 9) ∧ True)
    (l0 : ∀ (τ : pm_S) (y : Nat → Int) (v3 : Value), v3.category = 1 → an_GB pm_B τ → FQ [] σ τ → ((0 ≤ x0 ∧ x0 ≤ 9) ∧ True) → (True) → (True) → (True) → Ok 106 13 2 [.ref 85, .int (Int32.ofInt (x0)), .int (Int32.ofInt 0), v3] [] τ Q)
    : Ok 106 13 0 [.ref 85, .int (Int32.ofInt (x0)), v2, v3] [] σ Q := by
  refine an_seg (B := pm_B) (F := []) (T := []) (S := []) (fun _ h => absurd h List.not_mem_nil) (k := 106) (d := 12) (cs := [2]) 4 0 1 [(0, 0, 9)] [] [(2, 85, 0), (0, 0, 0), (5, 0, 0), (5, 0, 0)] [] [(2, [(2, 85, 0), (0, 0, 0), (1, 0, 0), (5, 0, 0)], [], [(0, 0, 9)], [], [], [])] (by decide +kernel) (ρ0 := (fun s => [x0].getD s 0)) hB eF trivial ⟨rfl, ⟨rfl, ⟨hv2, ⟨hv3, trivial⟩⟩⟩⟩ trivial ?_
  refine List.forall_mem_cons.mpr ⟨?_, fun _ h => absurd h List.not_mem_nil⟩
  · intro ρ τ Lc stc hx g1 g2 g3 g4 g5 g6 g7 g8
    have e0 : ρ 0 = x0 := hx 0 (by decide)
    subst e0
    have g7 := g7 (by decide)
    match Lc, stc, g7, g8 with
    | [v0, v1, v2, v3], [], ⟨hv0, hv1, hv2, hv3, _⟩, _ =>
      cases hv0
      cases hv1
      cases hv2
      exact l0 τ ρ v3 hv3 g1 g2 g3 g4 g5 g6
set_option maxRecDepth 100000 in
theorem su_n2 {σ : pm_S} {Q : Option Value → pm_S → Prop} (x0 x1 x2 : Int) (v3 : Value) (hv3 : v3.category = 1) (hB : an_GB pm_B σ) (eF : (0 ≤ x0 ∧ x0 ≤ 9) ∧ (0 ≤ x1 ∧ x1 ≤ 9) ∧ (0 ≤ x2 ∧ x2 ≤ 9) ∧ True) (eC : (σ.1 85 1).toInt = x2 ∧ True)
    (l0 : ∀ (τ : pm_S) (y : Nat → Int) (v3 : Value), v3.category = 1 → an_GB pm_B τ → FQ [] σ τ → ((0 ≤ x0 ∧ x0 ≤ 9) ∧ (0 ≤ x1 ∧ x1 ≤ 9) ∧ (0 ≤ x2 ∧ x2 ≤ 9) ∧ True) → (True) → (True) → ((τ.1 85 1).toInt = x2 ∧ True) → Ok 106 13 5 [.ref 85, .int (Int32.ofInt (x0)), .int (Int32.ofInt (x1)), v3] [.int (Int32.ofInt (x2)), .int (Int32.ofInt (x1))] τ Q)
    : Ok 106 13 2 [.ref 85, .int (Int32.ofInt (x0)), .int (Int32.ofInt (x1)), v3] [] σ Q := by
  refine an_seg (B := pm_B) (F := []) (T := []) (S := []) (fun _ h => absurd h List.not_mem_nil) (k := 106) (d := 12) (cs := [5]) 5 2 3 [(0, 0, 9), (1, 0, 9), (2, 0, 9)] [(85, (1, 0, 1), (0, 2, 0))] [(2, 85, 0), (0, 0, 0), (0, 1, 0), (5, 0, 0)] [] [(5, [(2, 85, 0), (0, 0, 0), (0, 1, 0), (5, 0, 0)], [(0, 2, 0), (0, 1, 0)], [(0, 0, 9), (1, 0, 9), (2, 0, 9)], [], [], [(85, (1, 0, 1), (0, 2, 0))])] (by decide +kernel) (ρ0 := (fun s => [x0, x1, x2].getD s 0)) hB eF eC ⟨rfl, ⟨rfl, ⟨rfl, ⟨hv3, trivial⟩⟩⟩⟩ trivial ?_
  refine List.forall_mem_cons.mpr ⟨?_, fun _ h => absurd h List.not_mem_nil⟩
  · intro ρ τ Lc stc hx g1 g2 g3 g4 g5 g6 g7 g8
    have e0 : ρ 0 = x0 := hx 0 (by decide)
    have e1 : ρ 1 = x1 := hx 1 (by decide)
    have e2 : ρ 2 = x2 := hx 2 (by decide)
    subst e0
    subst e1
    subst e2
    have g7 := g7 (by decide)
    match Lc, stc, g7, g8 with
    | [v0, v1, v2, v3], [w0, w1], ⟨hv0, hv1, hv2, hv3, _⟩, ⟨hw0, hw1, _⟩ =>
      cases hv0
      cases hv1
      cases hv2
      cases hw0
      cases hw1
      exact l0 τ ρ v3 hv3 g1 g2 g3 g4 g5 g6
set_option maxRecDepth 100000 in
theorem su_n6 {σ : pm_S} {Q : Option Value → pm_S → Prop} (x0 x1 : Int) (v3 : Value) (hv3 : v3.category = 1) (hB : an_GB pm_B σ) (eF : (0 ≤ x0 ∧ x0 ≤ 9) ∧ (0 ≤ x1 ∧ x1 ≤ 8) ∧ True)
    (l0 : ∀ (τ : pm_S) (y : Nat → Int) (v3 : Value), v3.category = 1 → an_GB pm_B τ → FQ [] σ τ → ((0 ≤ x0 ∧ x0 ≤ 9) ∧ (0 ≤ x1 ∧ x1 ≤ 8) ∧ (0 ≤ y 2 ∧ y 2 ≤ 9) ∧ True) → (True) → (True) → ((τ.1 86 (x1).toNat).toInt = y 2 ∧ True) → Ok 106 13 17 [.ref 85, .int (Int32.ofInt (x0)), .int (Int32.ofInt (x1)), v3] [.int (Int32.ofInt (y 2)), .int (Int32.ofInt (x0)), .ref 3, .int (Int32.ofInt (x1)), .ref 88] τ Q)
    : Ok 106 13 6 [.ref 85, .int (Int32.ofInt (x0)), .int (Int32.ofInt (x1)), v3] [] σ Q := by
  refine an_seg (B := pm_B) (F := []) (T := [86]) (S := []) (fun _ h => absurd h List.not_mem_nil) (k := 106) (d := 12) (cs := [17]) 13 6 2 [(0, 0, 9), (1, 0, 8)] [] [(2, 85, 0), (0, 0, 0), (0, 1, 0), (5, 0, 0)] [] [(17, [(2, 85, 0), (0, 0, 0), (0, 1, 0), (5, 0, 0)], [(0, 2, 0), (0, 0, 0), (2, 3, 0), (0, 1, 0), (2, 88, 0)], [(0, 0, 9), (1, 0, 8), (2, 0, 9)], [], [], [(86, (0, 1, 0), (0, 2, 0))])] (by decide +kernel) (ρ0 := (fun s => [x0, x1].getD s 0)) hB eF trivial ⟨rfl, ⟨rfl, ⟨rfl, ⟨hv3, trivial⟩⟩⟩⟩ trivial ?_
  refine List.forall_mem_cons.mpr ⟨?_, fun _ h => absurd h List.not_mem_nil⟩
  · intro ρ τ Lc stc hx g1 g2 g3 g4 g5 g6 g7 g8
    have e0 : ρ 0 = x0 := hx 0 (by decide)
    have e1 : ρ 1 = x1 := hx 1 (by decide)
    subst e0
    subst e1
    have g7 := g7 (by decide)
    match Lc, stc, g7, g8 with
    | [v0, v1, v2, v3], [w0, w1, w2, w3, w4], ⟨hv0, hv1, hv2, hv3, _⟩, ⟨hw0, hw1, hw2, hw3, hw4, _⟩ =>
      cases hv0
      cases hv1
      cases hv2
      cases hw0
      cases hw1
      cases hw2
      cases hw3
      cases hw4
      exact l0 τ ρ v3 hv3 g1 g2 g3 g4 g5 g6
set_option maxRecDepth 100000 in
theorem su_n18 {σ : pm_S} {Q : Option Value → pm_S → Prop} (x0 x1 : Int) (v3 : Value) (hv3 : v3.category = 1) (hB : an_GB pm_B σ) (eF : (0 ≤ x0 ∧ x0 ≤ 9) ∧ (0 ≤ x1 ∧ x1 ≤ 8) ∧ True)
    (l0 : ∀ (τ : pm_S) (y : Nat → Int), an_GB pm_B τ → FQ [] σ τ → ((0 ≤ x0 ∧ x0 ≤ 9) ∧ (0 ≤ x1 ∧ x1 ≤ 8) ∧ True) → (True) → (True) → (True) → Ok 106 13 21 [.ref 85, .int (Int32.ofInt (x0)), .int (Int32.ofInt (x1)), .int (Int32.ofInt 0)] [] τ Q)
    : Ok 106 13 19 [.ref 85, .int (Int32.ofInt (x0)), .int (Int32.ofInt (x1)), v3] [] σ Q := by
  refine an_seg (B := pm_B) (F := []) (T := []) (S := []) (fun _ h => absurd h List.not_mem_nil) (k := 106) (d := 12) (cs := [21]) 4 19 2 [(0, 0, 9), (1, 0, 8)] [] [(2, 85, 0), (0, 0, 0), (0, 1, 0), (5, 0, 0)] [] [(21, [(2, 85, 0), (0, 0, 0), (0, 1, 0), (1, 0, 0)], [], [(0, 0, 9), (1, 0, 8)], [], [], [])] (by decide +kernel) (ρ0 := (fun s => [x0, x1].getD s 0)) hB eF trivial ⟨rfl, ⟨rfl, ⟨rfl, ⟨hv3, trivial⟩⟩⟩⟩ trivial ?_
  refine List.forall_mem_cons.mpr ⟨?_, fun _ h => absurd h List.not_mem_nil⟩
  · intro ρ τ Lc stc hx g1 g2 g3 g4 g5 g6 g7 g8
    have e0 : ρ 0 = x0 := hx 0 (by decide)
    have e1 : ρ 1 = x1 := hx 1 (by decide)
    subst e0
    subst e1
    have g7 := g7 (by decide)
    match Lc, stc, g7, g8 with
    | [v0, v1, v2, v3], [], ⟨hv0, hv1, hv2, hv3, _⟩, _ =>
      cases hv0
      cases hv1
      cases hv2
      cases hv3
      exact l0 τ ρ  g1 g2 g3 g4 g5 g6
set_option maxRecDepth 100000 in
theorem su_n21 {σ : pm_S} {Q : Option Value → pm_S → Prop} (x0 x1 x2 x3 : Int)  (hB : an_GB pm_B σ) (eF : (0 ≤ x0 ∧ x0 ≤ 9) ∧ (0 ≤ x1 ∧ x1 ≤ 8) ∧ (0 ≤ x2 ∧ x2 ≤ 9) ∧ (0 ≤ x3 ∧ x3 ≤ 9) ∧ True) (eC : (σ.1 85 1).toInt = x3 ∧ True)
    (l0 : ∀ (τ : pm_S) (y : Nat → Int), an_GB pm_B τ → FQ [] σ τ → ((0 ≤ x0 ∧ x0 ≤ 9) ∧ (0 ≤ x1 ∧ x1 ≤ 8) ∧ (0 ≤ x2 ∧ x2 ≤ 9) ∧ (0 ≤ x3 ∧ x3 ≤ 9) ∧ True) → (True) → (True) → ((τ.1 85 1).toInt = x3 ∧ True) → Ok 106 13 24 [.ref 85, .int (Int32.ofInt (x0)), .int (Int32.ofInt (x1)), .int (Int32.ofInt (x2))] [.int (Int32.ofInt (x3)), .int (Int32.ofInt (x2))] τ Q)
    : Ok 106 13 21 [.ref 85, .int (Int32.ofInt (x0)), .int (Int32.ofInt (x1)), .int (Int32.ofInt (x2))] [] σ Q := by
  refine an_seg (B := pm_B) (F := []) (T := []) (S := []) (fun _ h => absurd h List.not_mem_nil) (k := 106) (d := 12) (cs := [24]) 5 21 4 [(0, 0, 9), (1, 0, 8), (2, 0, 9), (3, 0, 9)] [(85, (1, 0, 1), (0, 3, 0))] [(2, 85, 0), (0, 0, 0), (0, 1, 0), (0, 2, 0)] [] [(24, [(2, 85, 0), (0, 0, 0), (0, 1, 0), (0, 2, 0)], [(0, 3, 0), (0, 2, 0)], [(0, 0, 9), (1, 0, 8), (2, 0, 9), (3, 0, 9)], [], [], [(85, (1, 0, 1), (0, 3, 0))])] (by decide +kernel) (ρ0 := (fun s => [x0, x1, x2, x3].getD s 0)) hB eF eC ⟨rfl, ⟨rfl, ⟨rfl, ⟨rfl, trivial⟩⟩⟩⟩ trivial ?_
  refine List.forall_mem_cons.mpr ⟨?_, fun _ h => absurd h List.not_mem_nil⟩
  · intro ρ τ Lc stc hx g1 g2 g3 g4 g5 g6 g7 g8
    have e0 : ρ 0 = x0 := hx 0 (by decide)
    have e1 : ρ 1 = x1 := hx 1 (by decide)
    have e2 : ρ 2 = x2 := hx 2 (by decide)
    have e3 : ρ 3 = x3 := hx 3 (by decide)
    subst e0
    subst e1
    subst e2
    subst e3
    have g7 := g7 (by decide)
    match Lc, stc, g7, g8 with
    | [v0, v1, v2, v3], [w0, w1], ⟨hv0, hv1, hv2, hv3, _⟩, ⟨hw0, hw1, _⟩ =>
      cases hv0
      cases hv1
      cases hv2
      cases hv3
      cases hw0
      cases hw1
      exact l0 τ ρ  g1 g2 g3 g4 g5 g6
set_option maxRecDepth 100000 in
theorem su_n25 {σ : pm_S} {Q : Option Value → pm_S → Prop} (x0 x1 x2 : Int)  (hB : an_GB pm_B σ) (eF : (0 ≤ x0 ∧ x0 ≤ 9) ∧ (0 ≤ x1 ∧ x1 ≤ 8) ∧ (0 ≤ x2 ∧ x2 ≤ 8) ∧ True)
    (l0 : ∀ (τ : pm_S) (y : Nat → Int), an_GB pm_B τ → FQ [] σ τ → ((0 ≤ x0 ∧ x0 ≤ 9) ∧ (0 ≤ x1 ∧ x1 ≤ 8) ∧ (0 ≤ x2 ∧ x2 ≤ 8) ∧ (0 ≤ y 3 ∧ y 3 ≤ 72) ∧ (0 ≤ y 4 ∧ y 4 ≤ 80) ∧ (0 ≤ y 5 ∧ y 5 ≤ 9) ∧ (0 ≤ y 6 ∧ y 6 ≤ 9) ∧ True) → (True) → ((an_f 2 (Int32.ofInt (x1)) (Int32.ofInt (9))).toInt = y 3 ∧ (an_f 0 (Int32.ofInt (y 3)) (Int32.ofInt (x2))).toInt = y 4 ∧ True) → ((τ.1 86 (x1).toNat).toInt = y 5 ∧ (τ.1 86 (x2).toNat).toInt = y 6 ∧ True) → Ok 106 13 43 [.ref 85, .int (Int32.ofInt (x0)), .int (Int32.ofInt (x1)), .int (Int32.ofInt (x2))] [.int (Int32.ofInt (y 6)), .int (Int32.ofInt (y 5)), .ref 3, .int (Int32.ofInt (y 4)), .ref 87] τ Q)
    : Ok 106 13 25 [.ref 85, .int (Int32.ofInt (x0)), .int (Int32.ofInt (x1)), .int (Int32.ofInt (x2))] [] σ Q := by
  refine an_seg (B := pm_B) (F := []) (T := [86]) (S := []) (fun _ h => absurd h List.not_mem_nil) (k := 106) (d := 12) (cs := [43]) 20 25 3 [(0, 0, 9), (1, 0, 8), (2, 0, 8)] [] [(2, 85, 0), (0, 0, 0), (0, 1, 0), (0, 2, 0)] [] [(43, [(2, 85, 0), (0, 0, 0), (0, 1, 0), (0, 2, 0)], [(0, 6, 0), (0, 5, 0), (2, 3, 0), (0, 4, 0), (2, 87, 0)], [(0, 0, 9), (1, 0, 8), (2, 0, 8), (3, 0, 72), (4, 0, 80), (5, 0, 9), (6, 0, 9)], [], [(2, (0, 1, 0), (1, 0, 9), 3), (0, (0, 3, 0), (0, 2, 0), 4)], [(86, (0, 1, 0), (0, 5, 0)), (86, (0, 2, 0), (0, 6, 0))])] (by decide +kernel) (ρ0 := (fun s => [x0, x1, x2].getD s 0)) hB eF trivial ⟨rfl, ⟨rfl, ⟨rfl, ⟨rfl, trivial⟩⟩⟩⟩ trivial ?_
  refine List.forall_mem_cons.mpr ⟨?_, fun _ h => absurd h List.not_mem_nil⟩
  · intro ρ τ Lc stc hx g1 g2 g3 g4 g5 g6 g7 g8
    have e0 : ρ 0 = x0 := hx 0 (by decide)
    have e1 : ρ 1 = x1 := hx 1 (by decide)
    have e2 : ρ 2 = x2 := hx 2 (by decide)
    subst e0
    subst e1
    subst e2
    have g7 := g7 (by decide)
    match Lc, stc, g7, g8 with
    | [v0, v1, v2, v3], [w0, w1, w2, w3, w4], ⟨hv0, hv1, hv2, hv3, _⟩, ⟨hw0, hw1, hw2, hw3, hw4, _⟩ =>
      cases hv0
      cases hv1
      cases hv2
      cases hv3
      cases hw0
      cases hw1
      cases hw2
      cases hw3
      cases hw4
      exact l0 τ ρ  g1 g2 g3 g4 g5 g6
set_option maxRecDepth 100000 in
theorem su_n45 {σ : pm_S} {Q : Option Value → pm_S → Prop} (x0 x1 x2 : Int)  (hB : an_GB pm_B σ) (eF : (0 ≤ x0 ∧ x0 ≤ 9) ∧ (0 ≤ x1 ∧ x1 ≤ 8) ∧ (0 ≤ x2 ∧ x2 ≤ 8) ∧ True)
    (l0 : ∀ (τ : pm_S) (y : Nat → Int), an_GB pm_B τ → FQ [] σ τ → ((0 ≤ x0 ∧ x0 ≤ 9) ∧ (0 ≤ x1 ∧ x1 ≤ 8) ∧ (0 ≤ x2 ∧ x2 ≤ 8) ∧ True) → (True) → (True) → (True) → Ok 106 13 21 [.ref 85, .int (Int32.ofInt (x0)), .int (Int32.ofInt (x1)), .int (Int32.ofInt (x2 + 1))] [] τ Q)
    : Ok 106 13 45 [.ref 85, .int (Int32.ofInt (x0)), .int (Int32.ofInt (x1)), .int (Int32.ofInt (x2))] [] σ Q := by
  refine an_seg (B := pm_B) (F := []) (T := []) (S := []) (fun _ h => absurd h List.not_mem_nil) (k := 106) (d := 12) (cs := [21]) 4 45 3 [(0, 0, 9), (1, 0, 8), (2, 0, 8)] [] [(2, 85, 0), (0, 0, 0), (0, 1, 0), (0, 2, 0)] [] [(21, [(2, 85, 0), (0, 0, 0), (0, 1, 0), (0, 2, 1)], [], [(0, 0, 9), (1, 0, 8), (2, 0, 8)], [], [], [])] (by decide +kernel) (ρ0 := (fun s => [x0, x1, x2].getD s 0)) hB eF trivial ⟨rfl, ⟨rfl, ⟨rfl, ⟨rfl, trivial⟩⟩⟩⟩ trivial ?_
  refine List.forall_mem_cons.mpr ⟨?_, fun _ h => absurd h List.not_mem_nil⟩
  · intro ρ τ Lc stc hx g1 g2 g3 g4 g5 g6 g7 g8
    have e0 : ρ 0 = x0 := hx 0 (by decide)
    have e1 : ρ 1 = x1 := hx 1 (by decide)
    have e2 : ρ 2 = x2 := hx 2 (by decide)
    subst e0
    subst e1
    subst e2
    have g7 := g7 (by decide)
    match Lc, stc, g7, g8 with
    | [v0, v1, v2, v3], [], ⟨hv0, hv1, hv2, hv3, _⟩, _ =>
      cases hv0
      cases hv1
      cases hv2
      cases hv3
      exact l0 τ ρ  g1 g2 g3 g4 g5 g6
set_option maxRecDepth 100000 in
theorem su_n47 {σ : pm_S} {Q : Option Value → pm_S → Prop} (x0 x1 x2 : Int)  (hB : an_GB pm_B σ) (eF : (0 ≤ x0 ∧ x0 ≤ 9) ∧ (0 ≤ x1 ∧ x1 ≤ 8) ∧ (0 ≤ x2 ∧ x2 ≤ 9) ∧ True)
    (l0 : ∀ (τ : pm_S) (y : Nat → Int), an_GB pm_B τ → FQ [] σ τ → ((0 ≤ x0 ∧ x0 ≤ 9) ∧ (0 ≤ x1 ∧ x1 ≤ 8) ∧ (0 ≤ x2 ∧ x2 ≤ 9) ∧ True) → (True) → (True) → (True) → Ok 106 13 2 [.ref 85, .int (Int32.ofInt (x0)), .int (Int32.ofInt (x1 + 1)), .int (Int32.ofInt (x2))] [] τ Q)
    : Ok 106 13 47 [.ref 85, .int (Int32.ofInt (x0)), .int (Int32.ofInt (x1)), .int (Int32.ofInt (x2))] [] σ Q := by
  refine an_seg (B := pm_B) (F := []) (T := []) (S := []) (fun _ h => absurd h List.not_mem_nil) (k := 106) (d := 12) (cs := [2]) 4 47 3 [(0, 0, 9), (1, 0, 8), (2, 0, 9)] [] [(2, 85, 0), (0, 0, 0), (0, 1, 0), (0, 2, 0)] [] [(2, [(2, 85, 0), (0, 0, 0), (0, 1, 1), (0, 2, 0)], [], [(0, 0, 9), (1, 0, 8), (2, 0, 9)], [], [], [])] (by decide +kernel) (ρ0 := (fun s => [x0, x1, x2].getD s 0)) hB eF trivial ⟨rfl, ⟨rfl, ⟨rfl, ⟨rfl, trivial⟩⟩⟩⟩ trivial ?_
  refine List.forall_mem_cons.mpr ⟨?_, fun _ h => absurd h List.not_mem_nil⟩
  · intro ρ τ Lc stc hx g1 g2 g3 g4 g5 g6 g7 g8
    have e0 : ρ 0 = x0 := hx 0 (by decide)
    have e1 : ρ 1 = x1 := hx 1 (by decide)
    have e2 : ρ 2 = x2 := hx 2 (by decide)
    subst e0
    subst e1
    subst e2
    have g7 := g7 (by decide)
    match Lc, stc, g7, g8 with
    | [v0, v1, v2, v3], [], ⟨hv0, hv1, hv2, hv3, _⟩, _ =>
      cases hv0
      cases hv1
      cases hv2
      cases hv3
      exact l0 τ ρ  g1 g2 g3 g4 g5 g6
set_option maxRecDepth 100000 in
theorem su_n49 {σ : pm_S} {Q : Option Value → pm_S → Prop} (x0 x1 : Int) (v3 : Value) (hv3 : v3.category = 1) (hB : an_GB pm_B σ) (eF : (0 ≤ x0 ∧ x0 ≤ 9) ∧ (0 ≤ x1 ∧ x1 ≤ 9) ∧ True)
    (l0 : ∀ (τ : pm_S) (y : Nat → Int), an_GB pm_B τ → FQ [] σ τ → ((0 ≤ x0 ∧ x0 ≤ 9) ∧ (0 ≤ x1 ∧ x1 ≤ 9) ∧ True) → (True) → (True) → (True) → Q none τ)
    : Ok 106 13 49 [.ref 85, .int (Int32.ofInt (x0)), .int (Int32.ofInt (x1)), v3] [] σ Q := by
  refine an_seg (B := pm_B) (F := []) (T := []) (S := []) (fun _ h => absurd h List.not_mem_nil) (k := 106) (d := 12) (cs := []) 3 49 2 [(0, 0, 9), (1, 0, 9)] [] [(2, 85, 0), (0, 0, 0), (0, 1, 0), (5, 0, 0)] [] [(9999, [], [], [(0, 0, 9), (1, 0, 9)], [], [], [])] (by decide +kernel) (ρ0 := (fun s => [x0, x1].getD s 0)) hB eF trivial ⟨rfl, ⟨rfl, ⟨rfl, ⟨hv3, trivial⟩⟩⟩⟩ trivial ?_
  refine List.forall_mem_cons.mpr ⟨?_, fun _ h => absurd h List.not_mem_nil⟩
  · intro ρ τ Lc stc hx g1 g2 g3 g4 g5 g6 g7 g8
    have e0 : ρ 0 = x0 := hx 0 (by decide)
    have e1 : ρ 1 = x1 := hx 1 (by decide)
    subst e0
    subst e1
    match stc, g8 with
    | [], _ => exact l0 τ ρ g1 g2 g3 g4 g5 g6
set_option maxRecDepth 100000 in
theorem su_f0 {σ : pm_S} {Q : Option Value → pm_S → Prop} (x0 x1 : Int) (v3 : Value) (v4 : Value) (hv3 : v3.category = 1) (hv4 : v4.category = 1) (hB : an_GB pm_B σ) (eF : (0 ≤ x0 ∧ x0 ≤ 8) ∧ (0 ≤ x1 ∧ x1 ≤ 511) ∧ True)
    (l0 : ∀ (τ : pm_S) (y : Nat → Int), an_GB pm_B τ → FQ [] σ τ → ((0 ≤ x0 ∧ x0 ≤ 8) ∧ (1 ≤ x1 ∧ x1 ≤ 511) ∧ True) → (True) → (True) → (True) → Ok 107 9 11 [.ref 85, .int (Int32.ofInt (x0)), .int (Int32.ofInt (x1)), .int (Int32.ofInt 1073741824), .int (Int32.ofInt 0)] [] τ Q)
    (l1 : ∀ (τ : pm_S) (y : Nat → Int), an_GB pm_B τ → FQ [] σ τ → ((0 ≤ x0 ∧ x0 ≤ 8) ∧ (0 ≤ x1 ∧ x1 ≤ 0) ∧ ((-2147483648) ≤ y 2 ∧ y 2 ≤ 2147483647) ∧ True) → (True) → (True) → ((τ.1 88 (x0).toNat).toInt = y 2 ∧ True) → Q (some (.int (Int32.ofInt (y 2)))) τ)
    : Ok 107 9 0 [.ref 85, .int (Int32.ofInt (x0)), .int (Int32.ofInt (x1)), v3, v4] [] σ Q := by
  refine an_seg (B := pm_B) (F := []) (T := [88]) (S := []) (fun _ h => absurd h List.not_mem_nil) (k := 107) (d := 8) (cs := [11]) 9 0 2 [(0, 0, 8), (1, 0, 511)] [] [(2, 85, 0), (0, 0, 0), (0, 1, 0), (5, 0, 0), (5, 0, 0)] [] [(11, [(2, 85, 0), (0, 0, 0), (0, 1, 0), (1, 0, 1073741824), (1, 0, 0)], [], [(0, 0, 8), (1, 1, 511)], [], [], []),
    (9999, [], [(0, 2, 0)], [(0, 0, 8), (1, 0, 0), (2, (-2147483648), 2147483647)], [], [], [(88, (0, 0, 0), (0, 2, 0))])] (by decide +kernel) (ρ0 := (fun s => [x0, x1].getD s 0)) hB eF trivial ⟨rfl, ⟨rfl, ⟨rfl, ⟨hv3, ⟨hv4, trivial⟩⟩⟩⟩⟩ trivial ?_
  refine List.forall_mem_cons.mpr ⟨?_, List.forall_mem_cons.mpr ⟨?_, fun _ h => absurd h List.not_mem_nil⟩⟩
  · intro ρ τ Lc stc hx g1 g2 g3 g4 g5 g6 g7 g8
    have e0 : ρ 0 = x0 := hx 0 (by decide)
    have e1 : ρ 1 = x1 := hx 1 (by decide)
    subst e0
    subst e1
    have g7 := g7 (by decide)
    match Lc, stc, g7, g8 with
    | [v0, v1, v2, v3, v4], [], ⟨hv0, hv1, hv2, hv3, hv4, _⟩, _ =>
      cases hv0
      cases hv1
      cases hv2
      cases hv3
      cases hv4
      exact l0 τ ρ  g1 g2 g3 g4 g5 g6
  · intro ρ τ Lc stc hx g1 g2 g3 g4 g5 g6 g7 g8
    have e0 : ρ 0 = x0 := hx 0 (by decide)
    have e1 : ρ 1 = x1 := hx 1 (by decide)
    subst e0
    subst e1
    match stc, g8 with
    | [_], ⟨h, _⟩ => cases h; exact l1 τ ρ g1 g2 g3 g4 g5 g6
set_option maxRecDepth 100000 in
theorem su_f11 {σ : pm_S} {Q : Option Value → pm_S → Prop} (x0 x1 x2 x3 x4 : Int)  (hB : an_GB pm_B σ) (eF : (0 ≤ x0 ∧ x0 ≤ 8) ∧ (1 ≤ x1 ∧ x1 ≤ 511) ∧ (0 ≤ x2 ∧ x2 ≤ 1073741824) ∧ (0 ≤ x3 ∧ x3 ≤ 9) ∧ (0 ≤ x4 ∧ x4 ≤ 9) ∧ True) (eC : (σ.1 85 1).toInt = x4 ∧ True)
    (l0 : ∀ (τ : pm_S) (y : Nat → Int), an_GB pm_B τ → FQ [] σ τ → ((0 ≤ x0 ∧ x0 ≤ 8) ∧ (1 ≤ x1 ∧ x1 ≤ 511) ∧ (0 ≤ x2 ∧ x2 ≤ 1073741824) ∧ (0 ≤ x3 ∧ x3 ≤ 9) ∧ (0 ≤ x4 ∧ x4 ≤ 9) ∧ True) → (True) → (True) → ((τ.1 85 1).toInt = x4 ∧ True) → Ok 107 9 14 [.ref 85, .int (Int32.ofInt (x0)), .int (Int32.ofInt (x1)), .int (Int32.ofInt (x2)), .int (Int32.ofInt (x3))] [.int (Int32.ofInt (x4)), .int (Int32.ofInt (x3))] τ Q)
    : Ok 107 9 11 [.ref 85, .int (Int32.ofInt (x0)), .int (Int32.ofInt (x1)), .int (Int32.ofInt (x2)), .int (Int32.ofInt (x3))] [] σ Q := by
  refine an_seg (B := pm_B) (F := []) (T := []) (S := []) (fun _ h => absurd h List.not_mem_nil) (k := 107) (d := 8) (cs := [14]) 5 11 5 [(0, 0, 8), (1, 1, 511), (2, 0, 1073741824), (3, 0, 9), (4, 0, 9)] [(85, (1, 0, 1), (0, 4, 0))] [(2, 85, 0), (0, 0, 0), (0, 1, 0), (0, 2, 0), (0, 3, 0)] [] [(14, [(2, 85, 0), (0, 0, 0), (0, 1, 0), (0, 2, 0), (0, 3, 0)], [(0, 4, 0), (0, 3, 0)], [(0, 0, 8), (1, 1, 511), (2, 0, 1073741824), (3, 0, 9), (4, 0, 9)], [], [], [(85, (1, 0, 1), (0, 4, 0))])] (by decide +kernel) (ρ0 := (fun s => [x0, x1, x2, x3, x4].getD s 0)) hB eF eC ⟨rfl, ⟨rfl, ⟨rfl, ⟨rfl, ⟨rfl, trivial⟩⟩⟩⟩⟩ trivial ?_
  refine List.forall_mem_cons.mpr ⟨?_, fun _ h => absurd h List.not_mem_nil⟩
  · intro ρ τ Lc stc hx g1 g2 g3 g4 g5 g6 g7 g8
    have e0 : ρ 0 = x0 := hx 0 (by decide)
    have e1 : ρ 1 = x1 := hx 1 (by decide)
    have e2 : ρ 2 = x2 := hx 2 (by decide)
    have e3 : ρ 3 = x3 := hx 3 (by decide)
    have e4 : ρ 4 = x4 := hx 4 (by decide)
    subst e0
    subst e1
    subst e2
    subst e3
    subst e4
    have g7 := g7 (by decide)
    match Lc, stc, g7, g8 with
    | [v0, v1, v2, v3, v4], [w0, w1], ⟨hv0, hv1, hv2, hv3, hv4, _⟩, ⟨hw0, hw1, _⟩ =>
      cases hv0
      cases hv1
      cases hv2
      cases hv3
      cases hv4
      cases hw0
      cases hw1
      exact l0 τ ρ  g1 g2 g3 g4 g5 g6
set_option maxRecDepth 100000 in
theorem su_f15 {σ : pm_S} {Q : Option Value → pm_S → Prop} (x0 x1 x2 x3 : Int)  (hB : an_GB pm_B σ) (eF : (0 ≤ x0 ∧ x0 ≤ 8) ∧ (1 ≤ x1 ∧ x1 ≤ 511) ∧ (0 ≤ x2 ∧ x2 ≤ 1073741824) ∧ (0 ≤ x3 ∧ x3 ≤ 8) ∧ True)
    (l0 : ∀ (τ : pm_S) (y : Nat → Int), an_GB pm_B τ → FQ [] σ τ → ((0 ≤ x0 ∧ x0 ≤ 8) ∧ (1 ≤ x1 ∧ x1 ≤ 511) ∧ (0 ≤ x2 ∧ x2 ≤ 1073741824) ∧ (0 ≤ x3 ∧ x3 ≤ 8) ∧ (0 ≤ y 4 ∧ y 4 ≤ 511) ∧ (0 ≤ y 5 ∧ y 5 ≤ 0) ∧ True) → (y 5 ≤ y 4 + 0 ∧ True) → ((an_f 7 (Int32.ofInt (x1)) (Int32.ofInt (x3))).toInt = y 4 ∧ (an_f 3 (Int32.ofInt (y 4)) (Int32.ofInt (1))).toInt = y 5 ∧ True) → (True) → Ok 107 9 11 [.ref 85, .int (Int32.ofInt (x0)), .int (Int32.ofInt (x1)), .int (Int32.ofInt (x2)), .int (Int32.ofInt (x3 + 1))] [] τ Q)
    (l1 : ∀ (τ : pm_S) (y : Nat → Int), an_GB pm_B τ → FQ [] σ τ → ((0 ≤ x0 ∧ x0 ≤ 8) ∧ (1 ≤ x1 ∧ x1 ≤ 511) ∧ (0 ≤ x2 ∧ x2 ≤ 1073741824) ∧ (0 ≤ x3 ∧ x3 ≤ 8) ∧ (0 ≤ y 4 ∧ y 4 ≤ 511) ∧ (1 ≤ y 5 ∧ y 5 ≤ 1) ∧ (9 ≤ y 6 ∧ y 6 ≤ 4599) ∧ (9 ≤ y 7 ∧ y 7 ≤ 4607) ∧ ((-2147483648) ≤ y 8 ∧ y 8 ≤ 2147483647) ∧ (0 ≤ y 9 ∧ y 9 ≤ 72) ∧ (0 ≤ y 10 ∧ y 10 ≤ 80) ∧ ((-2147483648) ≤ y 11 ∧ y 11 ≤ 2147483647) ∧ ((-2147483648) ≤ y 12 ∧ y 12 ≤ 2147483647) ∧ ((-2147483648) ≤ y 13 ∧ y 13 ≤ 1073741824) ∧ True) → (y 5 ≤ y 4 + 0 ∧ True) → ((an_f 7 (Int32.ofInt (x1)) (Int32.ofInt (x3))).toInt = y 4 ∧ (an_f 3 (Int32.ofInt (y 4)) (Int32.ofInt (1))).toInt = y 5 ∧ (an_f 2 (Int32.ofInt (x1)) (Int32.ofInt (9))).toInt = y 6 ∧ (an_f 0 (Int32.ofInt (y 6)) (Int32.ofInt (x3))).toInt = y 7 ∧ (an_f 2 (Int32.ofInt (x0)) (Int32.ofInt (9))).toInt = y 9 ∧ (an_f 0 (Int32.ofInt (y 9)) (Int32.ofInt (x3))).toInt = y 10 ∧ (an_f 0 (Int32.ofInt (y 8)) (Int32.ofInt (y 11))).toInt = y 12 ∧ (an_f 11 (Int32.ofInt (x2)) (Int32.ofInt (y 12))).toInt = y 13 ∧ True) → ((τ.1 87 (y 10).toNat).toInt = y 11 ∧ (τ.1 89 (y 7).toNat).toInt = y 8 ∧ True) → Ok 107 9 11 [.ref 85, .int (Int32.ofInt (x0)), .int (Int32.ofInt (x1)), .int (Int32.ofInt (y 13)), .int (Int32.ofInt (x3 + 1))] [] τ Q)
    : Ok 107 9 15 [.ref 85, .int (Int32.ofInt (x0)), .int (Int32.ofInt (x1)), .int (Int32.ofInt (x2)), .int (Int32.ofInt (x3))] [] σ Q := by
  refine an_seg (B := pm_B) (F := []) (T := [87, 89]) (S := []) (fun _ h => absurd h List.not_mem_nil) (k := 107) (d := 8) (cs := [11]) 31 15 4 [(0, 0, 8), (1, 1, 511), (2, 0, 1073741824), (3, 0, 8)] [] [(2, 85, 0), (0, 0, 0), (0, 1, 0), (0, 2, 0), (0, 3, 0)] [] [(11, [(2, 85, 0), (0, 0, 0), (0, 1, 0), (0, 2, 0), (0, 3, 1)], [], [(0, 0, 8), (1, 1, 511), (2, 0, 1073741824), (3, 0, 8), (4, 0, 511), (5, 0, 0)], [(1, 5, 4, 0)], [(7, (0, 1, 0), (0, 3, 0), 4), (3, (0, 4, 0), (1, 0, 1), 5)], []),
    (11, [(2, 85, 0), (0, 0, 0), (0, 1, 0), (0, 13, 0), (0, 3, 1)], [], [(0, 0, 8), (1, 1, 511), (2, 0, 1073741824), (3, 0, 8), (4, 0, 511), (5, 1, 1), (6, 9, 4599), (7, 9, 4607), (8, (-2147483648), 2147483647), (9, 0, 72), (10, 0, 80), (11, (-2147483648), 2147483647), (12, (-2147483648), 2147483647), (13, (-2147483648), 1073741824)], [(1, 5, 4, 0)], [(7, (0, 1, 0), (0, 3, 0), 4), (3, (0, 4, 0), (1, 0, 1), 5), (2, (0, 1, 0), (1, 0, 9), 6), (0, (0, 6, 0), (0, 3, 0), 7), (2, (0, 0, 0), (1, 0, 9), 9), (0, (0, 9, 0), (0, 3, 0), 10), (0, (0, 8, 0), (0, 11, 0), 12), (11, (0, 2, 0), (0, 12, 0), 13)], [(87, (0, 10, 0), (0, 11, 0)), (89, (0, 7, 0), (0, 8, 0))])] (by decide +kernel) (ρ0 := (fun s => [x0, x1, x2, x3].getD s 0)) hB eF trivial ⟨rfl, ⟨rfl, ⟨rfl, ⟨rfl, ⟨rfl, trivial⟩⟩⟩⟩⟩ trivial ?_
  refine List.forall_mem_cons.mpr ⟨?_, List.forall_mem_cons.mpr ⟨?_, fun _ h => absurd h List.not_mem_nil⟩⟩
  · intro ρ τ Lc stc hx g1 g2 g3 g4 g5 g6 g7 g8
    have e0 : ρ 0 = x0 := hx 0 (by decide)
    have e1 : ρ 1 = x1 := hx 1 (by decide)
    have e2 : ρ 2 = x2 := hx 2 (by decide)
    have e3 : ρ 3 = x3 := hx 3 (by decide)
    subst e0
    subst e1
    subst e2
    subst e3
    have g7 := g7 (by decide)
    match Lc, stc, g7, g8 with
    | [v0, v1, v2, v3, v4], [], ⟨hv0, hv1, hv2, hv3, hv4, _⟩, _ =>
      cases hv0
      cases hv1
      cases hv2
      cases hv3
      cases hv4
      exact l0 τ ρ  g1 g2 g3 g4 g5 g6
  · intro ρ τ Lc stc hx g1 g2 g3 g4 g5 g6 g7 g8
    have e0 : ρ 0 = x0 := hx 0 (by decide)
    have e1 : ρ 1 = x1 := hx 1 (by decide)
    have e2 : ρ 2 = x2 := hx 2 (by decide)
    have e3 : ρ 3 = x3 := hx 3 (by decide)
    subst e0
    subst e1
    subst e2
    subst e3
    have g7 := g7 (by decide)
    match Lc, stc, g7, g8 with
    | [v0, v1, v2, v3, v4], [], ⟨hv0, hv1, hv2, hv3, hv4, _⟩, _ =>
      cases hv0
      cases hv1
      cases hv2
      cases hv3
      cases hv4
      exact l1 τ ρ  g1 g2 g3 g4 g5 g6
set_option maxRecDepth 100000 in
theorem su_f44 {σ : pm_S} {Q : Option Value → pm_S → Prop} (x0 x1 x2 x3 : Int)  (hB : an_GB pm_B σ) (eF : (0 ≤ x0 ∧ x0 ≤ 8) ∧ (1 ≤ x1 ∧ x1 ≤ 511) ∧ (0 ≤ x2 ∧ x2 ≤ 1073741824) ∧ (0 ≤ x3 ∧ x3 ≤ 9) ∧ True)
    (l0 : ∀ (τ : pm_S) (y : Nat → Int), an_GB pm_B τ → FQ [] σ τ → ((0 ≤ x0 ∧ x0 ≤ 8) ∧ (1 ≤ x1 ∧ x1 ≤ 511) ∧ (0 ≤ x2 ∧ x2 ≤ 1073741824) ∧ (0 ≤ x3 ∧ x3 ≤ 9) ∧ True) → (True) → (True) → (True) → Q (some (.int (Int32.ofInt (x2)))) τ)
    : Ok 107 9 44 [.ref 85, .int (Int32.ofInt (x0)), .int (Int32.ofInt (x1)), .int (Int32.ofInt (x2)), .int (Int32.ofInt (x3))] [] σ Q := by
  refine an_seg (B := pm_B) (F := []) (T := []) (S := []) (fun _ h => absurd h List.not_mem_nil) (k := 107) (d := 8) (cs := []) 4 44 4 [(0, 0, 8), (1, 1, 511), (2, 0, 1073741824), (3, 0, 9)] [] [(2, 85, 0), (0, 0, 0), (0, 1, 0), (0, 2, 0), (0, 3, 0)] [] [(9999, [], [(0, 2, 0)], [(0, 0, 8), (1, 1, 511), (2, 0, 1073741824), (3, 0, 9)], [], [], [])] (by decide +kernel) (ρ0 := (fun s => [x0, x1, x2, x3].getD s 0)) hB eF trivial ⟨rfl, ⟨rfl, ⟨rfl, ⟨rfl, ⟨rfl, trivial⟩⟩⟩⟩⟩ trivial ?_
  refine List.forall_mem_cons.mpr ⟨?_, fun _ h => absurd h List.not_mem_nil⟩
  · intro ρ τ Lc stc hx g1 g2 g3 g4 g5 g6 g7 g8
    have e0 : ρ 0 = x0 := hx 0 (by decide)
    have e1 : ρ 1 = x1 := hx 1 (by decide)
    have e2 : ρ 2 = x2 := hx 2 (by decide)
    have e3 : ρ 3 = x3 := hx 3 (by decide)
    subst e0
    subst e1
    subst e2
    subst e3
    match stc, g8 with
    | [_], ⟨h, _⟩ => cases h; exact l0 τ ρ g1 g2 g3 g4 g5 g6
set_option maxRecDepth 100000 in
theorem su_p36 {σ : pm_S} {Q : Option Value → pm_S → Prop} (x0 x1 x2 : Int) (v4 : Value) (hv4 : v4.category = 1) (hB : an_GB pm_B σ) (eF : (0 ≤ x0 ∧ x0 ≤ 9) ∧ (0 ≤ x1 ∧ x1 ≤ 1023) ∧ (0 ≤ x2 ∧ x2 ≤ 10) ∧ True)
    (l0 : ∀ (τ : pm_S) (y : Nat → Int) (v4 : Value), v4.category = 1 → an_GB pm_B τ → FQ [] σ τ → ((0 ≤ x0 ∧ x0 ≤ 9) ∧ (0 ≤ x1 ∧ x1 ≤ 1023) ∧ (0 ≤ x2 ∧ x2 ≤ 10) ∧ True) → (True) → (True) → (True) → Ok 105 21 38 [.ref 85, .int (Int32.ofInt (x0)), .int (Int32.ofInt (x1)), .int (Int32.ofInt (x2)), v4] [.int (Int32.ofInt (x0)), .ref 85] τ Q)
    : Ok 105 21 36 [.ref 85, .int (Int32.ofInt (x0)), .int (Int32.ofInt (x1)), .int (Int32.ofInt (x2)), v4] [] σ Q := by
  refine an_seg (B := pm_B) (F := []) (T := []) (S := []) (fun _ h => absurd h List.not_mem_nil) (k := 105) (d := 20) (cs := [38]) 4 36 3 [(0, 0, 9), (1, 0, 1023), (2, 0, 10)] [] [(2, 85, 0), (0, 0, 0), (0, 1, 0), (0, 2, 0), (5, 0, 0)] [] [(38, [(2, 85, 0), (0, 0, 0), (0, 1, 0), (0, 2, 0), (5, 0, 0)], [(0, 0, 0), (2, 85, 0)], [(0, 0, 9), (1, 0, 1023), (2, 0, 10)], [], [], [])] (by decide +kernel) (ρ0 := (fun s => [x0, x1, x2].getD s 0)) hB eF trivial ⟨rfl, ⟨rfl, ⟨rfl, ⟨rfl, ⟨hv4, trivial⟩⟩⟩⟩⟩ trivial ?_
  refine List.forall_mem_cons.mpr ⟨?_, fun _ h => absurd h List.not_mem_nil⟩
  · intro ρ τ Lc stc hx g1 g2 g3 g4 g5 g6 g7 g8
    have e0 : ρ 0 = x0 := hx 0 (by decide)
    have e1 : ρ 1 = x1 := hx 1 (by decide)
    have e2 : ρ 2 = x2 := hx 2 (by decide)
    subst e0
    subst e1
    subst e2
    have g7 := g7 (by decide)
    match Lc, stc, g7, g8 with
    | [v0, v1, v2, v3, v4], [w0, w1], ⟨hv0, hv1, hv2, hv3, hv4, _⟩, ⟨hw0, hw1, _⟩ =>
      cases hv0
      cases hv1
      cases hv2
      cases hv3
      cases hw0
      cases hw1
      exact l0 τ ρ v4 hv4 g1 g2 g3 g4 g5 g6
set_option maxRecDepth 100000 in
theorem su_p39 {σ : pm_S} {Q : Option Value → pm_S → Prop} (x0 x1 x2 : Int) (v4 : Value) (hv4 : v4.category = 1) (hB : an_GB pm_B σ) (eF : (0 ≤ x0 ∧ x0 ≤ 9) ∧ (0 ≤ x1 ∧ x1 ≤ 1023) ∧ (0 ≤ x2 ∧ x2 ≤ 10) ∧ True)
    (l0 : ∀ (τ : pm_S) (y : Nat → Int) (v4 : Value), v4.category = 1 → an_GB pm_B τ → FQ [] σ τ → ((0 ≤ x0 ∧ x0 ≤ 9) ∧ (0 ≤ x1 ∧ x1 ≤ 1023) ∧ (0 ≤ x2 ∧ x2 ≤ 10) ∧ True) → (True) → (True) → (True) → Ok 105 21 41 [.ref 85, .int (Int32.ofInt (x0)), .int (Int32.ofInt (x1)), .int (Int32.ofInt 1), v4] [] τ Q)
    : Ok 105 21 39 [.ref 85, .int (Int32.ofInt (x0)), .int (Int32.ofInt (x1)), .int (Int32.ofInt (x2)), v4] [] σ Q := by
  refine an_seg (B := pm_B) (F := []) (T := []) (S := []) (fun _ h => absurd h List.not_mem_nil) (k := 105) (d := 20) (cs := [41]) 4 39 3 [(0, 0, 9), (1, 0, 1023), (2, 0, 10)] [] [(2, 85, 0), (0, 0, 0), (0, 1, 0), (0, 2, 0), (5, 0, 0)] [] [(41, [(2, 85, 0), (0, 0, 0), (0, 1, 0), (1, 0, 1), (5, 0, 0)], [], [(0, 0, 9), (1, 0, 1023), (2, 0, 10)], [], [], [])] (by decide +kernel) (ρ0 := (fun s => [x0, x1, x2].getD s 0)) hB eF trivial ⟨rfl, ⟨rfl, ⟨rfl, ⟨rfl, ⟨hv4, trivial⟩⟩⟩⟩⟩ trivial ?_
  refine List.forall_mem_cons.mpr ⟨?_, fun _ h => absurd h List.not_mem_nil⟩
  · intro ρ τ Lc stc hx g1 g2 g3 g4 g5 g6 g7 g8
    have e0 : ρ 0 = x0 := hx 0 (by decide)
    have e1 : ρ 1 = x1 := hx 1 (by decide)
    have e2 : ρ 2 = x2 := hx 2 (by decide)
    subst e0
    subst e1
    subst e2
    have g7 := g7 (by decide)
    match Lc, stc, g7, g8 with
    | [v0, v1, v2, v3, v4], [], ⟨hv0, hv1, hv2, hv3, hv4, _⟩, _ =>
      cases hv0
      cases hv1
      cases hv2
      cases hv3
      exact l0 τ ρ v4 hv4 g1 g2 g3 g4 g5 g6
set_option maxRecDepth 100000 in
theorem su_p41 {σ : pm_S} {Q : Option Value → pm_S → Prop} (x0 x1 x2 x3 : Int) (v4 : Value) (hv4 : v4.category = 1) (hB : an_GB pm_B σ) (eF : (0 ≤ x0 ∧ x0 ≤ 9) ∧ (0 ≤ x1 ∧ x1 ≤ 1023) ∧ (1 ≤ x2 ∧ x2 ≤ 512) ∧ (0 ≤ x3 ∧ x3 ≤ 9) ∧ True) (eC : (σ.1 85 1).toInt = x3 ∧ True)
    (l0 : ∀ (τ : pm_S) (y : Nat → Int) (v4 : Value), v4.category = 1 → an_GB pm_B τ → FQ [] σ τ → ((0 ≤ x0 ∧ x0 ≤ 9) ∧ (0 ≤ x1 ∧ x1 ≤ 1023) ∧ (1 ≤ x2 ∧ x2 ≤ 512) ∧ (0 ≤ x3 ∧ x3 ≤ 9) ∧ (1 ≤ y 4 ∧ y 4 ≤ 512) ∧ True) → (True) → ((an_f 6 (Int32.ofInt (1)) (Int32.ofInt (x3))).toInt = y 4 ∧ True) → ((τ.1 85 1).toInt = x3 ∧ True) → Ok 105 21 46 [.ref 85, .int (Int32.ofInt (x0)), .int (Int32.ofInt (x1)), .int (Int32.ofInt (x2)), v4] [.int (Int32.ofInt (y 4)), .int (Int32.ofInt (x2))] τ Q)
    : Ok 105 21 41 [.ref 85, .int (Int32.ofInt (x0)), .int (Int32.ofInt (x1)), .int (Int32.ofInt (x2)), v4] [] σ Q := by
  refine an_seg (B := pm_B) (F := []) (T := []) (S := []) (fun _ h => absurd h List.not_mem_nil) (k := 105) (d := 20) (cs := [46]) 7 41 4 [(0, 0, 9), (1, 0, 1023), (2, 1, 512), (3, 0, 9)] [(85, (1, 0, 1), (0, 3, 0))] [(2, 85, 0), (0, 0, 0), (0, 1, 0), (0, 2, 0), (5, 0, 0)] [] [(46, [(2, 85, 0), (0, 0, 0), (0, 1, 0), (0, 2, 0), (5, 0, 0)], [(0, 4, 0), (0, 2, 0)], [(0, 0, 9), (1, 0, 1023), (2, 1, 512), (3, 0, 9), (4, 1, 512)], [], [(6, (1, 0, 1), (0, 3, 0), 4)], [(85, (1, 0, 1), (0, 3, 0))])] (by decide +kernel) (ρ0 := (fun s => [x0, x1, x2, x3].getD s 0)) hB eF eC ⟨rfl, ⟨rfl, ⟨rfl, ⟨rfl, ⟨hv4, trivial⟩⟩⟩⟩⟩ trivial ?_
  refine List.forall_mem_cons.mpr ⟨?_, fun _ h => absurd h List.not_mem_nil⟩
  · intro ρ τ Lc stc hx g1 g2 g3 g4 g5 g6 g7 g8
    have e0 : ρ 0 = x0 := hx 0 (by decide)
    have e1 : ρ 1 = x1 := hx 1 (by decide)
    have e2 : ρ 2 = x2 := hx 2 (by decide)
    have e3 : ρ 3 = x3 := hx 3 (by decide)
    subst e0
    subst e1
    subst e2
    subst e3
    have g7 := g7 (by decide)
    match Lc, stc, g7, g8 with
    | [v0, v1, v2, v3, v4], [w0, w1], ⟨hv0, hv1, hv2, hv3, hv4, _⟩, ⟨hw0, hw1, _⟩ =>
      cases hv0
      cases hv1
      cases hv2
      cases hv3
      cases hw0
      cases hw1
      exact l0 τ ρ v4 hv4 g1 g2 g3 g4 g5 g6
set_option maxRecDepth 100000 in
theorem su_p47 {σ : pm_S} {Q : Option Value → pm_S → Prop} (x0 x1 x2 : Int) (v4 : Value) (hv4 : v4.category = 1) (hB : an_GB pm_B σ) (eF : (0 ≤ x0 ∧ x0 ≤ 9) ∧ (0 ≤ x1 ∧ x1 ≤ 1023) ∧ (1 ≤ x2 ∧ x2 ≤ 511) ∧ True)
    (l0 : ∀ (τ : pm_S) (y : Nat → Int), an_GB pm_B τ → FQ [] σ τ → ((0 ≤ x0 ∧ x0 ≤ 9) ∧ (0 ≤ x1 ∧ x1 ≤ 1023) ∧ (1 ≤ x2 ∧ x2 ≤ 511) ∧ True) → (True) → (True) → (True) → Ok 105 21 49 [.ref 85, .int (Int32.ofInt (x0)), .int (Int32.ofInt (x1)), .int (Int32.ofInt (x2)), .int (Int32.ofInt 0)] [] τ Q)
    : Ok 105 21 47 [.ref 85, .int (Int32.ofInt (x0)), .int (Int32.ofInt (x1)), .int (Int32.ofInt (x2)), v4] [] σ Q := by
  refine an_seg (B := pm_B) (F := []) (T := []) (S := []) (fun _ h => absurd h List.not_mem_nil) (k := 105) (d := 20) (cs := [49]) 4 47 3 [(0, 0, 9), (1, 0, 1023), (2, 1, 511)] [] [(2, 85, 0), (0, 0, 0), (0, 1, 0), (0, 2, 0), (5, 0, 0)] [] [(49, [(2, 85, 0), (0, 0, 0), (0, 1, 0), (0, 2, 0), (1, 0, 0)], [], [(0, 0, 9), (1, 0, 1023), (2, 1, 511)], [], [], [])] (by decide +kernel) (ρ0 := (fun s => [x0, x1, x2].getD s 0)) hB eF trivial ⟨rfl, ⟨rfl, ⟨rfl, ⟨rfl, ⟨hv4, trivial⟩⟩⟩⟩⟩ trivial ?_
  refine List.forall_mem_cons.mpr ⟨?_, fun _ h => absurd h List.not_mem_nil⟩
  · intro ρ τ Lc stc hx g1 g2 g3 g4 g5 g6 g7 g8
    have e0 : ρ 0 = x0 := hx 0 (by decide)
    have e1 : ρ 1 = x1 := hx 1 (by decide)
    have e2 : ρ 2 = x2 := hx 2 (by decide)
    subst e0
    subst e1
    subst e2
    have g7 := g7 (by decide)
    match Lc, stc, g7, g8 with
    | [v0, v1, v2, v3, v4], [], ⟨hv0, hv1, hv2, hv3, hv4, _⟩, _ =>
      cases hv0
      cases hv1
      cases hv2
      cases hv3
      cases hv4
      exact l0 τ ρ  g1 g2 g3 g4 g5 g6
set_option maxRecDepth 100000 in
theorem su_p49 {σ : pm_S} {Q : Option Value → pm_S → Prop} (x0 x1 x2 x3 x4 : Int)  (hB : an_GB pm_B σ) (eF : (0 ≤ x0 ∧ x0 ≤ 9) ∧ (0 ≤ x1 ∧ x1 ≤ 1023) ∧ (1 ≤ x2 ∧ x2 ≤ 511) ∧ (0 ≤ x3 ∧ x3 ≤ 9) ∧ (0 ≤ x4 ∧ x4 ≤ 9) ∧ True) (eC : (σ.1 85 1).toInt = x4 ∧ True)
    (l0 : ∀ (τ : pm_S) (y : Nat → Int), an_GB pm_B τ → FQ [] σ τ → ((0 ≤ x0 ∧ x0 ≤ 9) ∧ (0 ≤ x1 ∧ x1 ≤ 1023) ∧ (1 ≤ x2 ∧ x2 ≤ 511) ∧ (0 ≤ x3 ∧ x3 ≤ 9) ∧ (0 ≤ x4 ∧ x4 ≤ 9) ∧ True) → (True) → (True) → ((τ.1 85 1).toInt = x4 ∧ True) → Ok 105 21 52 [.ref 85, .int (Int32.ofInt (x0)), .int (Int32.ofInt (x1)), .int (Int32.ofInt (x2)), .int (Int32.ofInt (x3))] [.int (Int32.ofInt (x4)), .int (Int32.ofInt (x3))] τ Q)
    : Ok 105 21 49 [.ref 85, .int (Int32.ofInt (x0)), .int (Int32.ofInt (x1)), .int (Int32.ofInt (x2)), .int (Int32.ofInt (x3))] [] σ Q := by
  refine an_seg (B := pm_B) (F := []) (T := []) (S := []) (fun _ h => absurd h List.not_mem_nil) (k := 105) (d := 20) (cs := [52]) 5 49 5 [(0, 0, 9), (1, 0, 1023), (2, 1, 511), (3, 0, 9), (4, 0, 9)] [(85, (1, 0, 1), (0, 4, 0))] [(2, 85, 0), (0, 0, 0), (0, 1, 0), (0, 2, 0), (0, 3, 0)] [] [(52, [(2, 85, 0), (0, 0, 0), (0, 1, 0), (0, 2, 0), (0, 3, 0)], [(0, 4, 0), (0, 3, 0)], [(0, 0, 9), (1, 0, 1023), (2, 1, 511), (3, 0, 9), (4, 0, 9)], [], [], [(85, (1, 0, 1), (0, 4, 0))])] (by decide +kernel) (ρ0 := (fun s => [x0, x1, x2, x3, x4].getD s 0)) hB eF eC ⟨rfl, ⟨rfl, ⟨rfl, ⟨rfl, ⟨rfl, trivial⟩⟩⟩⟩⟩ trivial ?_
  refine List.forall_mem_cons.mpr ⟨?_, fun _ h => absurd h List.not_mem_nil⟩
  · intro ρ τ Lc stc hx g1 g2 g3 g4 g5 g6 g7 g8
    have e0 : ρ 0 = x0 := hx 0 (by decide)
    have e1 : ρ 1 = x1 := hx 1 (by decide)
    have e2 : ρ 2 = x2 := hx 2 (by decide)
    have e3 : ρ 3 = x3 := hx 3 (by decide)
    have e4 : ρ 4 = x4 := hx 4 (by decide)
    subst e0
    subst e1
    subst e2
    subst e3
    subst e4
    have g7 := g7 (by decide)
    match Lc, stc, g7, g8 with
    | [v0, v1, v2, v3, v4], [w0, w1], ⟨hv0, hv1, hv2, hv3, hv4, _⟩, ⟨hw0, hw1, _⟩ =>
      cases hv0
      cases hv1
      cases hv2
      cases hv3
      cases hv4
      cases hw0
      cases hw1
      exact l0 τ ρ  g1 g2 g3 g4 g5 g6
set_option maxRecDepth 100000 in
theorem su_p53 {σ : pm_S} {Q : Option Value → pm_S → Prop} (x0 x1 x2 x3 : Int)  (hB : an_GB pm_B σ) (eF : (0 ≤ x0 ∧ x0 ≤ 9) ∧ (0 ≤ x1 ∧ x1 ≤ 1023) ∧ (1 ≤ x2 ∧ x2 ≤ 511) ∧ (0 ≤ x3 ∧ x3 ≤ 8) ∧ True)
    (l0 : ∀ (τ : pm_S) (y : Nat → Int), an_GB pm_B τ → FQ [] σ τ → ((0 ≤ x0 ∧ x0 ≤ 9) ∧ (0 ≤ x1 ∧ x1 ≤ 1023) ∧ (1 ≤ x2 ∧ x2 ≤ 511) ∧ (0 ≤ x3 ∧ x3 ≤ 8) ∧ (0 ≤ y 4 ∧ y 4 ≤ 511) ∧ (0 ≤ y 5 ∧ y 5 ≤ 0) ∧ True) → (y 5 ≤ y 4 + 0 ∧ True) → ((an_f 7 (Int32.ofInt (x2)) (Int32.ofInt (x3))).toInt = y 4 ∧ (an_f 3 (Int32.ofInt (y 4)) (Int32.ofInt (1))).toInt = y 5 ∧ True) → (True) → Ok 105 21 75 [.ref 85, .int (Int32.ofInt (x0)), .int (Int32.ofInt (x1)), .int (Int32.ofInt (x2)), .int (Int32.ofInt (x3))] [] τ Q)
    (l1 : ∀ (τ : pm_S) (y : Nat → Int), an_GB pm_B τ → FQ [] σ τ → ((0 ≤ x0 ∧ x0 ≤ 9) ∧ (0 ≤ x1 ∧ x1 ≤ 1023) ∧ (1 ≤ x2 ∧ x2 ≤ 511) ∧ (0 ≤ x3 ∧ x3 ≤ 8) ∧ (0 ≤ y 4 ∧ y 4 ≤ 511) ∧ (1 ≤ y 5 ∧ y 5 ≤ 1) ∧ (9 ≤ y 6 ∧ y 6 ≤ 4599) ∧ (9 ≤ y 7 ∧ y 7 ≤ 4607) ∧ (1 ≤ y 8 ∧ y 8 ≤ 256) ∧ ((-257) ≤ y 9 ∧ y 9 ≤ (-2)) ∧ (0 ≤ y 10 ∧ y 10 ≤ 511) ∧ True) → (y 10 ≤ x2 + 0 ∧ y 5 ≤ y 4 + 0 ∧ True) → ((an_f 7 (Int32.ofInt (x2)) (Int32.ofInt (x3))).toInt = y 4 ∧ (an_f 3 (Int32.ofInt (y 4)) (Int32.ofInt (1))).toInt = y 5 ∧ (an_f 2 (Int32.ofInt (x2)) (Int32.ofInt (9))).toInt = y 6 ∧ (an_f 0 (Int32.ofInt (y 6)) (Int32.ofInt (x3))).toInt = y 7 ∧ (an_f 6 (Int32.ofInt (1)) (Int32.ofInt (x3))).toInt = y 8 ∧ (an_f 5 (Int32.ofInt (y 8)) (Int32.ofInt ((-1)))).toInt = y 9 ∧ (an_f 3 (Int32.ofInt (x2)) (Int32.ofInt (y 9))).toInt = y 10 ∧ True) → (True) → Ok 105 21 73 [.ref 85, .int (Int32.ofInt (x0)), .int (Int32.ofInt (x1)), .int (Int32.ofInt (x2)), .int (Int32.ofInt (x3))] [.int (Int32.ofInt (y 10)), .int (Int32.ofInt (x3)), .ref 85, .int (Int32.ofInt (y 7)), .ref 89] τ Q)
    : Ok 105 21 53 [.ref 85, .int (Int32.ofInt (x0)), .int (Int32.ofInt (x1)), .int (Int32.ofInt (x2)), .int (Int32.ofInt (x3))] [] σ Q := by
  refine an_seg (B := pm_B) (F := []) (T := []) (S := []) (fun _ h => absurd h List.not_mem_nil) (k := 105) (d := 20) (cs := [73, 75]) 32 53 4 [(0, 0, 9), (1, 0, 1023), (2, 1, 511), (3, 0, 8)] [] [(2, 85, 0), (0, 0, 0), (0, 1, 0), (0, 2, 0), (0, 3, 0)] [] [(75, [(2, 85, 0), (0, 0, 0), (0, 1, 0), (0, 2, 0), (0, 3, 0)], [], [(0, 0, 9), (1, 0, 1023), (2, 1, 511), (3, 0, 8), (4, 0, 511), (5, 0, 0)], [(1, 5, 4, 0)], [(7, (0, 2, 0), (0, 3, 0), 4), (3, (0, 4, 0), (1, 0, 1), 5)], []),
    (73, [(2, 85, 0), (0, 0, 0), (0, 1, 0), (0, 2, 0), (0, 3, 0)], [(0, 10, 0), (0, 3, 0), (2, 85, 0), (0, 7, 0), (2, 89, 0)], [(0, 0, 9), (1, 0, 1023), (2, 1, 511), (3, 0, 8), (4, 0, 511), (5, 1, 1), (6, 9, 4599), (7, 9, 4607), (8, 1, 256), (9, (-257), (-2)), (10, 0, 511)], [(1, 10, 2, 0), (1, 5, 4, 0)], [(7, (0, 2, 0), (0, 3, 0), 4), (3, (0, 4, 0), (1, 0, 1), 5), (2, (0, 2, 0), (1, 0, 9), 6), (0, (0, 6, 0), (0, 3, 0), 7), (6, (1, 0, 1), (0, 3, 0), 8), (5, (0, 8, 0), (1, 0, (-1)), 9), (3, (0, 2, 0), (0, 9, 0), 10)], [])] (by decide +kernel) (ρ0 := (fun s => [x0, x1, x2, x3].getD s 0)) hB eF trivial ⟨rfl, ⟨rfl, ⟨rfl, ⟨rfl, ⟨rfl, trivial⟩⟩⟩⟩⟩ trivial ?_
  refine List.forall_mem_cons.mpr ⟨?_, List.forall_mem_cons.mpr ⟨?_, fun _ h => absurd h List.not_mem_nil⟩⟩
  · intro ρ τ Lc stc hx g1 g2 g3 g4 g5 g6 g7 g8
    have e0 : ρ 0 = x0 := hx 0 (by decide)
    have e1 : ρ 1 = x1 := hx 1 (by decide)
    have e2 : ρ 2 = x2 := hx 2 (by decide)
    have e3 : ρ 3 = x3 := hx 3 (by decide)
    subst e0
    subst e1
    subst e2
    subst e3
    have g7 := g7 (by decide)
    match Lc, stc, g7, g8 with
    | [v0, v1, v2, v3, v4], [], ⟨hv0, hv1, hv2, hv3, hv4, _⟩, _ =>
      cases hv0
      cases hv1
      cases hv2
      cases hv3
      cases hv4
      exact l0 τ ρ  g1 g2 g3 g4 g5 g6
  · intro ρ τ Lc stc hx g1 g2 g3 g4 g5 g6 g7 g8
    have e0 : ρ 0 = x0 := hx 0 (by decide)
    have e1 : ρ 1 = x1 := hx 1 (by decide)
    have e2 : ρ 2 = x2 := hx 2 (by decide)
    have e3 : ρ 3 = x3 := hx 3 (by decide)
    subst e0
    subst e1
    subst e2
    subst e3
    have g7 := g7 (by decide)
    match Lc, stc, g7, g8 with
    | [v0, v1, v2, v3, v4], [w0, w1, w2, w3, w4], ⟨hv0, hv1, hv2, hv3, hv4, _⟩, ⟨hw0, hw1, hw2, hw3, hw4, _⟩ =>
      cases hv0
      cases hv1
      cases hv2
      cases hv3
      cases hv4
      cases hw0
      cases hw1
      cases hw2
      cases hw3
      cases hw4
      exact l1 τ ρ  g1 g2 g3 g4 g5 g6
set_option maxRecDepth 100000 in
theorem su_p75 {σ : pm_S} {Q : Option Value → pm_S → Prop} (x0 x1 x2 x3 : Int)  (hB : an_GB pm_B σ) (eF : (0 ≤ x0 ∧ x0 ≤ 9) ∧ (0 ≤ x1 ∧ x1 ≤ 1023) ∧ (1 ≤ x2 ∧ x2 ≤ 511) ∧ (0 ≤ x3 ∧ x3 ≤ 8) ∧ True)
    (l0 : ∀ (τ : pm_S) (y : Nat → Int), an_GB pm_B τ → FQ [] σ τ → ((0 ≤ x0 ∧ x0 ≤ 9) ∧ (0 ≤ x1 ∧ x1 ≤ 1023) ∧ (1 ≤ x2 ∧ x2 ≤ 511) ∧ (0 ≤ x3 ∧ x3 ≤ 8) ∧ True) → (True) → (True) → (True) → Ok 105 21 49 [.ref 85, .int (Int32.ofInt (x0)), .int (Int32.ofInt (x1)), .int (Int32.ofInt (x2)), .int (Int32.ofInt (x3 + 1))] [] τ Q)
    : Ok 105 21 75 [.ref 85, .int (Int32.ofInt (x0)), .int (Int32.ofInt (x1)), .int (Int32.ofInt (x2)), .int (Int32.ofInt (x3))] [] σ Q := by
  refine an_seg (B := pm_B) (F := []) (T := []) (S := []) (fun _ h => absurd h List.not_mem_nil) (k := 105) (d := 20) (cs := [49]) 4 75 4 [(0, 0, 9), (1, 0, 1023), (2, 1, 511), (3, 0, 8)] [] [(2, 85, 0), (0, 0, 0), (0, 1, 0), (0, 2, 0), (0, 3, 0)] [] [(49, [(2, 85, 0), (0, 0, 0), (0, 1, 0), (0, 2, 0), (0, 3, 1)], [], [(0, 0, 9), (1, 0, 1023), (2, 1, 511), (3, 0, 8)], [], [], [])] (by decide +kernel) (ρ0 := (fun s => [x0, x1, x2, x3].getD s 0)) hB eF trivial ⟨rfl, ⟨rfl, ⟨rfl, ⟨rfl, ⟨rfl, trivial⟩⟩⟩⟩⟩ trivial ?_
  refine List.forall_mem_cons.mpr ⟨?_, fun _ h => absurd h List.not_mem_nil⟩
  · intro ρ τ Lc stc hx g1 g2 g3 g4 g5 g6 g7 g8
    have e0 : ρ 0 = x0 := hx 0 (by decide)
    have e1 : ρ 1 = x1 := hx 1 (by decide)
    have e2 : ρ 2 = x2 := hx 2 (by decide)
    have e3 : ρ 3 = x3 := hx 3 (by decide)
    subst e0
    subst e1
    subst e2
    subst e3
    have g7 := g7 (by decide)
    match Lc, stc, g7, g8 with
    | [v0, v1, v2, v3, v4], [], ⟨hv0, hv1, hv2, hv3, hv4, _⟩, _ =>
      cases hv0
      cases hv1
      cases hv2
      cases hv3
      cases hv4
      exact l0 τ ρ  g1 g2 g3 g4 g5 g6
set_option maxRecDepth 100000 in
theorem su_p77 {σ : pm_S} {Q : Option Value → pm_S → Prop} (x0 x1 x2 x3 : Int)  (hB : an_GB pm_B σ) (eF : (0 ≤ x0 ∧ x0 ≤ 9) ∧ (0 ≤ x1 ∧ x1 ≤ 1023) ∧ (1 ≤ x2 ∧ x2 ≤ 511) ∧ (0 ≤ x3 ∧ x3 ≤ 9) ∧ True)
    (l0 : ∀ (τ : pm_S) (y : Nat → Int), an_GB pm_B τ → FQ [] σ τ → ((0 ≤ x0 ∧ x0 ≤ 9) ∧ (0 ≤ x1 ∧ x1 ≤ 1023) ∧ (1 ≤ x2 ∧ x2 ≤ 511) ∧ (0 ≤ x3 ∧ x3 ≤ 9) ∧ True) → (True) → (True) → (True) → Ok 105 21 41 [.ref 85, .int (Int32.ofInt (x0)), .int (Int32.ofInt (x1)), .int (Int32.ofInt (x2 + 1)), .int (Int32.ofInt (x3))] [] τ Q)
    : Ok 105 21 77 [.ref 85, .int (Int32.ofInt (x0)), .int (Int32.ofInt (x1)), .int (Int32.ofInt (x2)), .int (Int32.ofInt (x3))] [] σ Q := by
  refine an_seg (B := pm_B) (F := []) (T := []) (S := []) (fun _ h => absurd h List.not_mem_nil) (k := 105) (d := 20) (cs := [41]) 4 77 4 [(0, 0, 9), (1, 0, 1023), (2, 1, 511), (3, 0, 9)] [] [(2, 85, 0), (0, 0, 0), (0, 1, 0), (0, 2, 0), (0, 3, 0)] [] [(41, [(2, 85, 0), (0, 0, 0), (0, 1, 0), (0, 2, 1), (0, 3, 0)], [], [(0, 0, 9), (1, 0, 1023), (2, 1, 511), (3, 0, 9)], [], [], [])] (by decide +kernel) (ρ0 := (fun s => [x0, x1, x2, x3].getD s 0)) hB eF trivial ⟨rfl, ⟨rfl, ⟨rfl, ⟨rfl, ⟨rfl, trivial⟩⟩⟩⟩⟩ trivial ?_
  refine List.forall_mem_cons.mpr ⟨?_, fun _ h => absurd h List.not_mem_nil⟩
  · intro ρ τ Lc stc hx g1 g2 g3 g4 g5 g6 g7 g8
    have e0 : ρ 0 = x0 := hx 0 (by decide)
    have e1 : ρ 1 = x1 := hx 1 (by decide)
    have e2 : ρ 2 = x2 := hx 2 (by decide)
    have e3 : ρ 3 = x3 := hx 3 (by decide)
    subst e0
    subst e1
    subst e2
    subst e3
    have g7 := g7 (by decide)
    match Lc, stc, g7, g8 with
    | [v0, v1, v2, v3, v4], [], ⟨hv0, hv1, hv2, hv3, hv4, _⟩, _ =>
      cases hv0
      cases hv1
      cases hv2
      cases hv3
      cases hv4
      exact l0 τ ρ  g1 g2 g3 g4 g5 g6
set_option maxRecDepth 100000 in
theorem su_p79 {σ : pm_S} {Q : Option Value → pm_S → Prop} (x0 x1 x2 : Int) (v4 : Value) (hv4 : v4.category = 1) (hB : an_GB pm_B σ) (eF : (0 ≤ x0 ∧ x0 ≤ 9) ∧ (0 ≤ x1 ∧ x1 ≤ 1023) ∧ (1 ≤ x2 ∧ x2 ≤ 512) ∧ True)
    (l0 : ∀ (τ : pm_S) (y : Nat → Int), an_GB pm_B τ → FQ [] σ τ → ((0 ≤ x0 ∧ x0 ≤ 9) ∧ (0 ≤ x1 ∧ x1 ≤ 1023) ∧ (1 ≤ x2 ∧ x2 ≤ 512) ∧ True) → (True) → (True) → (True) → Q none τ)
    : Ok 105 21 79 [.ref 85, .int (Int32.ofInt (x0)), .int (Int32.ofInt (x1)), .int (Int32.ofInt (x2)), v4] [] σ Q := by
  refine an_seg (B := pm_B) (F := []) (T := []) (S := []) (fun _ h => absurd h List.not_mem_nil) (k := 105) (d := 20) (cs := []) 3 79 3 [(0, 0, 9), (1, 0, 1023), (2, 1, 512)] [] [(2, 85, 0), (0, 0, 0), (0, 1, 0), (0, 2, 0), (5, 0, 0)] [] [(9999, [], [], [(0, 0, 9), (1, 0, 1023), (2, 1, 512)], [], [], [])] (by decide +kernel) (ρ0 := (fun s => [x0, x1, x2].getD s 0)) hB eF trivial ⟨rfl, ⟨rfl, ⟨rfl, ⟨rfl, ⟨hv4, trivial⟩⟩⟩⟩⟩ trivial ?_
  refine List.forall_mem_cons.mpr ⟨?_, fun _ h => absurd h List.not_mem_nil⟩
  · intro ρ τ Lc stc hx g1 g2 g3 g4 g5 g6 g7 g8
    have e0 : ρ 0 = x0 := hx 0 (by decide)
    have e1 : ρ 1 = x1 := hx 1 (by decide)
    have e2 : ρ 2 = x2 := hx 2 (by decide)
    subst e0
    subst e1
    subst e2
    match stc, g8 with
    | [], _ => exact l0 τ ρ g1 g2 g3 g4 g5 g6
set_option maxRecDepth 100000 in
theorem su_m0 {σ : pm_S} {Q : Option Value → pm_S → Prop} (x0 : Int) (v2 : Value) (v3 : Value) (v4 : Value) (hv2 : v2.category = 1) (hv3 : v3.category = 1) (hv4 : v4.category = 1) (hB : an_GB pm_B σ) (eF : (0 ≤ x0 ∧ x0 ≤ 1023) ∧ True)
    (l0 : ∀ (τ : pm_S) (y : Nat → Int) (v4 : Value), v4.category = 1 → an_GB pm_B τ → FQ [] σ τ → ((0 ≤ x0 ∧ x0 ≤ 1023) ∧ True) → (True) → (True) → (True) → Ok 108 21 4 [.ref 85, .int (Int32.ofInt (x0)), .int (Int32.ofInt 0), .int (Int32.ofInt 0), v4] [] τ Q)
    : Ok 108 21 0 [.ref 85, .int (Int32.ofInt (x0)), v2, v3, v4] [] σ Q := by
  refine an_seg (B := pm_B) (F := []) (T := []) (S := []) (fun _ h => absurd h List.not_mem_nil) (k := 108) (d := 20) (cs := [4]) 6 0 1 [(0, 0, 1023)] [] [(2, 85, 0), (0, 0, 0), (5, 0, 0), (5, 0, 0), (5, 0, 0)] [] [(4, [(2, 85, 0), (0, 0, 0), (1, 0, 0), (1, 0, 0), (5, 0, 0)], [], [(0, 0, 1023)], [], [], [])] (by decide +kernel) (ρ0 := (fun s => [x0].getD s 0)) hB eF trivial ⟨rfl, ⟨rfl, ⟨hv2, ⟨hv3, ⟨hv4, trivial⟩⟩⟩⟩⟩ trivial ?_
  refine List.forall_mem_cons.mpr ⟨?_, fun _ h => absurd h List.not_mem_nil⟩
  · intro ρ τ Lc stc hx g1 g2 g3 g4 g5 g6 g7 g8
    have e0 : ρ 0 = x0 := hx 0 (by decide)
    subst e0
    have g7 := g7 (by decide)
    match Lc, stc, g7, g8 with
    | [v0, v1, v2, v3, v4], [], ⟨hv0, hv1, hv2, hv3, hv4, _⟩, _ =>
      cases hv0
      cases hv1
      cases hv2
      cases hv3
      exact l0 τ ρ v4 hv4 g1 g2 g3 g4 g5 g6
set_option maxRecDepth 100000 in
theorem su_m4 {σ : pm_S} {Q : Option Value → pm_S → Prop} (x0 x1 x2 x3 : Int) (v4 : Value) (hv4 : v4.category = 1) (hB : an_GB pm_B σ) (eF : (0 ≤ x0 ∧ x0 ≤ 1023) ∧ (0 ≤ x1 ∧ x1 ≤ 511) ∧ (0 ≤ x2 ∧ x2 ≤ 9) ∧ (0 ≤ x3 ∧ x3 ≤ 9) ∧ True) (eC : (σ.1 85 1).toInt = x3 ∧ True)
    (l0 : ∀ (τ : pm_S) (y : Nat → Int) (v4 : Value), v4.category = 1 → an_GB pm_B τ → FQ [] σ τ → ((0 ≤ x0 ∧ x0 ≤ 1023) ∧ (0 ≤ x1 ∧ x1 ≤ 511) ∧ (0 ≤ x2 ∧ x2 ≤ 9) ∧ (0 ≤ x3 ∧ x3 ≤ 9) ∧ True) → (True) → (True) → ((τ.1 85 1).toInt = x3 ∧ True) → Ok 108 21 7 [.ref 85, .int (Int32.ofInt (x0)), .int (Int32.ofInt (x1)), .int (Int32.ofInt (x2)), v4] [.int (Int32.ofInt (x3)), .int (Int32.ofInt (x2))] τ Q)
    : Ok 108 21 4 [.ref 85, .int (Int32.ofInt (x0)), .int (Int32.ofInt (x1)), .int (Int32.ofInt (x2)), v4] [] σ Q := by
  refine an_seg (B := pm_B) (F := []) (T := []) (S := []) (fun _ h => absurd h List.not_mem_nil) (k := 108) (d := 20) (cs := [7]) 5 4 4 [(0, 0, 1023), (1, 0, 511), (2, 0, 9), (3, 0, 9)] [(85, (1, 0, 1), (0, 3, 0))] [(2, 85, 0), (0, 0, 0), (0, 1, 0), (0, 2, 0), (5, 0, 0)] [] [(7, [(2, 85, 0), (0, 0, 0), (0, 1, 0), (0, 2, 0), (5, 0, 0)], [(0, 3, 0), (0, 2, 0)], [(0, 0, 1023), (1, 0, 511), (2, 0, 9), (3, 0, 9)], [], [], [(85, (1, 0, 1), (0, 3, 0))])] (by decide +kernel) (ρ0 := (fun s => [x0, x1, x2, x3].getD s 0)) hB eF eC ⟨rfl, ⟨rfl, ⟨rfl, ⟨rfl, ⟨hv4, trivial⟩⟩⟩⟩⟩ trivial ?_
  refine List.forall_mem_cons.mpr ⟨?_, fun _ h => absurd h List.not_mem_nil⟩
  · intro ρ τ Lc stc hx g1 g2 g3 g4 g5 g6 g7 g8
    have e0 : ρ 0 = x0 := hx 0 (by decide)
    have e1 : ρ 1 = x1 := hx 1 (by decide)
    have e2 : ρ 2 = x2 := hx 2 (by decide)
    have e3 : ρ 3 = x3 := hx 3 (by decide)
    subst e0
    subst e1
    subst e2
    subst e3
    have g7 := g7 (by decide)
    match Lc, stc, g7, g8 with
    | [v0, v1, v2, v3, v4], [w0, w1], ⟨hv0, hv1, hv2, hv3, hv4, _⟩, ⟨hw0, hw1, _⟩ =>
      cases hv0
      cases hv1
      cases hv2
      cases hv3
      cases hw0
      cases hw1
      exact l0 τ ρ v4 hv4 g1 g2 g3 g4 g5 g6
set_option maxRecDepth 100000 in
theorem su_m8 {σ : pm_S} {Q : Option Value → pm_S → Prop} (x0 x1 x2 : Int) (v4 : Value) (hv4 : v4.category = 1) (hB : an_GB pm_B σ) (eF : (0 ≤ x0 ∧ x0 ≤ 1023) ∧ (0 ≤ x1 ∧ x1 ≤ 511) ∧ (0 ≤ x2 ∧ x2 ≤ 8) ∧ True)
    (l0 : ∀ (τ : pm_S) (y : Nat → Int) (v4 : Value), v4.category = 1 → an_GB pm_B τ → FQ [] σ τ → ((0 ≤ x0 ∧ x0 ≤ 1023) ∧ (0 ≤ x1 ∧ x1 ≤ 511) ∧ (0 ≤ x2 ∧ x2 ≤ 8) ∧ (0 ≤ y 3 ∧ y 3 ≤ 9) ∧ (0 ≤ y 4 ∧ y 4 ≤ 1023) ∧ (0 ≤ y 5 ∧ y 5 ≤ 0) ∧ (0 ≤ y 6 ∧ y 6 ≤ 511) ∧ True) → (y 5 ≤ y 4 + 0 ∧ True) → ((an_f 7 (Int32.ofInt (x0)) (Int32.ofInt (y 3))).toInt = y 4 ∧ (an_f 3 (Int32.ofInt (y 4)) (Int32.ofInt (1))).toInt = y 5 ∧ (an_f 4 (Int32.ofInt (x1)) (Int32.ofInt (0))).toInt = y 6 ∧ True) → ((τ.1 86 (x2).toNat).toInt = y 3 ∧ True) → Ok 108 21 4 [.ref 85, .int (Int32.ofInt (x0)), .int (Int32.ofInt (y 6)), .int (Int32.ofInt (x2 + 1)), v4] [] τ Q)
    (l1 : ∀ (τ : pm_S) (y : Nat → Int) (v4 : Value), v4.category = 1 → an_GB pm_B τ → FQ [] σ τ → ((0 ≤ x0 ∧ x0 ≤ 1023) ∧ (0 ≤ x1 ∧ x1 ≤ 511) ∧ (0 ≤ x2 ∧ x2 ≤ 8) ∧ (0 ≤ y 3 ∧ y 3 ≤ 9) ∧ (0 ≤ y 4 ∧ y 4 ≤ 1023) ∧ (1 ≤ y 5 ∧ y 5 ≤ 1) ∧ (1 ≤ y 6 ∧ y 6 ≤ 256) ∧ (0 ≤ y 7 ∧ y 7 ≤ 511) ∧ True) → (y 5 ≤ y 4 + 0 ∧ True) → ((an_f 7 (Int32.ofInt (x0)) (Int32.ofInt (y 3))).toInt = y 4 ∧ (an_f 3 (Int32.ofInt (y 4)) (Int32.ofInt (1))).toInt = y 5 ∧ (an_f 6 (Int32.ofInt (1)) (Int32.ofInt (x2))).toInt = y 6 ∧ (an_f 4 (Int32.ofInt (x1)) (Int32.ofInt (y 6))).toInt = y 7 ∧ True) → ((τ.1 86 (x2).toNat).toInt = y 3 ∧ True) → Ok 108 21 4 [.ref 85, .int (Int32.ofInt (x0)), .int (Int32.ofInt (y 7)), .int (Int32.ofInt (x2 + 1)), v4] [] τ Q)
    : Ok 108 21 8 [.ref 85, .int (Int32.ofInt (x0)), .int (Int32.ofInt (x1)), .int (Int32.ofInt (x2)), v4] [] σ Q := by
  refine an_seg (B := pm_B) (F := []) (T := [86]) (S := []) (fun _ h => absurd h List.not_mem_nil) (k := 108) (d := 20) (cs := [4]) 28 8 3 [(0, 0, 1023), (1, 0, 511), (2, 0, 8)] [] [(2, 85, 0), (0, 0, 0), (0, 1, 0), (0, 2, 0), (5, 0, 0)] [] [(4, [(2, 85, 0), (0, 0, 0), (0, 6, 0), (0, 2, 1), (5, 0, 0)], [], [(0, 0, 1023), (1, 0, 511), (2, 0, 8), (3, 0, 9), (4, 0, 1023), (5, 0, 0), (6, 0, 511)], [(1, 5, 4, 0)], [(7, (0, 0, 0), (0, 3, 0), 4), (3, (0, 4, 0), (1, 0, 1), 5), (4, (0, 1, 0), (1, 0, 0), 6)], [(86, (0, 2, 0), (0, 3, 0))]),
    (4, [(2, 85, 0), (0, 0, 0), (0, 7, 0), (0, 2, 1), (5, 0, 0)], [], [(0, 0, 1023), (1, 0, 511), (2, 0, 8), (3, 0, 9), (4, 0, 1023), (5, 1, 1), (6, 1, 256), (7, 0, 511)], [(1, 5, 4, 0)], [(7, (0, 0, 0), (0, 3, 0), 4), (3, (0, 4, 0), (1, 0, 1), 5), (6, (1, 0, 1), (0, 2, 0), 6), (4, (0, 1, 0), (0, 6, 0), 7)], [(86, (0, 2, 0), (0, 3, 0))])] (by decide +kernel) (ρ0 := (fun s => [x0, x1, x2].getD s 0)) hB eF trivial ⟨rfl, ⟨rfl, ⟨rfl, ⟨rfl, ⟨hv4, trivial⟩⟩⟩⟩⟩ trivial ?_
  refine List.forall_mem_cons.mpr ⟨?_, List.forall_mem_cons.mpr ⟨?_, fun _ h => absurd h List.not_mem_nil⟩⟩
  · intro ρ τ Lc stc hx g1 g2 g3 g4 g5 g6 g7 g8
    have e0 : ρ 0 = x0 := hx 0 (by decide)
    have e1 : ρ 1 = x1 := hx 1 (by decide)
    have e2 : ρ 2 = x2 := hx 2 (by decide)
    subst e0
    subst e1
    subst e2
    have g7 := g7 (by decide)
    match Lc, stc, g7, g8 with
    | [v0, v1, v2, v3, v4], [], ⟨hv0, hv1, hv2, hv3, hv4, _⟩, _ =>
      cases hv0
      cases hv1
      cases hv2
      cases hv3
      exact l0 τ ρ v4 hv4 g1 g2 g3 g4 g5 g6
  · intro ρ τ Lc stc hx g1 g2 g3 g4 g5 g6 g7 g8
    have e0 : ρ 0 = x0 := hx 0 (by decide)
    have e1 : ρ 1 = x1 := hx 1 (by decide)
    have e2 : ρ 2 = x2 := hx 2 (by decide)
    subst e0
    subst e1
    subst e2
    have g7 := g7 (by decide)
    match Lc, stc, g7, g8 with
    | [v0, v1, v2, v3, v4], [], ⟨hv0, hv1, hv2, hv3, hv4, _⟩, _ =>
      cases hv0
      cases hv1
      cases hv2
      cases hv3
      exact l1 τ ρ v4 hv4 g1 g2 g3 g4 g5 g6
set_option maxRecDepth 100000 in
theorem su_m25 {σ : pm_S} {Q : Option Value → pm_S → Prop} (x0 x1 x2 : Int) (v4 : Value) (hv4 : v4.category = 1) (hB : an_GB pm_B σ) (eF : (0 ≤ x0 ∧ x0 ≤ 1023) ∧ (0 ≤ x1 ∧ x1 ≤ 511) ∧ (0 ≤ x2 ∧ x2 ≤ 9) ∧ True)
    (l0 : ∀ (τ : pm_S) (y : Nat → Int), an_GB pm_B τ → FQ [] σ τ → ((0 ≤ x0 ∧ x0 ≤ 1023) ∧ (1 ≤ x1 ∧ x1 ≤ 511) ∧ (0 ≤ x2 ∧ x2 ≤ 9) ∧ True) → (True) → (True) → (True) → Ok 108 21 33 [.ref 85, .int (Int32.ofInt (x0)), .int (Int32.ofInt (x1)), .int (Int32.ofInt 1073741824), .int (Int32.ofInt 0)] [] τ Q)
    (l1 : ∀ (τ : pm_S) (y : Nat → Int), an_GB pm_B τ → FQ [] σ τ → ((0 ≤ x0 ∧ x0 ≤ 1023) ∧ (0 ≤ x1 ∧ x1 ≤ 0) ∧ (0 ≤ x2 ∧ x2 ≤ 9) ∧ True) → (True) → (True) → (True) → Q (some (.int (Int32.ofInt 0))) τ)
    : Ok 108 21 25 [.ref 85, .int (Int32.ofInt (x0)), .int (Int32.ofInt (x1)), .int (Int32.ofInt (x2)), v4] [] σ Q := by
  refine an_seg (B := pm_B) (F := []) (T := []) (S := []) (fun _ h => absurd h List.not_mem_nil) (k := 108) (d := 20) (cs := [33]) 8 25 3 [(0, 0, 1023), (1, 0, 511), (2, 0, 9)] [] [(2, 85, 0), (0, 0, 0), (0, 1, 0), (0, 2, 0), (5, 0, 0)] [] [(33, [(2, 85, 0), (0, 0, 0), (0, 1, 0), (1, 0, 1073741824), (1, 0, 0)], [], [(0, 0, 1023), (1, 1, 511), (2, 0, 9)], [], [], []),
    (9999, [], [(1, 0, 0)], [(0, 0, 1023), (1, 0, 0), (2, 0, 9)], [], [], [])] (by decide +kernel) (ρ0 := (fun s => [x0, x1, x2].getD s 0)) hB eF trivial ⟨rfl, ⟨rfl, ⟨rfl, ⟨rfl, ⟨hv4, trivial⟩⟩⟩⟩⟩ trivial ?_
  refine List.forall_mem_cons.mpr ⟨?_, List.forall_mem_cons.mpr ⟨?_, fun _ h => absurd h List.not_mem_nil⟩⟩
  · intro ρ τ Lc stc hx g1 g2 g3 g4 g5 g6 g7 g8
    have e0 : ρ 0 = x0 := hx 0 (by decide)
    have e1 : ρ 1 = x1 := hx 1 (by decide)
    have e2 : ρ 2 = x2 := hx 2 (by decide)
    subst e0
    subst e1
    subst e2
    have g7 := g7 (by decide)
    match Lc, stc, g7, g8 with
    | [v0, v1, v2, v3, v4], [], ⟨hv0, hv1, hv2, hv3, hv4, _⟩, _ =>
      cases hv0
      cases hv1
      cases hv2
      cases hv3
      cases hv4
      exact l0 τ ρ  g1 g2 g3 g4 g5 g6
  · intro ρ τ Lc stc hx g1 g2 g3 g4 g5 g6 g7 g8
    have e0 : ρ 0 = x0 := hx 0 (by decide)
    have e1 : ρ 1 = x1 := hx 1 (by decide)
    have e2 : ρ 2 = x2 := hx 2 (by decide)
    subst e0
    subst e1
    subst e2
    match stc, g8 with
    | [_], ⟨h, _⟩ => cases h; exact l1 τ ρ g1 g2 g3 g4 g5 g6
set_option maxRecDepth 100000 in
theorem su_m33 {σ : pm_S} {Q : Option Value → pm_S → Prop} (x0 x1 x2 x3 x4 : Int)  (hB : an_GB pm_B σ) (eF : (0 ≤ x0 ∧ x0 ≤ 1023) ∧ (1 ≤ x1 ∧ x1 ≤ 511) ∧ (0 ≤ x2 ∧ x2 ≤ 1073741824) ∧ (0 ≤ x3 ∧ x3 ≤ 9) ∧ (0 ≤ x4 ∧ x4 ≤ 9) ∧ True) (eC : (σ.1 85 1).toInt = x4 ∧ True)
    (l0 : ∀ (τ : pm_S) (y : Nat → Int), an_GB pm_B τ → FQ [] σ τ → ((0 ≤ x0 ∧ x0 ≤ 1023) ∧ (1 ≤ x1 ∧ x1 ≤ 511) ∧ (0 ≤ x2 ∧ x2 ≤ 1073741824) ∧ (0 ≤ x3 ∧ x3 ≤ 9) ∧ (0 ≤ x4 ∧ x4 ≤ 9) ∧ True) → (True) → (True) → ((τ.1 85 1).toInt = x4 ∧ True) → Ok 108 21 36 [.ref 85, .int (Int32.ofInt (x0)), .int (Int32.ofInt (x1)), .int (Int32.ofInt (x2)), .int (Int32.ofInt (x3))] [.int (Int32.ofInt (x4)), .int (Int32.ofInt (x3))] τ Q)
    : Ok 108 21 33 [.ref 85, .int (Int32.ofInt (x0)), .int (Int32.ofInt (x1)), .int (Int32.ofInt (x2)), .int (Int32.ofInt (x3))] [] σ Q := by
  refine an_seg (B := pm_B) (F := []) (T := []) (S := []) (fun _ h => absurd h List.not_mem_nil) (k := 108) (d := 20) (cs := [36]) 5 33 5 [(0, 0, 1023), (1, 1, 511), (2, 0, 1073741824), (3, 0, 9), (4, 0, 9)] [(85, (1, 0, 1), (0, 4, 0))] [(2, 85, 0), (0, 0, 0), (0, 1, 0), (0, 2, 0), (0, 3, 0)] [] [(36, [(2, 85, 0), (0, 0, 0), (0, 1, 0), (0, 2, 0), (0, 3, 0)], [(0, 4, 0), (0, 3, 0)], [(0, 0, 1023), (1, 1, 511), (2, 0, 1073741824), (3, 0, 9), (4, 0, 9)], [], [], [(85, (1, 0, 1), (0, 4, 0))])] (by decide +kernel) (ρ0 := (fun s => [x0, x1, x2, x3, x4].getD s 0)) hB eF eC ⟨rfl, ⟨rfl, ⟨rfl, ⟨rfl, ⟨rfl, trivial⟩⟩⟩⟩⟩ trivial ?_
  refine List.forall_mem_cons.mpr ⟨?_, fun _ h => absurd h List.not_mem_nil⟩
  · intro ρ τ Lc stc hx g1 g2 g3 g4 g5 g6 g7 g8
    have e0 : ρ 0 = x0 := hx 0 (by decide)
    have e1 : ρ 1 = x1 := hx 1 (by decide)
    have e2 : ρ 2 = x2 := hx 2 (by decide)
    have e3 : ρ 3 = x3 := hx 3 (by decide)
    have e4 : ρ 4 = x4 := hx 4 (by decide)
    subst e0
    subst e1
    subst e2
    subst e3
    subst e4
    have g7 := g7 (by decide)
    match Lc, stc, g7, g8 with
    | [v0, v1, v2, v3, v4], [w0, w1], ⟨hv0, hv1, hv2, hv3, hv4, _⟩, ⟨hw0, hw1, _⟩ =>
      cases hv0
      cases hv1
      cases hv2
      cases hv3
      cases hv4
      cases hw0
      cases hw1
      exact l0 τ ρ  g1 g2 g3 g4 g5 g6
set_option maxRecDepth 100000 in
theorem su_m37 {σ : pm_S} {Q : Option Value → pm_S → Prop} (x0 x1 x2 x3 : Int)  (hB : an_GB pm_B σ) (eF : (0 ≤ x0 ∧ x0 ≤ 1023) ∧ (1 ≤ x1 ∧ x1 ≤ 511) ∧ (0 ≤ x2 ∧ x2 ≤ 1073741824) ∧ (0 ≤ x3 ∧ x3 ≤ 8) ∧ True)
    (l0 : ∀ (τ : pm_S) (y : Nat → Int), an_GB pm_B τ → FQ [] σ τ → ((0 ≤ x0 ∧ x0 ≤ 1023) ∧ (1 ≤ x1 ∧ x1 ≤ 511) ∧ (0 ≤ x2 ∧ x2 ≤ 1073741824) ∧ (0 ≤ x3 ∧ x3 ≤ 8) ∧ (0 ≤ y 4 ∧ y 4 ≤ 511) ∧ (0 ≤ y 5 ∧ y 5 ≤ 0) ∧ True) → (y 5 ≤ y 4 + 0 ∧ True) → ((an_f 7 (Int32.ofInt (x1)) (Int32.ofInt (x3))).toInt = y 4 ∧ (an_f 3 (Int32.ofInt (y 4)) (Int32.ofInt (1))).toInt = y 5 ∧ True) → (True) → Ok 108 21 33 [.ref 85, .int (Int32.ofInt (x0)), .int (Int32.ofInt (x1)), .int (Int32.ofInt (x2)), .int (Int32.ofInt (x3 + 1))] [] τ Q)
    (l1 : ∀ (τ : pm_S) (y : Nat → Int), an_GB pm_B τ → FQ [] σ τ → ((0 ≤ x0 ∧ x0 ≤ 1023) ∧ (1 ≤ x1 ∧ x1 ≤ 511) ∧ (0 ≤ x2 ∧ x2 ≤ 1073741824) ∧ (0 ≤ x3 ∧ x3 ≤ 8) ∧ (0 ≤ y 4 ∧ y 4 ≤ 511) ∧ (1 ≤ y 5 ∧ y 5 ≤ 1) ∧ (9 ≤ y 6 ∧ y 6 ≤ 4599) ∧ (9 ≤ y 7 ∧ y 7 ≤ 4607) ∧ ((-2147483648) ≤ y 8 ∧ y 8 ≤ 2147483647) ∧ ((-2147483648) ≤ y 9 ∧ y 9 ≤ 2147483647) ∧ ((-2147483648) ≤ y 10 ∧ y 10 ≤ 2147483647) ∧ ((-2147483648) ≤ y 11 ∧ y 11 ≤ 1073741824) ∧ True) → (y 5 ≤ y 4 + 0 ∧ True) → ((an_f 7 (Int32.ofInt (x1)) (Int32.ofInt (x3))).toInt = y 4 ∧ (an_f 3 (Int32.ofInt (y 4)) (Int32.ofInt (1))).toInt = y 5 ∧ (an_f 2 (Int32.ofInt (x1)) (Int32.ofInt (9))).toInt = y 6 ∧ (an_f 0 (Int32.ofInt (y 6)) (Int32.ofInt (x3))).toInt = y 7 ∧ (an_f 0 (Int32.ofInt (y 8)) (Int32.ofInt (y 9))).toInt = y 10 ∧ (an_f 11 (Int32.ofInt (x2)) (Int32.ofInt (y 10))).toInt = y 11 ∧ True) → ((τ.1 88 (x3).toNat).toInt = y 9 ∧ (τ.1 89 (y 7).toNat).toInt = y 8 ∧ True) → Ok 108 21 33 [.ref 85, .int (Int32.ofInt (x0)), .int (Int32.ofInt (x1)), .int (Int32.ofInt (y 11)), .int (Int32.ofInt (x3 + 1))] [] τ Q)
    : Ok 108 21 37 [.ref 85, .int (Int32.ofInt (x0)), .int (Int32.ofInt (x1)), .int (Int32.ofInt (x2)), .int (Int32.ofInt (x3))] [] σ Q := by
  refine an_seg (B := pm_B) (F := []) (T := [88, 89]) (S := []) (fun _ h => absurd h List.not_mem_nil) (k := 108) (d := 20) (cs := [33]) 34 37 4 [(0, 0, 1023), (1, 1, 511), (2, 0, 1073741824), (3, 0, 8)] [] [(2, 85, 0), (0, 0, 0), (0, 1, 0), (0, 2, 0), (0, 3, 0)] [] [(33, [(2, 85, 0), (0, 0, 0), (0, 1, 0), (0, 2, 0), (0, 3, 1)], [], [(0, 0, 1023), (1, 1, 511), (2, 0, 1073741824), (3, 0, 8), (4, 0, 511), (5, 0, 0)], [(1, 5, 4, 0)], [(7, (0, 1, 0), (0, 3, 0), 4), (3, (0, 4, 0), (1, 0, 1), 5)], []),
    (33, [(2, 85, 0), (0, 0, 0), (0, 1, 0), (0, 11, 0), (0, 3, 1)], [], [(0, 0, 1023), (1, 1, 511), (2, 0, 1073741824), (3, 0, 8), (4, 0, 511), (5, 1, 1), (6, 9, 4599), (7, 9, 4607), (8, (-2147483648), 2147483647), (9, (-2147483648), 2147483647), (10, (-2147483648), 2147483647), (11, (-2147483648), 1073741824)], [(1, 5, 4, 0)], [(7, (0, 1, 0), (0, 3, 0), 4), (3, (0, 4, 0), (1, 0, 1), 5), (2, (0, 1, 0), (1, 0, 9), 6), (0, (0, 6, 0), (0, 3, 0), 7), (0, (0, 8, 0), (0, 9, 0), 10), (11, (0, 2, 0), (0, 10, 0), 11)], [(88, (0, 3, 0), (0, 9, 0)), (89, (0, 7, 0), (0, 8, 0))])] (by decide +kernel) (ρ0 := (fun s => [x0, x1, x2, x3].getD s 0)) hB eF trivial ⟨rfl, ⟨rfl, ⟨rfl, ⟨rfl, ⟨rfl, trivial⟩⟩⟩⟩⟩ trivial ?_
  refine List.forall_mem_cons.mpr ⟨?_, List.forall_mem_cons.mpr ⟨?_, fun _ h => absurd h List.not_mem_nil⟩⟩
  · intro ρ τ Lc stc hx g1 g2 g3 g4 g5 g6 g7 g8
    have e0 : ρ 0 = x0 := hx 0 (by decide)
    have e1 : ρ 1 = x1 := hx 1 (by decide)
    have e2 : ρ 2 = x2 := hx 2 (by decide)
    have e3 : ρ 3 = x3 := hx 3 (by decide)
    subst e0
    subst e1
    subst e2
    subst e3
    have g7 := g7 (by decide)
    match Lc, stc, g7, g8 with
    | [v0, v1, v2, v3, v4], [], ⟨hv0, hv1, hv2, hv3, hv4, _⟩, _ =>
      cases hv0
      cases hv1
      cases hv2
      cases hv3
      cases hv4
      exact l0 τ ρ  g1 g2 g3 g4 g5 g6
  · intro ρ τ Lc stc hx g1 g2 g3 g4 g5 g6 g7 g8
    have e0 : ρ 0 = x0 := hx 0 (by decide)
    have e1 : ρ 1 = x1 := hx 1 (by decide)
    have e2 : ρ 2 = x2 := hx 2 (by decide)
    have e3 : ρ 3 = x3 := hx 3 (by decide)
    subst e0
    subst e1
    subst e2
    subst e3
    have g7 := g7 (by decide)
    match Lc, stc, g7, g8 with
    | [v0, v1, v2, v3, v4], [], ⟨hv0, hv1, hv2, hv3, hv4, _⟩, _ =>
      cases hv0
      cases hv1
      cases hv2
      cases hv3
      cases hv4
      exact l1 τ ρ  g1 g2 g3 g4 g5 g6
set_option maxRecDepth 100000 in
theorem su_m59 {σ : pm_S} {Q : Option Value → pm_S → Prop} (x0 x1 x2 x3 : Int)  (hB : an_GB pm_B σ) (eF : (0 ≤ x0 ∧ x0 ≤ 1023) ∧ (1 ≤ x1 ∧ x1 ≤ 511) ∧ (0 ≤ x2 ∧ x2 ≤ 1073741824) ∧ (0 ≤ x3 ∧ x3 ≤ 9) ∧ True)
    (l0 : ∀ (τ : pm_S) (y : Nat → Int), an_GB pm_B τ → FQ [] σ τ → ((0 ≤ x0 ∧ x0 ≤ 1023) ∧ (1 ≤ x1 ∧ x1 ≤ 511) ∧ (0 ≤ x2 ∧ x2 ≤ 1073741824) ∧ (0 ≤ x3 ∧ x3 ≤ 9) ∧ True) → (True) → (True) → (True) → Q (some (.int (Int32.ofInt (x2)))) τ)
    : Ok 108 21 59 [.ref 85, .int (Int32.ofInt (x0)), .int (Int32.ofInt (x1)), .int (Int32.ofInt (x2)), .int (Int32.ofInt (x3))] [] σ Q := by
  refine an_seg (B := pm_B) (F := []) (T := []) (S := []) (fun _ h => absurd h List.not_mem_nil) (k := 108) (d := 20) (cs := []) 4 59 4 [(0, 0, 1023), (1, 1, 511), (2, 0, 1073741824), (3, 0, 9)] [] [(2, 85, 0), (0, 0, 0), (0, 1, 0), (0, 2, 0), (0, 3, 0)] [] [(9999, [], [(0, 2, 0)], [(0, 0, 1023), (1, 1, 511), (2, 0, 1073741824), (3, 0, 9)], [], [], [])] (by decide +kernel) (ρ0 := (fun s => [x0, x1, x2, x3].getD s 0)) hB eF trivial ⟨rfl, ⟨rfl, ⟨rfl, ⟨rfl, ⟨rfl, trivial⟩⟩⟩⟩⟩ trivial ?_
  refine List.forall_mem_cons.mpr ⟨?_, fun _ h => absurd h List.not_mem_nil⟩
  · intro ρ τ Lc stc hx g1 g2 g3 g4 g5 g6 g7 g8
    have e0 : ρ 0 = x0 := hx 0 (by decide)
    have e1 : ρ 1 = x1 := hx 1 (by decide)
    have e2 : ρ 2 = x2 := hx 2 (by decide)
    have e3 : ρ 3 = x3 := hx 3 (by decide)
    subst e0
    subst e1
    subst e2
    subst e3
    match stc, g8 with
    | [_], ⟨h, _⟩ => cases h; exact l0 τ ρ g1 g2 g3 g4 g5 g6
set_option maxRecDepth 100000 in
theorem su_t0 {σ : pm_S} {Q : Option Value → pm_S → Prop} (x0 x1 : Int)  (hB : an_GB pm_B σ) (eF : ((-2147483648) ≤ x0 ∧ x0 ≤ 2147483647) ∧ ((-2147483648) ≤ x1 ∧ x1 ≤ 2147483647) ∧ True)
    (l0 : ∀ (τ : pm_S) (y : Nat → Int), an_GB pm_B τ → FQ [] σ τ → (((-2147483648) ≤ x0 ∧ x0 ≤ 2147483647) ∧ ((-2147483648) ≤ x1 ∧ x1 ≤ 2147483647) ∧ True) → (True) → (True) → (True) → Ok 145 23 4 [.ref 0, .int (Int32.ofInt (x0)), .int (Int32.ofInt (x1))] [.int (Int32.ofInt (x0)), .ref 3] τ Q)
    : Ok 145 23 0 [.ref 0, .int (Int32.ofInt (x0)), .int (Int32.ofInt (x1))] [] σ Q := by
  refine an_seg (B := pm_B) (F := []) (T := []) (S := []) (fun _ h => absurd h List.not_mem_nil) (k := 145) (d := 22) (cs := [4]) 6 0 2 [(0, (-2147483648), 2147483647), (1, (-2147483648), 2147483647)] [] [(2, 0, 0), (0, 0, 0), (0, 1, 0)] [] [(4, [(2, 0, 0), (0, 0, 0), (0, 1, 0)], [(0, 0, 0), (2, 3, 0)], [(0, (-2147483648), 2147483647), (1, (-2147483648), 2147483647)], [], [], [])] (by decide +kernel) (ρ0 := (fun s => [x0, x1].getD s 0)) hB eF trivial ⟨rfl, ⟨rfl, ⟨rfl, trivial⟩⟩⟩ trivial ?_
  refine List.forall_mem_cons.mpr ⟨?_, fun _ h => absurd h List.not_mem_nil⟩
  · intro ρ τ Lc stc hx g1 g2 g3 g4 g5 g6 g7 g8
    have e0 : ρ 0 = x0 := hx 0 (by decide)
    have e1 : ρ 1 = x1 := hx 1 (by decide)
    subst e0
    subst e1
    have g7 := g7 (by decide)
    match Lc, stc, g7, g8 with
    | [v0, v1, v2], [w0, w1], ⟨hv0, hv1, hv2, _⟩, ⟨hw0, hw1, _⟩ =>
      cases hv0
      cases hv1
      cases hv2
      cases hw0
      cases hw1
      exact l0 τ ρ  g1 g2 g3 g4 g5 g6
set_option maxRecDepth 100000 in
theorem su_t5n {σ : pm_S} {Q : Option Value → pm_S → Prop} (v1 : Value) (v2 : Value) (hv1 : v1.category = 1) (hv2 : v2.category = 1) (hB : an_GB pm_B σ)
    (l0 : ∀ (τ : pm_S) (y : Nat → Int), an_GB pm_B τ → FQ [] σ τ → (True) → (True) → (True) → (True) → Q (some (.int (Int32.ofInt (-1)))) τ)
    : Ok 145 23 5 [.ref 0, v1, v2] [.int (Int32.ofInt 0)] σ Q := by
  refine an_seg (B := pm_B) (F := []) (T := []) (S := []) (fun _ h => absurd h List.not_mem_nil) (k := 145) (d := 22) (cs := []) 5 5 0 [] [] [(2, 0, 0), (5, 0, 0), (5, 0, 0)] [(1, 0, 0)] [(9999, [], [(1, 0, (-1))], [], [], [], [])] (by decide +kernel) (ρ0 := (fun s => [].getD s 0)) hB trivial trivial ⟨rfl, ⟨hv1, ⟨hv2, trivial⟩⟩⟩ ⟨rfl, trivial⟩ ?_
  refine List.forall_mem_cons.mpr ⟨?_, fun _ h => absurd h List.not_mem_nil⟩
  · intro ρ τ Lc stc hx g1 g2 g3 g4 g5 g6 g7 g8
    match stc, g8 with
    | [_], ⟨h, _⟩ => cases h; exact l0 τ ρ g1 g2 g3 g4 g5 g6
set_option maxRecDepth 100000 in
theorem su_t5 {σ : pm_S} {Q : Option Value → pm_S → Prop} (x0 x1 x2 : Int)  (hB : an_GB pm_B σ) (eF : (0 ≤ x0 ∧ x0 ≤ 9) ∧ ((-2147483648) ≤ x1 ∧ x1 ≤ 2147483647) ∧ (0 ≤ x2 ∧ x2 ≤ 10) ∧ True) (eC : (σ.1 3 0).toInt = x2 ∧ True)
    (l0 : ∀ (τ : pm_S) (y : Nat → Int), an_GB pm_B τ → FQ [] σ τ → ((0 ≤ x0 ∧ x0 ≤ 9) ∧ ((-2147483648) ≤ x1 ∧ x1 ≤ 2147483647) ∧ (0 ≤ x2 ∧ x2 ≤ 10) ∧ True) → (True) → (True) → ((τ.1 3 0).toInt = x2 ∧ True) → Ok 145 23 11 [.ref 0, .int (Int32.ofInt (x0)), .int (Int32.ofInt (x1))] [.int (Int32.ofInt (x2)), .int (Int32.ofInt (x1))] τ Q)
    : Ok 145 23 5 [.ref 0, .int (Int32.ofInt (x0)), .int (Int32.ofInt (x1))] [.int (Int32.ofInt 1)] σ Q := by
  refine an_seg (B := pm_B) (F := []) (T := []) (S := []) (fun _ h => absurd h List.not_mem_nil) (k := 145) (d := 22) (cs := [11]) 8 5 3 [(0, 0, 9), (1, (-2147483648), 2147483647), (2, 0, 10)] [(3, (1, 0, 0), (0, 2, 0))] [(2, 0, 0), (0, 0, 0), (0, 1, 0)] [(1, 0, 1)] [(11, [(2, 0, 0), (0, 0, 0), (0, 1, 0)], [(0, 2, 0), (0, 1, 0)], [(0, 0, 9), (1, (-2147483648), 2147483647), (2, 0, 10)], [], [], [(3, (1, 0, 0), (0, 2, 0))])] (by decide +kernel) (ρ0 := (fun s => [x0, x1, x2].getD s 0)) hB eF eC ⟨rfl, ⟨rfl, ⟨rfl, trivial⟩⟩⟩ ⟨rfl, trivial⟩ ?_
  refine List.forall_mem_cons.mpr ⟨?_, fun _ h => absurd h List.not_mem_nil⟩
  · intro ρ τ Lc stc hx g1 g2 g3 g4 g5 g6 g7 g8
    have e0 : ρ 0 = x0 := hx 0 (by decide)
    have e1 : ρ 1 = x1 := hx 1 (by decide)
    have e2 : ρ 2 = x2 := hx 2 (by decide)
    subst e0
    subst e1
    subst e2
    have g7 := g7 (by decide)
    match Lc, stc, g7, g8 with
    | [v0, v1, v2], [w0, w1], ⟨hv0, hv1, hv2, _⟩, ⟨hw0, hw1, _⟩ =>
      cases hv0
      cases hv1
      cases hv2
      cases hw0
      cases hw1
      exact l0 τ ρ  g1 g2 g3 g4 g5 g6
set_option maxRecDepth 100000 in
theorem su_t12n {σ : pm_S} {Q : Option Value → pm_S → Prop} (v1 : Value) (v2 : Value) (hv1 : v1.category = 1) (hv2 : v2.category = 1) (hB : an_GB pm_B σ)
    (l0 : ∀ (τ : pm_S) (y : Nat → Int), an_GB pm_B τ → FQ [] σ τ → (True) → (True) → (True) → (True) → Q (some (.int (Int32.ofInt (-1)))) τ)
    : Ok 145 23 12 [.ref 0, v1, v2] [.int (Int32.ofInt 0)] σ Q := by
  refine an_seg (B := pm_B) (F := []) (T := []) (S := []) (fun _ h => absurd h List.not_mem_nil) (k := 145) (d := 22) (cs := []) 5 12 0 [] [] [(2, 0, 0), (5, 0, 0), (5, 0, 0)] [(1, 0, 0)] [(9999, [], [(1, 0, (-1))], [], [], [], [])] (by decide +kernel) (ρ0 := (fun s => [].getD s 0)) hB trivial trivial ⟨rfl, ⟨hv1, ⟨hv2, trivial⟩⟩⟩ ⟨rfl, trivial⟩ ?_
  refine List.forall_mem_cons.mpr ⟨?_, fun _ h => absurd h List.not_mem_nil⟩
  · intro ρ τ Lc stc hx g1 g2 g3 g4 g5 g6 g7 g8
    match stc, g8 with
    | [_], ⟨h, _⟩ => cases h; exact l0 τ ρ g1 g2 g3 g4 g5 g6
set_option maxRecDepth 100000 in
theorem su_t12 {σ : pm_S} {Q : Option Value → pm_S → Prop} (x0 x1 : Int)  (hB : an_GB pm_B σ) (eF : (0 ≤ x0 ∧ x0 ≤ 9) ∧ (0 ≤ x1 ∧ x1 ≤ 1023) ∧ True)
    (l0 : ∀ (τ : pm_S) (y : Nat → Int), an_GB pm_B τ → FQ [] σ τ → ((0 ≤ x0 ∧ x0 ≤ 9) ∧ (0 ≤ x1 ∧ x1 ≤ 1023) ∧ True) → (True) → (True) → (True) → Ok 145 23 19 [.ref 0, .int (Int32.ofInt (x0)), .int (Int32.ofInt (x1))] [.int (Int32.ofInt (x1)), .int (Int32.ofInt (x0)), .ref 85] τ Q)
    : Ok 145 23 12 [.ref 0, .int (Int32.ofInt (x0)), .int (Int32.ofInt (x1))] [.int (Int32.ofInt 1)] σ Q := by
  refine an_seg (B := pm_B) (F := []) (T := []) (S := []) (fun _ h => absurd h List.not_mem_nil) (k := 145) (d := 22) (cs := [19]) 7 12 2 [(0, 0, 9), (1, 0, 1023)] [] [(2, 0, 0), (0, 0, 0), (0, 1, 0)] [(1, 0, 1)] [(19, [(2, 0, 0), (0, 0, 0), (0, 1, 0)], [(0, 1, 0), (0, 0, 0), (2, 85, 0)], [(0, 0, 9), (1, 0, 1023)], [], [], [])] (by decide +kernel) (ρ0 := (fun s => [x0, x1].getD s 0)) hB eF trivial ⟨rfl, ⟨rfl, ⟨rfl, trivial⟩⟩⟩ ⟨rfl, trivial⟩ ?_
  refine List.forall_mem_cons.mpr ⟨?_, fun _ h => absurd h List.not_mem_nil⟩
  · intro ρ τ Lc stc hx g1 g2 g3 g4 g5 g6 g7 g8
    have e0 : ρ 0 = x0 := hx 0 (by decide)
    have e1 : ρ 1 = x1 := hx 1 (by decide)
    subst e0
    subst e1
    have g7 := g7 (by decide)
    match Lc, stc, g7, g8 with
    | [v0, v1, v2], [w0, w1, w2], ⟨hv0, hv1, hv2, _⟩, ⟨hw0, hw1, hw2, _⟩ =>
      cases hv0
      cases hv1
      cases hv2
      cases hw0
      cases hw1
      cases hw2
      exact l0 τ ρ  g1 g2 g3 g4 g5 g6
set_option maxRecDepth 100000 in
theorem su_t20 {σ : pm_S} {Q : Option Value → pm_S → Prop} (x0 x1 : Int)  (hB : an_GB pm_B σ) (eF : (0 ≤ x0 ∧ x0 ≤ 9) ∧ (0 ≤ x1 ∧ x1 ≤ 1023) ∧ True)
    (l0 : ∀ (τ : pm_S) (y : Nat → Int), an_GB pm_B τ → FQ [] σ τ → ((0 ≤ x0 ∧ x0 ≤ 9) ∧ (0 ≤ x1 ∧ x1 ≤ 1023) ∧ True) → (True) → (True) → (True) → Ok 145 23 23 [.ref 0, .int (Int32.ofInt (x0)), .int (Int32.ofInt (x1))] [.int (Int32.ofInt (x1)), .ref 85] τ Q)
    : Ok 145 23 20 [.ref 0, .int (Int32.ofInt (x0)), .int (Int32.ofInt (x1))] [] σ Q := by
  refine an_seg (B := pm_B) (F := []) (T := []) (S := []) (fun _ h => absurd h List.not_mem_nil) (k := 145) (d := 22) (cs := [23]) 5 20 2 [(0, 0, 9), (1, 0, 1023)] [] [(2, 0, 0), (0, 0, 0), (0, 1, 0)] [] [(23, [(2, 0, 0), (0, 0, 0), (0, 1, 0)], [(0, 1, 0), (2, 85, 0)], [(0, 0, 9), (1, 0, 1023)], [], [], [])] (by decide +kernel) (ρ0 := (fun s => [x0, x1].getD s 0)) hB eF trivial ⟨rfl, ⟨rfl, ⟨rfl, trivial⟩⟩⟩ trivial ?_
  refine List.forall_mem_cons.mpr ⟨?_, fun _ h => absurd h List.not_mem_nil⟩
  · intro ρ τ Lc stc hx g1 g2 g3 g4 g5 g6 g7 g8
    have e0 : ρ 0 = x0 := hx 0 (by decide)
    have e1 : ρ 1 = x1 := hx 1 (by decide)
    subst e0
    subst e1
    have g7 := g7 (by decide)
    match Lc, stc, g7, g8 with
    | [v0, v1, v2], [w0, w1], ⟨hv0, hv1, hv2, _⟩, ⟨hw0, hw1, _⟩ =>
      cases hv0
      cases hv1
      cases hv2
      cases hw0
      cases hw1
      exact l0 τ ρ  g1 g2 g3 g4 g5 g6
set_option maxRecDepth 100000 in
theorem su_t24 {σ : pm_S} {Q : Option Value → pm_S → Prop} (x0 x1 x2 : Int)  (hB : an_GB pm_B σ) (eF : (0 ≤ x0 ∧ x0 ≤ 9) ∧ (0 ≤ x1 ∧ x1 ≤ 1023) ∧ ((-2147483648) ≤ x2 ∧ x2 ≤ 2147483647) ∧ True)
    (l0 : ∀ (τ : pm_S) (y : Nat → Int), an_GB pm_B τ → FQ [] σ τ → ((0 ≤ x0 ∧ x0 ≤ 9) ∧ (0 ≤ x1 ∧ x1 ≤ 1023) ∧ ((-2147483648) ≤ x2 ∧ x2 ≤ 2147483647) ∧ True) → (True) → (True) → (True) → Q (some (.int (Int32.ofInt (x2)))) τ)
    : Ok 145 23 24 [.ref 0, .int (Int32.ofInt (x0)), .int (Int32.ofInt (x1))] [.int (Int32.ofInt (x2))] σ Q := by
  refine an_seg (B := pm_B) (F := []) (T := []) (S := []) (fun _ h => absurd h List.not_mem_nil) (k := 145) (d := 22) (cs := []) 3 24 3 [(0, 0, 9), (1, 0, 1023), (2, (-2147483648), 2147483647)] [] [(2, 0, 0), (0, 0, 0), (0, 1, 0)] [(0, 2, 0)] [(9999, [], [(0, 2, 0)], [(0, 0, 9), (1, 0, 1023), (2, (-2147483648), 2147483647)], [], [], [])] (by decide +kernel) (ρ0 := (fun s => [x0, x1, x2].getD s 0)) hB eF trivial ⟨rfl, ⟨rfl, ⟨rfl, trivial⟩⟩⟩ ⟨rfl, trivial⟩ ?_
  refine List.forall_mem_cons.mpr ⟨?_, fun _ h => absurd h List.not_mem_nil⟩
  · intro ρ τ Lc stc hx g1 g2 g3 g4 g5 g6 g7 g8
    have e0 : ρ 0 = x0 := hx 0 (by decide)
    have e1 : ρ 1 = x1 := hx 1 (by decide)
    have e2 : ρ 2 = x2 := hx 2 (by decide)
    subst e0
    subst e1
    subst e2
    match stc, g8 with
    | [_], ⟨h, _⟩ => cases h; exact l0 τ ρ g1 g2 g3 g4 g5 g6
set_option maxRecDepth 100000 in
theorem su_so0 {σ : pm_S} {Q : Option Value → pm_S → Prop} (x0 x1 : Int)  (hB : an_GB pm_B σ) (eF : ((-2147483648) ≤ x0 ∧ x0 ≤ 2147483647) ∧ (0 ≤ x1 ∧ x1 ≤ 10) ∧ True)
    (l0 : ∀ (τ : pm_S) (y : Nat → Int), an_GB pm_B τ → FQ [] σ τ → (((-2147483648) ≤ x0 ∧ x0 ≤ (-1)) ∧ (0 ≤ x1 ∧ x1 ≤ 10) ∧ True) → (True) → (True) → (True) → Q (some (.int (Int32.ofInt 0))) τ)
    (l1 : ∀ (τ : pm_S) (y : Nat → Int), an_GB pm_B τ → FQ [] σ τ → ((0 ≤ x0 ∧ x0 ≤ 2147483647) ∧ (0 ≤ x1 ∧ x1 ≤ 10) ∧ (1 ≤ y 2 ∧ y 2 ≤ 1024) ∧ True) → (True) → ((an_f 6 (Int32.ofInt (1)) (Int32.ofInt (x1))).toInt = y 2 ∧ True) → (True) → Ok 155 9 6 [.int (Int32.ofInt (x0)), .int (Int32.ofInt (x1))] [.int (Int32.ofInt (y 2)), .int (Int32.ofInt (x0))] τ Q)
    : Ok 155 9 0 [.int (Int32.ofInt (x0)), .int (Int32.ofInt (x1))] [] σ Q := by
  refine an_seg (B := pm_B) (F := []) (T := []) (S := []) (fun _ h => absurd h List.not_mem_nil) (k := 155) (d := 8) (cs := [6]) 8 0 2 [(0, (-2147483648), 2147483647), (1, 0, 10)] [] [(0, 0, 0), (0, 1, 0)] [] [(9999, [], [(1, 0, 0)], [(0, (-2147483648), (-1)), (1, 0, 10)], [], [], []),
    (6, [(0, 0, 0), (0, 1, 0)], [(0, 2, 0), (0, 0, 0)], [(0, 0, 2147483647), (1, 0, 10), (2, 1, 1024)], [], [(6, (1, 0, 1), (0, 1, 0), 2)], [])] (by decide +kernel) (ρ0 := (fun s => [x0, x1].getD s 0)) hB eF trivial ⟨rfl, ⟨rfl, trivial⟩⟩ trivial ?_
  refine List.forall_mem_cons.mpr ⟨?_, List.forall_mem_cons.mpr ⟨?_, fun _ h => absurd h List.not_mem_nil⟩⟩
  · intro ρ τ Lc stc hx g1 g2 g3 g4 g5 g6 g7 g8
    have e0 : ρ 0 = x0 := hx 0 (by decide)
    have e1 : ρ 1 = x1 := hx 1 (by decide)
    subst e0
    subst e1
    match stc, g8 with
    | [_], ⟨h, _⟩ => cases h; exact l0 τ ρ g1 g2 g3 g4 g5 g6
  · intro ρ τ Lc stc hx g1 g2 g3 g4 g5 g6 g7 g8
    have e0 : ρ 0 = x0 := hx 0 (by decide)
    have e1 : ρ 1 = x1 := hx 1 (by decide)
    subst e0
    subst e1
    have g7 := g7 (by decide)
    match Lc, stc, g7, g8 with
    | [v0, v1], [w0, w1], ⟨hv0, hv1, _⟩, ⟨hw0, hw1, _⟩ =>
      cases hv0
      cases hv1
      cases hw0
      cases hw1
      exact l1 τ ρ  g1 g2 g3 g4 g5 g6
set_option maxRecDepth 100000 in
theorem su_so7 {σ : pm_S} {Q : Option Value → pm_S → Prop} (x0 x1 : Int)  (hB : an_GB pm_B σ) (eF : (0 ≤ x0 ∧ x0 ≤ 2147483647) ∧ (0 ≤ x1 ∧ x1 ≤ 10) ∧ True)
    (l0 : ∀ (τ : pm_S) (y : Nat → Int), an_GB pm_B τ → FQ [] σ τ → ((0 ≤ x0 ∧ x0 ≤ 2147483647) ∧ (0 ≤ x1 ∧ x1 ≤ 10) ∧ True) → (True) → (True) → (True) → Q (some (.int (Int32.ofInt 1))) τ)
    : Ok 155 9 7 [.int (Int32.ofInt (x0)), .int (Int32.ofInt (x1))] [] σ Q := by
  refine an_seg (B := pm_B) (F := []) (T := []) (S := []) (fun _ h => absurd h List.not_mem_nil) (k := 155) (d := 8) (cs := []) 5 7 2 [(0, 0, 2147483647), (1, 0, 10)] [] [(0, 0, 0), (0, 1, 0)] [] [(9999, [], [(1, 0, 1)], [(0, 0, 2147483647), (1, 0, 10)], [], [], [])] (by decide +kernel) (ρ0 := (fun s => [x0, x1].getD s 0)) hB eF trivial ⟨rfl, ⟨rfl, trivial⟩⟩ trivial ?_
  refine List.forall_mem_cons.mpr ⟨?_, fun _ h => absurd h List.not_mem_nil⟩
  · intro ρ τ Lc stc hx g1 g2 g3 g4 g5 g6 g7 g8
    have e0 : ρ 0 = x0 := hx 0 (by decide)
    have e1 : ρ 1 = x1 := hx 1 (by decide)
    subst e0
    subst e1
    match stc, g8 with
    | [_], ⟨h, _⟩ => cases h; exact l0 τ ρ g1 g2 g3 g4 g5 g6
set_option maxRecDepth 100000 in
theorem su_so9 {σ : pm_S} {Q : Option Value → pm_S → Prop} (x0 x1 : Int)  (hB : an_GB pm_B σ) (eF : (0 ≤ x0 ∧ x0 ≤ 2147483647) ∧ (0 ≤ x1 ∧ x1 ≤ 10) ∧ True)
    (l0 : ∀ (τ : pm_S) (y : Nat → Int), an_GB pm_B τ → FQ [] σ τ → ((0 ≤ x0 ∧ x0 ≤ 2147483647) ∧ (0 ≤ x1 ∧ x1 ≤ 10) ∧ True) → (True) → (True) → (True) → Q (some (.int (Int32.ofInt 0))) τ)
    : Ok 155 9 9 [.int (Int32.ofInt (x0)), .int (Int32.ofInt (x1))] [] σ Q := by
  refine an_seg (B := pm_B) (F := []) (T := []) (S := []) (fun _ h => absurd h List.not_mem_nil) (k := 155) (d := 8) (cs := []) 4 9 2 [(0, 0, 2147483647), (1, 0, 10)] [] [(0, 0, 0), (0, 1, 0)] [] [(9999, [], [(1, 0, 0)], [(0, 0, 2147483647), (1, 0, 10)], [], [], [])] (by decide +kernel) (ρ0 := (fun s => [x0, x1].getD s 0)) hB eF trivial ⟨rfl, ⟨rfl, trivial⟩⟩ trivial ?_
  refine List.forall_mem_cons.mpr ⟨?_, fun _ h => absurd h List.not_mem_nil⟩
  · intro ρ τ Lc stc hx g1 g2 g3 g4 g5 g6 g7 g8
    have e0 : ρ 0 = x0 := hx 0 (by decide)
    have e1 : ρ 1 = x1 := hx 1 (by decide)
    subst e0
    subst e1
    match stc, g8 with
    | [_], ⟨h, _⟩ => cases h; exact l0 τ ρ g1 g2 g3 g4 g5 g6
