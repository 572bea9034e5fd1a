/-! the model's tour: pieces -/
set_option maxRecDepth 100000 in
theorem sv_mo0 {σ : pm_S} {Q : Option Value → pm_S → Prop} (x0 x1 : Int)  (hB : an_GB pm_B σ) (eF : (0 ≤ x0 ∧ x0 ≤ 9) ∧ (0 ≤ x1 ∧ x1 ≤ 9) ∧ True)
    (l0 : ∀ (τ : pm_S) (y : Nat → Int), an_GB pm_B τ → FQ [] σ τ → ((0 ≤ x0 ∧ x0 ≤ 9) ∧ (0 ≤ x1 ∧ x1 ≤ 9) ∧ True) → (True) → (True) → (True) → Ok 165 9 2 [.ref 93, .int (Int32.ofInt (x0)), .int (Int32.ofInt (x1))] [.int (Int32.ofInt (x1)), .int (Int32.ofInt (x0))] τ Q)
    : Ok 165 9 0 [.ref 93, .int (Int32.ofInt (x0)), .int (Int32.ofInt (x1))] [] σ Q := by
  refine an_seg (B := pm_B) (F := []) (T := []) (S := []) (fun _ h => absurd h List.not_mem_nil) (k := 165) (d := 8) (cs := [2]) 4 0 2 [(0, 0, 9), (1, 0, 9)] [] [(2, 93, 0), (0, 0, 0), (0, 1, 0)] [] [(2, [(2, 93, 0), (0, 0, 0), (0, 1, 0)], [(0, 1, 0), (0, 0, 0)], [(0, 0, 9), (1, 0, 9)], [], [], [])] (by decide +kernel) (ρ0 := (fun s => [x0, x1].getD s 0)) hB eF trivial ⟨rfl, ⟨rfl, ⟨rfl, trivial⟩⟩⟩ trivial ?_
  refine List.forall_mem_cons.mpr ⟨?_, fun _ h => absurd h List.not_mem_nil⟩
  · intro ρ τ Lc stc hx g1 g2 g3 g4 g5 g6 g7 g8
    have e0 : ρ 0 = x0 := hx 0 (by decide)
    have e1 : ρ 1 = x1 := hx 1 (by decide)
    subst e0
    subst e1
    have g7 := g7 (by decide)
    match Lc, stc, g7, g8 with
    | [v0, v1, v2], [w0, w1], ⟨hv0, hv1, hv2, _⟩, ⟨hw0, hw1, _⟩ =>
      cases hv0
      cases hv1
      cases hv2
      cases hw0
      cases hw1
      exact l0 τ ρ  g1 g2 g3 g4 g5 g6
set_option maxRecDepth 100000 in
theorem sv_mo3 {σ : pm_S} {Q : Option Value → pm_S → Prop} (x0 x1 : Int)  (hB : an_GB pm_B σ) (eF : (0 ≤ x0 ∧ x0 ≤ 9) ∧ (0 ≤ x1 ∧ x1 ≤ 9) ∧ True)
    (l0 : ∀ (τ : pm_S) (y : Nat → Int), an_GB pm_B τ → FQ [] σ τ → ((0 ≤ x0 ∧ x0 ≤ 9) ∧ (0 ≤ x1 ∧ x1 ≤ 9) ∧ True) → (True) → (True) → (True) → Q (some (.int (Int32.ofInt 0))) τ)
    : Ok 165 9 3 [.ref 93, .int (Int32.ofInt (x0)), .int (Int32.ofInt (x1))] [] σ Q := by
  refine an_seg (B := pm_B) (F := []) (T := []) (S := []) (fun _ h => absurd h List.not_mem_nil) (k := 165) (d := 8) (cs := []) 5 3 2 [(0, 0, 9), (1, 0, 9)] [] [(2, 93, 0), (0, 0, 0), (0, 1, 0)] [] [(9999, [], [(1, 0, 0)], [(0, 0, 9), (1, 0, 9)], [], [], [])] (by decide +kernel) (ρ0 := (fun s => [x0, x1].getD s 0)) hB eF trivial ⟨rfl, ⟨rfl, ⟨rfl, trivial⟩⟩⟩ trivial ?_
  refine List.forall_mem_cons.mpr ⟨?_, fun _ h => absurd h List.not_mem_nil⟩
  · intro ρ τ Lc stc hx g1 g2 g3 g4 g5 g6 g7 g8
    have e0 : ρ 0 = x0 := hx 0 (by decide)
    have e1 : ρ 1 = x1 := hx 1 (by decide)
    subst e0
    subst e1
    match stc, g8 with
    | [_], ⟨h, _⟩ => cases h; exact l0 τ ρ g1 g2 g3 g4 g5 g6
set_option maxRecDepth 100000 in
theorem sv_mo5 {σ : pm_S} {Q : Option Value → pm_S → Prop} (x0 x1 : Int)  (hB : an_GB pm_B σ) (eF : (0 ≤ x0 ∧ x0 ≤ 9) ∧ (0 ≤ x1 ∧ x1 ≤ 9) ∧ True)
    (l0 : ∀ (τ : pm_S) (y : Nat → Int), an_GB pm_B τ → FQ [] σ τ → ((0 ≤ x0 ∧ x0 ≤ 9) ∧ (0 ≤ x1 ∧ x1 ≤ 9) ∧ (0 ≤ y 2 ∧ y 2 ≤ 90) ∧ (0 ≤ y 3 ∧ y 3 ≤ 99) ∧ ((-9) ≤ y 4 ∧ y 4 ≤ 90) ∧ True) → (True) → ((an_f 2 (Int32.ofInt (10)) (Int32.ofInt (x0))).toInt = y 2 ∧ (an_f 0 (Int32.ofInt (y 2)) (Int32.ofInt (x1))).toInt = y 3 ∧ True) → ((τ.1 95 (y 3).toNat).toInt = y 4 ∧ True) → Q (some (.int (Int32.ofInt (y 4 + 9)))) τ)
    : Ok 165 9 5 [.ref 93, .int (Int32.ofInt (x0)), .int (Int32.ofInt (x1))] [] σ Q := by
  refine an_seg (B := pm_B) (F := []) (T := [95]) (S := []) (fun _ h => absurd h List.not_mem_nil) (k := 165) (d := 8) (cs := []) 13 5 2 [(0, 0, 9), (1, 0, 9)] [] [(2, 93, 0), (0, 0, 0), (0, 1, 0)] [] [(9999, [], [(0, 4, 9)], [(0, 0, 9), (1, 0, 9), (2, 0, 90), (3, 0, 99), (4, (-9), 90)], [], [(2, (1, 0, 10), (0, 0, 0), 2), (0, (0, 2, 0), (0, 1, 0), 3)], [(95, (0, 3, 0), (0, 4, 0))])] (by decide +kernel) (ρ0 := (fun s => [x0, x1].getD s 0)) hB eF trivial ⟨rfl, ⟨rfl, ⟨rfl, trivial⟩⟩⟩ trivial ?_
  refine List.forall_mem_cons.mpr ⟨?_, fun _ h => absurd h List.not_mem_nil⟩
  · intro ρ τ Lc stc hx g1 g2 g3 g4 g5 g6 g7 g8
    have e0 : ρ 0 = x0 := hx 0 (by decide)
    have e1 : ρ 1 = x1 := hx 1 (by decide)
    subst e0
    subst e1
    match stc, g8 with
    | [_], ⟨h, _⟩ => cases h; exact l0 τ ρ g1 g2 g3 g4 g5 g6
set_option maxRecDepth 100000 in
theorem sv_f0 {σ : pm_S} {Q : Option Value → pm_S → Prop} (x0 x1 : Int) (v3 : Value) (v4 : Value) (v5 : Value) (v6 : Value) (v7 : Value) (hv3 : v3.category = 1) (hv4 : v4.category = 1) (hv5 : v5.category = 1) (hv6 : v6.category = 1) (hv7 : v7.category = 1) (hB : an_GB pm_B σ) (eF : (0 ≤ x0 ∧ x0 ≤ 9) ∧ (0 ≤ x1 ∧ x1 ≤ 1023) ∧ True)
    (l0 : ∀ (τ : pm_S) (y : Nat → Int) (v4 : Value) (v5 : Value) (v6 : Value) (v7 : Value), v4.category = 1 → v5.category = 1 → v6.category = 1 → v7.category = 1 → an_GB pm_B τ → FQ [] σ τ → ((0 ≤ x0 ∧ x0 ≤ 9) ∧ (0 ≤ x1 ∧ x1 ≤ 1023) ∧ True) → (True) → (True) → (True) → Ok 224 21 2 [.ref 93, .int (Int32.ofInt (x0)), .int (Int32.ofInt (x1)), .int (Int32.ofInt 0), v4, v5, v6, v7] [] τ Q)
    : Ok 224 21 0 [.ref 93, .int (Int32.ofInt (x0)), .int (Int32.ofInt (x1)), v3, v4, v5, v6, v7] [] σ Q := by
  refine an_seg (B := pm_B) (F := []) (T := []) (S := []) (fun _ h => absurd h List.not_mem_nil) (k := 224) (d := 20) (cs := [2]) 4 0 2 [(0, 0, 9), (1, 0, 1023)] [] [(2, 93, 0), (0, 0, 0), (0, 1, 0), (5, 0, 0), (5, 0, 0), (5, 0, 0), (5, 0, 0), (5, 0, 0)] [] [(2, [(2, 93, 0), (0, 0, 0), (0, 1, 0), (1, 0, 0), (5, 0, 0), (5, 0, 0), (5, 0, 0), (5, 0, 0)], [], [(0, 0, 9), (1, 0, 1023)], [], [], [])] (by decide +kernel) (ρ0 := (fun s => [x0, x1].getD s 0)) hB eF trivial ⟨rfl, ⟨rfl, ⟨rfl, ⟨hv3, ⟨hv4, ⟨hv5, ⟨hv6, ⟨hv7, trivial⟩⟩⟩⟩⟩⟩⟩⟩ trivial ?_
  refine List.forall_mem_cons.mpr ⟨?_, fun _ h => absurd h List.not_mem_nil⟩
  · intro ρ τ Lc stc hx g1 g2 g3 g4 g5 g6 g7 g8
    have e0 : ρ 0 = x0 := hx 0 (by decide)
    have e1 : ρ 1 = x1 := hx 1 (by decide)
    subst e0
    subst e1
    have g7 := g7 (by decide)
    match Lc, stc, g7, g8 with
    | [v0, v1, v2, v3, v4, v5, v6, v7], [], ⟨hv0, hv1, hv2, hv3, hv4, hv5, hv6, hv7, _⟩, _ =>
      cases hv0
      cases hv1
      cases hv2
      cases hv3
      exact l0 τ ρ v4 v5 v6 v7 hv4 hv5 hv6 hv7 g1 g2 g3 g4 g5 g6
set_option maxRecDepth 100000 in
theorem sv_f2 {σ : pm_S} {Q : Option Value → pm_S → Prop} (x0 x1 x2 x3 : Int) (v4 : Value) (v5 : Value) (v6 : Value) (v7 : Value) (hv4 : v4.category = 1) (hv5 : v5.category = 1) (hv6 : v6.category = 1) (hv7 : v7.category = 1) (hB : an_GB pm_B σ) (eF : (0 ≤ x0 ∧ x0 ≤ 9) ∧ (0 ≤ x1 ∧ x1 ≤ 1023) ∧ (0 ≤ x2 ∧ x2 ≤ 10) ∧ (0 ≤ x3 ∧ x3 ≤ 10) ∧ True) (eC : (σ.1 93 2).toInt = x3 ∧ True)
    (l0 : ∀ (τ : pm_S) (y : Nat → Int) (v4 : Value) (v5 : Value) (v6 : Value) (v7 : Value), v4.category = 1 → v5.category = 1 → v6.category = 1 → v7.category = 1 → an_GB pm_B τ → FQ [] σ τ → ((0 ≤ x0 ∧ x0 ≤ 9) ∧ (0 ≤ x1 ∧ x1 ≤ 1023) ∧ (0 ≤ x2 ∧ x2 ≤ 10) ∧ (0 ≤ x3 ∧ x3 ≤ 10) ∧ True) → (True) → (True) → ((τ.1 93 2).toInt = x3 ∧ True) → Ok 224 21 5 [.ref 93, .int (Int32.ofInt (x0)), .int (Int32.ofInt (x1)), .int (Int32.ofInt (x2)), v4, v5, v6, v7] [.int (Int32.ofInt (x3)), .int (Int32.ofInt (x2))] τ Q)
    : Ok 224 21 2 [.ref 93, .int (Int32.ofInt (x0)), .int (Int32.ofInt (x1)), .int (Int32.ofInt (x2)), v4, v5, v6, v7] [] σ Q := by
  refine an_seg (B := pm_B) (F := []) (T := []) (S := []) (fun _ h => absurd h List.not_mem_nil) (k := 224) (d := 20) (cs := [5]) 5 2 4 [(0, 0, 9), (1, 0, 1023), (2, 0, 10), (3, 0, 10)] [(93, (1, 0, 2), (0, 3, 0))] [(2, 93, 0), (0, 0, 0), (0, 1, 0), (0, 2, 0), (5, 0, 0), (5, 0, 0), (5, 0, 0), (5, 0, 0)] [] [(5, [(2, 93, 0), (0, 0, 0), (0, 1, 0), (0, 2, 0), (5, 0, 0), (5, 0, 0), (5, 0, 0), (5, 0, 0)], [(0, 3, 0), (0, 2, 0)], [(0, 0, 9), (1, 0, 1023), (2, 0, 10), (3, 0, 10)], [], [], [(93, (1, 0, 2), (0, 3, 0))])] (by decide +kernel) (ρ0 := (fun s => [x0, x1, x2, x3].getD s 0)) hB eF eC ⟨rfl, ⟨rfl, ⟨rfl, ⟨rfl, ⟨hv4, ⟨hv5, ⟨hv6, ⟨hv7, trivial⟩⟩⟩⟩⟩⟩⟩⟩ trivial ?_
  refine List.forall_mem_cons.mpr ⟨?_, fun _ h => absurd h List.not_mem_nil⟩
  · intro ρ τ Lc stc hx g1 g2 g3 g4 g5 g6 g7 g8
    have e0 : ρ 0 = x0 := hx 0 (by decide)
    have e1 : ρ 1 = x1 := hx 1 (by decide)
    have e2 : ρ 2 = x2 := hx 2 (by decide)
    have e3 : ρ 3 = x3 := hx 3 (by decide)
    subst e0
    subst e1
    subst e2
    subst e3
    have g7 := g7 (by decide)
    match Lc, stc, g7, g8 with
    | [v0, v1, v2, v3, v4, v5, v6, v7], [w0, w1], ⟨hv0, hv1, hv2, hv3, hv4, hv5, hv6, hv7, _⟩, ⟨hw0, hw1, _⟩ =>
      cases hv0
      cases hv1
      cases hv2
      cases hv3
      cases hw0
      cases hw1
      exact l0 τ ρ v4 v5 v6 v7 hv4 hv5 hv6 hv7 g1 g2 g3 g4 g5 g6
set_option maxRecDepth 100000 in
theorem sv_f6 {σ : pm_S} {Q : Option Value → pm_S → Prop} (x0 x1 x2 : Int) (v4 : Value) (v5 : Value) (v6 : Value) (v7 : Value) (hv4 : v4.category = 1) (hv5 : v5.category = 1) (hv6 : v6.category = 1) (hv7 : v7.category = 1) (hB : an_GB pm_B σ) (eF : (0 ≤ x0 ∧ x0 ≤ 9) ∧ (0 ≤ x1 ∧ x1 ≤ 1023) ∧ (0 ≤ x2 ∧ x2 ≤ 9) ∧ True)
    (l0 : ∀ (τ : pm_S) (y : Nat → Int) (v4 : Value) (v5 : Value) (v6 : Value) (v7 : Value), v4.category = 1 → v5.category = 1 → v6.category = 1 → v7.category = 1 → an_GB pm_B τ → FQ [] σ τ → ((0 ≤ x0 ∧ x0 ≤ 9) ∧ (0 ≤ x1 ∧ x1 ≤ 1023) ∧ (0 ≤ x2 ∧ x2 ≤ 9) ∧ True) → (True) → (True) → (True) → Ok 224 21 12 [.ref 93, .int (Int32.ofInt (x0)), .int (Int32.ofInt (x1)), .int (Int32.ofInt (x2)), v4, v5, v6, v7] [.int (Int32.ofInt (x0)), .int (Int32.ofInt (x2)), .ref 93, .int (Int32.ofInt (x2)), .ref 129] τ Q)
    : Ok 224 21 6 [.ref 93, .int (Int32.ofInt (x0)), .int (Int32.ofInt (x1)), .int (Int32.ofInt (x2)), v4, v5, v6, v7] [] σ Q := by
  refine an_seg (B := pm_B) (F := []) (T := []) (S := []) (fun _ h => absurd h List.not_mem_nil) (k := 224) (d := 20) (cs := [12]) 8 6 3 [(0, 0, 9), (1, 0, 1023), (2, 0, 9)] [] [(2, 93, 0), (0, 0, 0), (0, 1, 0), (0, 2, 0), (5, 0, 0), (5, 0, 0), (5, 0, 0), (5, 0, 0)] [] [(12, [(2, 93, 0), (0, 0, 0), (0, 1, 0), (0, 2, 0), (5, 0, 0), (5, 0, 0), (5, 0, 0), (5, 0, 0)], [(0, 0, 0), (0, 2, 0), (2, 93, 0), (0, 2, 0), (2, 129, 0)], [(0, 0, 9), (1, 0, 1023), (2, 0, 9)], [], [], [])] (by decide +kernel) (ρ0 := (fun s => [x0, x1, x2].getD s 0)) hB eF trivial ⟨rfl, ⟨rfl, ⟨rfl, ⟨rfl, ⟨hv4, ⟨hv5, ⟨hv6, ⟨hv7, trivial⟩⟩⟩⟩⟩⟩⟩⟩ trivial ?_
  refine List.forall_mem_cons.mpr ⟨?_, fun _ h => absurd h List.not_mem_nil⟩
  · intro ρ τ Lc stc hx g1 g2 g3 g4 g5 g6 g7 g8
    have e0 : ρ 0 = x0 := hx 0 (by decide)
    have e1 : ρ 1 = x1 := hx 1 (by decide)
    have e2 : ρ 2 = x2 := hx 2 (by decide)
    subst e0
    subst e1
    subst e2
    have g7 := g7 (by decide)
    match Lc, stc, g7, g8 with
    | [v0, v1, v2, v3, v4, v5, v6, v7], [w0, w1, w2, w3, w4], ⟨hv0, hv1, hv2, hv3, hv4, hv5, hv6, hv7, _⟩, ⟨hw0, hw1, hw2, hw3, hw4, _⟩ =>
      cases hv0
      cases hv1
      cases hv2
      cases hv3
      cases hw0
      cases hw1
      cases hw2
      cases hw3
      cases hw4
      exact l0 τ ρ v4 v5 v6 v7 hv4 hv5 hv6 hv7 g1 g2 g3 g4 g5 g6
set_option maxRecDepth 100000 in
theorem sv_f14 {σ : pm_S} {Q : Option Value → pm_S → Prop} (x0 x1 x2 : Int) (v4 : Value) (v5 : Value) (v6 : Value) (v7 : Value) (hv4 : v4.category = 1) (hv5 : v5.category = 1) (hv6 : v6.category = 1) (hv7 : v7.category = 1) (hB : an_GB pm_B σ) (eF : (0 ≤ x0 ∧ x0 ≤ 9) ∧ (0 ≤ x1 ∧ x1 ≤ 1023) ∧ (0 ≤ x2 ∧ x2 ≤ 9) ∧ True)
    (l0 : ∀ (τ : pm_S) (y : Nat → Int) (v4 : Value) (v5 : Value) (v6 : Value) (v7 : Value), v4.category = 1 → v5.category = 1 → v6.category = 1 → v7.category = 1 → an_GB pm_B τ → FQ [] σ τ → ((0 ≤ x0 ∧ x0 ≤ 9) ∧ (0 ≤ x1 ∧ x1 ≤ 1023) ∧ (0 ≤ x2 ∧ x2 ≤ 9) ∧ True) → (True) → (True) → (True) → Ok 224 21 2 [.ref 93, .int (Int32.ofInt (x0)), .int (Int32.ofInt (x1)), .int (Int32.ofInt (x2 + 1)), v4, v5, v6, v7] [] τ Q)
    : Ok 224 21 14 [.ref 93, .int (Int32.ofInt (x0)), .int (Int32.ofInt (x1)), .int (Int32.ofInt (x2)), v4, v5, v6, v7] [] σ Q := by
  refine an_seg (B := pm_B) (F := []) (T := []) (S := []) (fun _ h => absurd h List.not_mem_nil) (k := 224) (d := 20) (cs := [2]) 4 14 3 [(0, 0, 9), (1, 0, 1023), (2, 0, 9)] [] [(2, 93, 0), (0, 0, 0), (0, 1, 0), (0, 2, 0), (5, 0, 0), (5, 0, 0), (5, 0, 0), (5, 0, 0)] [] [(2, [(2, 93, 0), (0, 0, 0), (0, 1, 0), (0, 2, 1), (5, 0, 0), (5, 0, 0), (5, 0, 0), (5, 0, 0)], [], [(0, 0, 9), (1, 0, 1023), (2, 0, 9)], [], [], [])] (by decide +kernel) (ρ0 := (fun s => [x0, x1, x2].getD s 0)) hB eF trivial ⟨rfl, ⟨rfl, ⟨rfl, ⟨rfl, ⟨hv4, ⟨hv5, ⟨hv6, ⟨hv7, trivial⟩⟩⟩⟩⟩⟩⟩⟩ trivial ?_
  refine List.forall_mem_cons.mpr ⟨?_, fun _ h => absurd h List.not_mem_nil⟩
  · intro ρ τ Lc stc hx g1 g2 g3 g4 g5 g6 g7 g8
    have e0 : ρ 0 = x0 := hx 0 (by decide)
    have e1 : ρ 1 = x1 := hx 1 (by decide)
    have e2 : ρ 2 = x2 := hx 2 (by decide)
    subst e0
    subst e1
    subst e2
    have g7 := g7 (by decide)
    match Lc, stc, g7, g8 with
    | [v0, v1, v2, v3, v4, v5, v6, v7], [], ⟨hv0, hv1, hv2, hv3, hv4, hv5, hv6, hv7, _⟩, _ =>
      cases hv0
      cases hv1
      cases hv2
      cases hv3
      exact l0 τ ρ v4 v5 v6 v7 hv4 hv5 hv6 hv7 g1 g2 g3 g4 g5 g6
set_option maxRecDepth 100000 in
theorem sv_f16 {σ : pm_S} {Q : Option Value → pm_S → Prop} (x0 x1 x2 : Int) (v4 : Value) (v5 : Value) (v6 : Value) (v7 : Value) (hv4 : v4.category = 1) (hv5 : v5.category = 1) (hv6 : v6.category = 1) (hv7 : v7.category = 1) (hB : an_GB pm_B σ) (eF : (0 ≤ x0 ∧ x0 ≤ 9) ∧ (0 ≤ x1 ∧ x1 ≤ 1023) ∧ (0 ≤ x2 ∧ x2 ≤ 10) ∧ True)
    (l0 : ∀ (τ : pm_S) (y : Nat → Int) (v4 : Value) (v5 : Value) (v6 : Value) (v7 : Value), v4.category = 1 → v5.category = 1 → v6.category = 1 → v7.category = 1 → an_GB pm_B τ → FQ [] σ τ → ((0 ≤ x0 ∧ x0 ≤ 9) ∧ (0 ≤ x1 ∧ x1 ≤ 1023) ∧ (0 ≤ x2 ∧ x2 ≤ 10) ∧ True) → (True) → (True) → (True) → Ok 224 21 18 [.ref 93, .int (Int32.ofInt (x0)), .int (Int32.ofInt (x1)), .int (Int32.ofInt 1), v4, v5, v6, v7] [] τ Q)
    : Ok 224 21 16 [.ref 93, .int (Int32.ofInt (x0)), .int (Int32.ofInt (x1)), .int (Int32.ofInt (x2)), v4, v5, v6, v7] [] σ Q := by
  refine an_seg (B := pm_B) (F := []) (T := []) (S := []) (fun _ h => absurd h List.not_mem_nil) (k := 224) (d := 20) (cs := [18]) 4 16 3 [(0, 0, 9), (1, 0, 1023), (2, 0, 10)] [] [(2, 93, 0), (0, 0, 0), (0, 1, 0), (0, 2, 0), (5, 0, 0), (5, 0, 0), (5, 0, 0), (5, 0, 0)] [] [(18, [(2, 93, 0), (0, 0, 0), (0, 1, 0), (1, 0, 1), (5, 0, 0), (5, 0, 0), (5, 0, 0), (5, 0, 0)], [], [(0, 0, 9), (1, 0, 1023), (2, 0, 10)], [], [], [])] (by decide +kernel) (ρ0 := (fun s => [x0, x1, x2].getD s 0)) hB eF trivial ⟨rfl, ⟨rfl, ⟨rfl, ⟨rfl, ⟨hv4, ⟨hv5, ⟨hv6, ⟨hv7, trivial⟩⟩⟩⟩⟩⟩⟩⟩ trivial ?_
  refine List.forall_mem_cons.mpr ⟨?_, fun _ h => absurd h List.not_mem_nil⟩
  · intro ρ τ Lc stc hx g1 g2 g3 g4 g5 g6 g7 g8
    have e0 : ρ 0 = x0 := hx 0 (by decide)
    have e1 : ρ 1 = x1 := hx 1 (by decide)
    have e2 : ρ 2 = x2 := hx 2 (by decide)
    subst e0
    subst e1
    subst e2
    have g7 := g7 (by decide)
    match Lc, stc, g7, g8 with
    | [v0, v1, v2, v3, v4, v5, v6, v7], [], ⟨hv0, hv1, hv2, hv3, hv4, hv5, hv6, hv7, _⟩, _ =>
      cases hv0
      cases hv1
      cases hv2
      cases hv3
      exact l0 τ ρ v4 v5 v6 v7 hv4 hv5 hv6 hv7 g1 g2 g3 g4 g5 g6
set_option maxRecDepth 100000 in
theorem sv_f18 {σ : pm_S} {Q : Option Value → pm_S → Prop} (x0 x1 x2 x3 : Int) (v4 : Value) (v5 : Value) (v6 : Value) (v7 : Value) (hv4 : v4.category = 1) (hv5 : v5.category = 1) (hv6 : v6.category = 1) (hv7 : v7.category = 1) (hB : an_GB pm_B σ) (eF : (0 ≤ x0 ∧ x0 ≤ 9) ∧ (0 ≤ x1 ∧ x1 ≤ 1023) ∧ (1 ≤ x2 ∧ x2 ≤ 1024) ∧ (0 ≤ x3 ∧ x3 ≤ 10) ∧ True) (eC : (σ.1 93 2).toInt = x3 ∧ True)
    (l0 : ∀ (τ : pm_S) (y : Nat → Int) (v4 : Value) (v5 : Value) (v6 : Value) (v7 : Value), v4.category = 1 → v5.category = 1 → v6.category = 1 → v7.category = 1 → an_GB pm_B τ → FQ [] σ τ → ((0 ≤ x0 ∧ x0 ≤ 9) ∧ (0 ≤ x1 ∧ x1 ≤ 1023) ∧ (1 ≤ x2 ∧ x2 ≤ 1024) ∧ (0 ≤ x3 ∧ x3 ≤ 10) ∧ (1 ≤ y 4 ∧ y 4 ≤ 1024) ∧ True) → (True) → ((an_f 6 (Int32.ofInt (1)) (Int32.ofInt (x3))).toInt = y 4 ∧ True) → ((τ.1 93 2).toInt = x3 ∧ True) → Ok 224 21 23 [.ref 93, .int (Int32.ofInt (x0)), .int (Int32.ofInt (x1)), .int (Int32.ofInt (x2)), v4, v5, v6, v7] [.int (Int32.ofInt (y 4)), .int (Int32.ofInt (x2))] τ Q)
    : Ok 224 21 18 [.ref 93, .int (Int32.ofInt (x0)), .int (Int32.ofInt (x1)), .int (Int32.ofInt (x2)), v4, v5, v6, v7] [] σ Q := by
  refine an_seg (B := pm_B) (F := []) (T := []) (S := []) (fun _ h => absurd h List.not_mem_nil) (k := 224) (d := 20) (cs := [23]) 7 18 4 [(0, 0, 9), (1, 0, 1023), (2, 1, 1024), (3, 0, 10)] [(93, (1, 0, 2), (0, 3, 0))] [(2, 93, 0), (0, 0, 0), (0, 1, 0), (0, 2, 0), (5, 0, 0), (5, 0, 0), (5, 0, 0), (5, 0, 0)] [] [(23, [(2, 93, 0), (0, 0, 0), (0, 1, 0), (0, 2, 0), (5, 0, 0), (5, 0, 0), (5, 0, 0), (5, 0, 0)], [(0, 4, 0), (0, 2, 0)], [(0, 0, 9), (1, 0, 1023), (2, 1, 1024), (3, 0, 10), (4, 1, 1024)], [], [(6, (1, 0, 1), (0, 3, 0), 4)], [(93, (1, 0, 2), (0, 3, 0))])] (by decide +kernel) (ρ0 := (fun s => [x0, x1, x2, x3].getD s 0)) hB eF eC ⟨rfl, ⟨rfl, ⟨rfl, ⟨rfl, ⟨hv4, ⟨hv5, ⟨hv6, ⟨hv7, trivial⟩⟩⟩⟩⟩⟩⟩⟩ trivial ?_
  refine List.forall_mem_cons.mpr ⟨?_, fun _ h => absurd h List.not_mem_nil⟩
  · intro ρ τ Lc stc hx g1 g2 g3 g4 g5 g6 g7 g8
    have e0 : ρ 0 = x0 := hx 0 (by decide)
    have e1 : ρ 1 = x1 := hx 1 (by decide)
    have e2 : ρ 2 = x2 := hx 2 (by decide)
    have e3 : ρ 3 = x3 := hx 3 (by decide)
    subst e0
    subst e1
    subst e2
    subst e3
    have g7 := g7 (by decide)
    match Lc, stc, g7, g8 with
    | [v0, v1, v2, v3, v4, v5, v6, v7], [w0, w1], ⟨hv0, hv1, hv2, hv3, hv4, hv5, hv6, hv7, _⟩, ⟨hw0, hw1, _⟩ =>
      cases hv0
      cases hv1
      cases hv2
      cases hv3
      cases hw0
      cases hw1
      exact l0 τ ρ v4 v5 v6 v7 hv4 hv5 hv6 hv7 g1 g2 g3 g4 g5 g6
set_option maxRecDepth 100000 in
theorem sv_f24 {σ : pm_S} {Q : Option Value → pm_S → Prop} (x0 x1 x2 : Int) (v4 : Value) (v5 : Value) (v6 : Value) (v7 : Value) (hv4 : v4.category = 1) (hv5 : v5.category = 1) (hv6 : v6.category = 1) (hv7 : v7.category = 1) (hB : an_GB pm_B σ) (eF : (0 ≤ x0 ∧ x0 ≤ 9) ∧ (0 ≤ x1 ∧ x1 ≤ 1023) ∧ (1 ≤ x2 ∧ x2 ≤ 1023) ∧ True)
    (l0 : ∀ (τ : pm_S) (y : Nat → Int) (v5 : Value) (v6 : Value) (v7 : Value), v5.category = 1 → v6.category = 1 → v7.category = 1 → an_GB pm_B τ → FQ [] σ τ → ((0 ≤ x0 ∧ x0 ≤ 9) ∧ (0 ≤ x1 ∧ x1 ≤ 1023) ∧ (1 ≤ x2 ∧ x2 ≤ 1023) ∧ ((-1024) ≤ y 3 ∧ y 3 ≤ (-1)) ∧ (0 ≤ y 4 ∧ y 4 ≤ 0) ∧ True) → (y 4 ≤ x2 + 0 ∧ True) → ((an_f 5 (Int32.ofInt (x1)) (Int32.ofInt ((-1)))).toInt = y 3 ∧ (an_f 3 (Int32.ofInt (x2)) (Int32.ofInt (y 3))).toInt = y 4 ∧ True) → (True) → Ok 224 21 33 [.ref 93, .int (Int32.ofInt (x0)), .int (Int32.ofInt (x1)), .int (Int32.ofInt (x2)), .int (Int32.ofInt 0), v5, v6, v7] [] τ Q)
    (l1 : ∀ (τ : pm_S) (y : Nat → Int) (v4 : Value) (v5 : Value) (v6 : Value) (v7 : Value), v4.category = 1 → v5.category = 1 → v6.category = 1 → v7.category = 1 → an_GB pm_B τ → FQ [] σ τ → ((0 ≤ x0 ∧ x0 ≤ 9) ∧ (0 ≤ x1 ∧ x1 ≤ 1023) ∧ (1 ≤ x2 ∧ x2 ≤ 1023) ∧ ((-1024) ≤ y 3 ∧ y 3 ≤ (-1)) ∧ (1 ≤ y 4 ∧ y 4 ≤ 1023) ∧ True) → (y 4 ≤ x2 + 0 ∧ True) → ((an_f 5 (Int32.ofInt (x1)) (Int32.ofInt ((-1)))).toInt = y 3 ∧ (an_f 3 (Int32.ofInt (x2)) (Int32.ofInt (y 3))).toInt = y 4 ∧ True) → (True) → Ok 224 21 92 [.ref 93, .int (Int32.ofInt (x0)), .int (Int32.ofInt (x1)), .int (Int32.ofInt (x2)), v4, v5, v6, v7] [] τ Q)
    : Ok 224 21 24 [.ref 93, .int (Int32.ofInt (x0)), .int (Int32.ofInt (x1)), .int (Int32.ofInt (x2)), v4, v5, v6, v7] [] σ Q := by
  refine an_seg (B := pm_B) (F := []) (T := []) (S := []) (fun _ h => absurd h List.not_mem_nil) (k := 224) (d := 20) (cs := [33, 92]) 10 24 3 [(0, 0, 9), (1, 0, 1023), (2, 1, 1023)] [] [(2, 93, 0), (0, 0, 0), (0, 1, 0), (0, 2, 0), (5, 0, 0), (5, 0, 0), (5, 0, 0), (5, 0, 0)] [] [(33, [(2, 93, 0), (0, 0, 0), (0, 1, 0), (0, 2, 0), (1, 0, 0), (5, 0, 0), (5, 0, 0), (5, 0, 0)], [], [(0, 0, 9), (1, 0, 1023), (2, 1, 1023), (3, (-1024), (-1)), (4, 0, 0)], [(1, 4, 2, 0)], [(5, (0, 1, 0), (1, 0, (-1)), 3), (3, (0, 2, 0), (0, 3, 0), 4)], []),
    (92, [(2, 93, 0), (0, 0, 0), (0, 1, 0), (0, 2, 0), (5, 0, 0), (5, 0, 0), (5, 0, 0), (5, 0, 0)], [], [(0, 0, 9), (1, 0, 1023), (2, 1, 1023), (3, (-1024), (-1)), (4, 1, 1023)], [(1, 4, 2, 0)], [(5, (0, 1, 0), (1, 0, (-1)), 3), (3, (0, 2, 0), (0, 3, 0), 4)], [])] (by decide +kernel) (ρ0 := (fun s => [x0, x1, x2].getD s 0)) hB eF trivial ⟨rfl, ⟨rfl, ⟨rfl, ⟨rfl, ⟨hv4, ⟨hv5, ⟨hv6, ⟨hv7, trivial⟩⟩⟩⟩⟩⟩⟩⟩ trivial ?_
  refine List.forall_mem_cons.mpr ⟨?_, List.forall_mem_cons.mpr ⟨?_, fun _ h => absurd h List.not_mem_nil⟩⟩
  · intro ρ τ Lc stc hx g1 g2 g3 g4 g5 g6 g7 g8
    have e0 : ρ 0 = x0 := hx 0 (by decide)
    have e1 : ρ 1 = x1 := hx 1 (by decide)
    have e2 : ρ 2 = x2 := hx 2 (by decide)
    subst e0
    subst e1
    subst e2
    have g7 := g7 (by decide)
    match Lc, stc, g7, g8 with
    | [v0, v1, v2, v3, v4, v5, v6, v7], [], ⟨hv0, hv1, hv2, hv3, hv4, hv5, hv6, hv7, _⟩, _ =>
      cases hv0
      cases hv1
      cases hv2
      cases hv3
      cases hv4
      exact l0 τ ρ v5 v6 v7 hv5 hv6 hv7 g1 g2 g3 g4 g5 g6
  · intro ρ τ Lc stc hx g1 g2 g3 g4 g5 g6 g7 g8
    have e0 : ρ 0 = x0 := hx 0 (by decide)
    have e1 : ρ 1 = x1 := hx 1 (by decide)
    have e2 : ρ 2 = x2 := hx 2 (by decide)
    subst e0
    subst e1
    subst e2
    have g7 := g7 (by decide)
    match Lc, stc, g7, g8 with
    | [v0, v1, v2, v3, v4, v5, v6, v7], [], ⟨hv0, hv1, hv2, hv3, hv4, hv5, hv6, hv7, _⟩, _ =>
      cases hv0
      cases hv1
      cases hv2
      cases hv3
      exact l1 τ ρ v4 v5 v6 v7 hv4 hv5 hv6 hv7 g1 g2 g3 g4 g5 g6
set_option maxRecDepth 100000 in
theorem sv_f33 {σ : pm_S} {Q : Option Value → pm_S → Prop} (x0 x1 x2 x3 x4 : Int) (v5 : Value) (v6 : Value) (v7 : Value) (hv5 : v5.category = 1) (hv6 : v6.category = 1) (hv7 : v7.category = 1) (hB : an_GB pm_B σ) (eF : (0 ≤ x0 ∧ x0 ≤ 9) ∧ (0 ≤ x1 ∧ x1 ≤ 1023) ∧ (1 ≤ x2 ∧ x2 ≤ 1023) ∧ (0 ≤ x3 ∧ x3 ≤ 10) ∧ (0 ≤ x4 ∧ x4 ≤ 10) ∧ True) (eC : (σ.1 93 2).toInt = x4 ∧ True)
    (l0 : ∀ (τ : pm_S) (y : Nat → Int) (v5 : Value) (v6 : Value) (v7 : Value), v5.category = 1 → v6.category = 1 → v7.category = 1 → an_GB pm_B τ → FQ [] σ τ → ((0 ≤ x0 ∧ x0 ≤ 9) ∧ (0 ≤ x1 ∧ x1 ≤ 1023) ∧ (1 ≤ x2 ∧ x2 ≤ 1023) ∧ (0 ≤ x3 ∧ x3 ≤ 10) ∧ (0 ≤ x4 ∧ x4 ≤ 10) ∧ True) → (True) → (True) → ((τ.1 93 2).toInt = x4 ∧ True) → Ok 224 21 36 [.ref 93, .int (Int32.ofInt (x0)), .int (Int32.ofInt (x1)), .int (Int32.ofInt (x2)), .int (Int32.ofInt (x3)), v5, v6, v7] [.int (Int32.ofInt (x4)), .int (Int32.ofInt (x3))] τ Q)
    : Ok 224 21 33 [.ref 93, .int (Int32.ofInt (x0)), .int (Int32.ofInt (x1)), .int (Int32.ofInt (x2)), .int (Int32.ofInt (x3)), v5, v6, v7] [] σ Q := by
  refine an_seg (B := pm_B) (F := []) (T := []) (S := []) (fun _ h => absurd h List.not_mem_nil) (k := 224) (d := 20) (cs := [36]) 5 33 5 [(0, 0, 9), (1, 0, 1023), (2, 1, 1023), (3, 0, 10), (4, 0, 10)] [(93, (1, 0, 2), (0, 4, 0))] [(2, 93, 0), (0, 0, 0), (0, 1, 0), (0, 2, 0), (0, 3, 0), (5, 0, 0), (5, 0, 0), (5, 0, 0)] [] [(36, [(2, 93, 0), (0, 0, 0), (0, 1, 0), (0, 2, 0), (0, 3, 0), (5, 0, 0), (5, 0, 0), (5, 0, 0)], [(0, 4, 0), (0, 3, 0)], [(0, 0, 9), (1, 0, 1023), (2, 1, 1023), (3, 0, 10), (4, 0, 10)], [], [], [(93, (1, 0, 2), (0, 4, 0))])] (by decide +kernel) (ρ0 := (fun s => [x0, x1, x2, x3, x4].getD s 0)) hB eF eC ⟨rfl, ⟨rfl, ⟨rfl, ⟨rfl, ⟨rfl, ⟨hv5, ⟨hv6, ⟨hv7, trivial⟩⟩⟩⟩⟩⟩⟩⟩ trivial ?_
  refine List.forall_mem_cons.mpr ⟨?_, fun _ h => absurd h List.not_mem_nil⟩
  · intro ρ τ Lc stc hx g1 g2 g3 g4 g5 g6 g7 g8
    have e0 : ρ 0 = x0 := hx 0 (by decide)
    have e1 : ρ 1 = x1 := hx 1 (by decide)
    have e2 : ρ 2 = x2 := hx 2 (by decide)
    have e3 : ρ 3 = x3 := hx 3 (by decide)
    have e4 : ρ 4 = x4 := hx 4 (by decide)
    subst e0
    subst e1
    subst e2
    subst e3
    subst e4
    have g7 := g7 (by decide)
    match Lc, stc, g7, g8 with
    | [v0, v1, v2, v3, v4, v5, v6, v7], [w0, w1], ⟨hv0, hv1, hv2, hv3, hv4, hv5, hv6, hv7, _⟩, ⟨hw0, hw1, _⟩ =>
      cases hv0
      cases hv1
      cases hv2
      cases hv3
      cases hv4
      cases hw0
      cases hw1
      exact l0 τ ρ v5 v6 v7 hv5 hv6 hv7 g1 g2 g3 g4 g5 g6
set_option maxRecDepth 100000 in
theorem sv_f37 {σ : pm_S} {Q : Option Value → pm_S → Prop} (x0 x1 x2 x3 : Int) (v5 : Value) (v6 : Value) (v7 : Value) (hv5 : v5.category = 1) (hv6 : v6.category = 1) (hv7 : v7.category = 1) (hB : an_GB pm_B σ) (eF : (0 ≤ x0 ∧ x0 ≤ 9) ∧ (0 ≤ x1 ∧ x1 ≤ 1023) ∧ (1 ≤ x2 ∧ x2 ≤ 1023) ∧ (0 ≤ x3 ∧ x3 ≤ 9) ∧ True)
    (l0 : ∀ (τ : pm_S) (y : Nat → Int) (v7 : Value), v7.category = 1 → an_GB pm_B τ → FQ [] σ τ → ((0 ≤ x0 ∧ x0 ≤ 9) ∧ (0 ≤ x1 ∧ x1 ≤ 1023) ∧ (1 ≤ x2 ∧ x2 ≤ 1023) ∧ (0 ≤ x3 ∧ x3 ≤ 9) ∧ True) → (True) → (True) → (True) → Ok 224 21 41 [.ref 93, .int (Int32.ofInt (x0)), .int (Int32.ofInt (x1)), .int (Int32.ofInt (x2)), .int (Int32.ofInt (x3)), .int (Int32.ofInt 1000000000), .int (Int32.ofInt 0), v7] [] τ Q)
    : Ok 224 21 37 [.ref 93, .int (Int32.ofInt (x0)), .int (Int32.ofInt (x1)), .int (Int32.ofInt (x2)), .int (Int32.ofInt (x3)), v5, v6, v7] [] σ Q := by
  refine an_seg (B := pm_B) (F := []) (T := []) (S := []) (fun _ h => absurd h List.not_mem_nil) (k := 224) (d := 20) (cs := [41]) 6 37 4 [(0, 0, 9), (1, 0, 1023), (2, 1, 1023), (3, 0, 9)] [] [(2, 93, 0), (0, 0, 0), (0, 1, 0), (0, 2, 0), (0, 3, 0), (5, 0, 0), (5, 0, 0), (5, 0, 0)] [] [(41, [(2, 93, 0), (0, 0, 0), (0, 1, 0), (0, 2, 0), (0, 3, 0), (1, 0, 1000000000), (1, 0, 0), (5, 0, 0)], [], [(0, 0, 9), (1, 0, 1023), (2, 1, 1023), (3, 0, 9)], [], [], [])] (by decide +kernel) (ρ0 := (fun s => [x0, x1, x2, x3].getD s 0)) hB eF trivial ⟨rfl, ⟨rfl, ⟨rfl, ⟨rfl, ⟨rfl, ⟨hv5, ⟨hv6, ⟨hv7, trivial⟩⟩⟩⟩⟩⟩⟩⟩ trivial ?_
  refine List.forall_mem_cons.mpr ⟨?_, fun _ h => absurd h List.not_mem_nil⟩
  · intro ρ τ Lc stc hx g1 g2 g3 g4 g5 g6 g7 g8
    have e0 : ρ 0 = x0 := hx 0 (by decide)
    have e1 : ρ 1 = x1 := hx 1 (by decide)
    have e2 : ρ 2 = x2 := hx 2 (by decide)
    have e3 : ρ 3 = x3 := hx 3 (by decide)
    subst e0
    subst e1
    subst e2
    subst e3
    have g7 := g7 (by decide)
    match Lc, stc, g7, g8 with
    | [v0, v1, v2, v3, v4, v5, v6, v7], [], ⟨hv0, hv1, hv2, hv3, hv4, hv5, hv6, hv7, _⟩, _ =>
      cases hv0
      cases hv1
      cases hv2
      cases hv3
      cases hv4
      cases hv5
      cases hv6
      exact l0 τ ρ v7 hv7 g1 g2 g3 g4 g5 g6
set_option maxRecDepth 100000 in
theorem sv_f41 {σ : pm_S} {Q : Option Value → pm_S → Prop} (x0 x1 x2 x3 x4 x5 x6 : Int) (v7 : Value) (hv7 : v7.category = 1) (hB : an_GB pm_B σ) (eF : (0 ≤ x0 ∧ x0 ≤ 9) ∧ (0 ≤ x1 ∧ x1 ≤ 1023) ∧ (1 ≤ x2 ∧ x2 ≤ 1023) ∧ (0 ≤ x3 ∧ x3 ≤ 9) ∧ (0 ≤ x4 ∧ x4 ≤ 1000000000) ∧ (0 ≤ x5 ∧ x5 ≤ 10) ∧ (0 ≤ x6 ∧ x6 ≤ 10) ∧ True) (eC : (σ.1 93 2).toInt = x6 ∧ True)
    (l0 : ∀ (τ : pm_S) (y : Nat → Int) (v7 : Value), v7.category = 1 → an_GB pm_B τ → FQ [] σ τ → ((0 ≤ x0 ∧ x0 ≤ 9) ∧ (0 ≤ x1 ∧ x1 ≤ 1023) ∧ (1 ≤ x2 ∧ x2 ≤ 1023) ∧ (0 ≤ x3 ∧ x3 ≤ 9) ∧ (0 ≤ x4 ∧ x4 ≤ 1000000000) ∧ (0 ≤ x5 ∧ x5 ≤ 10) ∧ (0 ≤ x6 ∧ x6 ≤ 10) ∧ True) → (True) → (True) → ((τ.1 93 2).toInt = x6 ∧ True) → Ok 224 21 44 [.ref 93, .int (Int32.ofInt (x0)), .int (Int32.ofInt (x1)), .int (Int32.ofInt (x2)), .int (Int32.ofInt (x3)), .int (Int32.ofInt (x4)), .int (Int32.ofInt (x5)), v7] [.int (Int32.ofInt (x6)), .int (Int32.ofInt (x5))] τ Q)
    : Ok 224 21 41 [.ref 93, .int (Int32.ofInt (x0)), .int (Int32.ofInt (x1)), .int (Int32.ofInt (x2)), .int (Int32.ofInt (x3)), .int (Int32.ofInt (x4)), .int (Int32.ofInt (x5)), v7] [] σ Q := by
  refine an_seg (B := pm_B) (F := []) (T := []) (S := []) (fun _ h => absurd h List.not_mem_nil) (k := 224) (d := 20) (cs := [44]) 5 41 7 [(0, 0, 9), (1, 0, 1023), (2, 1, 1023), (3, 0, 9), (4, 0, 1000000000), (5, 0, 10), (6, 0, 10)] [(93, (1, 0, 2), (0, 6, 0))] [(2, 93, 0), (0, 0, 0), (0, 1, 0), (0, 2, 0), (0, 3, 0), (0, 4, 0), (0, 5, 0), (5, 0, 0)] [] [(44, [(2, 93, 0), (0, 0, 0), (0, 1, 0), (0, 2, 0), (0, 3, 0), (0, 4, 0), (0, 5, 0), (5, 0, 0)], [(0, 6, 0), (0, 5, 0)], [(0, 0, 9), (1, 0, 1023), (2, 1, 1023), (3, 0, 9), (4, 0, 1000000000), (5, 0, 10), (6, 0, 10)], [], [], [(93, (1, 0, 2), (0, 6, 0))])] (by decide +kernel) (ρ0 := (fun s => [x0, x1, x2, x3, x4, x5, x6].getD s 0)) hB eF eC ⟨rfl, ⟨rfl, ⟨rfl, ⟨rfl, ⟨rfl, ⟨rfl, ⟨rfl, ⟨hv7, trivial⟩⟩⟩⟩⟩⟩⟩⟩ trivial ?_
  refine List.forall_mem_cons.mpr ⟨?_, fun _ h => absurd h List.not_mem_nil⟩
  · intro ρ τ Lc stc hx g1 g2 g3 g4 g5 g6 g7 g8
    have e0 : ρ 0 = x0 := hx 0 (by decide)
    have e1 : ρ 1 = x1 := hx 1 (by decide)
    have e2 : ρ 2 = x2 := hx 2 (by decide)
    have e3 : ρ 3 = x3 := hx 3 (by decide)
    have e4 : ρ 4 = x4 := hx 4 (by decide)
    have e5 : ρ 5 = x5 := hx 5 (by decide)
    have e6 : ρ 6 = x6 := hx 6 (by decide)
    subst e0
    subst e1
    subst e2
    subst e3
    subst e4
    subst e5
    subst e6
    have g7 := g7 (by decide)
    match Lc, stc, g7, g8 with
    | [v0, v1, v2, v3, v4, v5, v6, v7], [w0, w1], ⟨hv0, hv1, hv2, hv3, hv4, hv5, hv6, hv7, _⟩, ⟨hw0, hw1, _⟩ =>
      cases hv0
      cases hv1
      cases hv2
      cases hv3
      cases hv4
      cases hv5
      cases hv6
      cases hw0
      cases hw1
      exact l0 τ ρ v7 hv7 g1 g2 g3 g4 g5 g6
set_option maxRecDepth 100000 in
theorem sv_f45 {σ : pm_S} {Q : Option Value → pm_S → Prop} (x0 x1 x2 x3 x4 x5 : Int) (v7 : Value) (hv7 : v7.category = 1) (hB : an_GB pm_B σ) (eF : (0 ≤ x0 ∧ x0 ≤ 9) ∧ (0 ≤ x1 ∧ x1 ≤ 1023) ∧ (1 ≤ x2 ∧ x2 ≤ 1023) ∧ (0 ≤ x3 ∧ x3 ≤ 9) ∧ (0 ≤ x4 ∧ x4 ≤ 1000000000) ∧ (0 ≤ x5 ∧ x5 ≤ 9) ∧ True)
    (l0 : ∀ (τ : pm_S) (y : Nat → Int) (v7 : Value), v7.category = 1 → an_GB pm_B τ → FQ [] σ τ → ((0 ≤ x0 ∧ x0 ≤ 9) ∧ (0 ≤ x1 ∧ x1 ≤ 1023) ∧ (1 ≤ x2 ∧ x2 ≤ 1023) ∧ (0 ≤ x3 ∧ x3 ≤ 9) ∧ (0 ≤ x4 ∧ x4 ≤ 1000000000) ∧ (0 ≤ x5 ∧ x5 ≤ 9) ∧ (0 ≤ y 6 ∧ y 6 ≤ 1023) ∧ (1 ≤ y 7 ∧ y 7 ≤ 1) ∧ True) → (y 7 ≤ y 6 + 0 ∧ True) → ((an_f 7 (Int32.ofInt (x2)) (Int32.ofInt (x5))).toInt = y 6 ∧ (an_f 3 (Int32.ofInt (y 6)) (Int32.ofInt (1))).toInt = y 7 ∧ True) → (True) → Ok 224 21 55 [.ref 93, .int (Int32.ofInt (x0)), .int (Int32.ofInt (x1)), .int (Int32.ofInt (x2)), .int (Int32.ofInt (x3)), .int (Int32.ofInt (x4)), .int (Int32.ofInt (x5)), v7] [.int (Int32.ofInt (x5)), .int (Int32.ofInt (x3)), .ref 93] τ Q)
    (l1 : ∀ (τ : pm_S) (y : Nat → Int) (v7 : Value), v7.category = 1 → an_GB pm_B τ → FQ [] σ τ → ((0 ≤ x0 ∧ x0 ≤ 9) ∧ (0 ≤ x1 ∧ x1 ≤ 1023) ∧ (1 ≤ x2 ∧ x2 ≤ 1023) ∧ (0 ≤ x3 ∧ x3 ≤ 9) ∧ (0 ≤ x4 ∧ x4 ≤ 1000000000) ∧ (0 ≤ x5 ∧ x5 ≤ 9) ∧ (0 ≤ y 6 ∧ y 6 ≤ 1023) ∧ (0 ≤ y 7 ∧ y 7 ≤ 0) ∧ True) → (y 7 ≤ y 6 + 0 ∧ True) → ((an_f 7 (Int32.ofInt (x2)) (Int32.ofInt (x5))).toInt = y 6 ∧ (an_f 3 (Int32.ofInt (y 6)) (Int32.ofInt (1))).toInt = y 7 ∧ True) → (True) → Ok 224 21 41 [.ref 93, .int (Int32.ofInt (x0)), .int (Int32.ofInt (x1)), .int (Int32.ofInt (x2)), .int (Int32.ofInt (x3)), .int (Int32.ofInt (x4)), .int (Int32.ofInt (x5 + 1)), v7] [] τ Q)
    : Ok 224 21 45 [.ref 93, .int (Int32.ofInt (x0)), .int (Int32.ofInt (x1)), .int (Int32.ofInt (x2)), .int (Int32.ofInt (x3)), .int (Int32.ofInt (x4)), .int (Int32.ofInt (x5)), v7] [] σ Q := by
  refine an_seg (B := pm_B) (F := []) (T := []) (S := []) (fun _ h => absurd h List.not_mem_nil) (k := 224) (d := 20) (cs := [55, 41]) 11 45 6 [(0, 0, 9), (1, 0, 1023), (2, 1, 1023), (3, 0, 9), (4, 0, 1000000000), (5, 0, 9)] [] [(2, 93, 0), (0, 0, 0), (0, 1, 0), (0, 2, 0), (0, 3, 0), (0, 4, 0), (0, 5, 0), (5, 0, 0)] [] [(55, [(2, 93, 0), (0, 0, 0), (0, 1, 0), (0, 2, 0), (0, 3, 0), (0, 4, 0), (0, 5, 0), (5, 0, 0)], [(0, 5, 0), (0, 3, 0), (2, 93, 0)], [(0, 0, 9), (1, 0, 1023), (2, 1, 1023), (3, 0, 9), (4, 0, 1000000000), (5, 0, 9), (6, 0, 1023), (7, 1, 1)], [(1, 7, 6, 0)], [(7, (0, 2, 0), (0, 5, 0), 6), (3, (0, 6, 0), (1, 0, 1), 7)], []),
    (41, [(2, 93, 0), (0, 0, 0), (0, 1, 0), (0, 2, 0), (0, 3, 0), (0, 4, 0), (0, 5, 1), (5, 0, 0)], [], [(0, 0, 9), (1, 0, 1023), (2, 1, 1023), (3, 0, 9), (4, 0, 1000000000), (5, 0, 9), (6, 0, 1023), (7, 0, 0)], [(1, 7, 6, 0)], [(7, (0, 2, 0), (0, 5, 0), 6), (3, (0, 6, 0), (1, 0, 1), 7)], [])] (by decide +kernel) (ρ0 := (fun s => [x0, x1, x2, x3, x4, x5].getD s 0)) hB eF trivial ⟨rfl, ⟨rfl, ⟨rfl, ⟨rfl, ⟨rfl, ⟨rfl, ⟨rfl, ⟨hv7, trivial⟩⟩⟩⟩⟩⟩⟩⟩ trivial ?_
  refine List.forall_mem_cons.mpr ⟨?_, List.forall_mem_cons.mpr ⟨?_, fun _ h => absurd h List.not_mem_nil⟩⟩
  · intro ρ τ Lc stc hx g1 g2 g3 g4 g5 g6 g7 g8
    have e0 : ρ 0 = x0 := hx 0 (by decide)
    have e1 : ρ 1 = x1 := hx 1 (by decide)
    have e2 : ρ 2 = x2 := hx 2 (by decide)
    have e3 : ρ 3 = x3 := hx 3 (by decide)
    have e4 : ρ 4 = x4 := hx 4 (by decide)
    have e5 : ρ 5 = x5 := hx 5 (by decide)
    subst e0
    subst e1
    subst e2
    subst e3
    subst e4
    subst e5
    have g7 := g7 (by decide)
    match Lc, stc, g7, g8 with
    | [v0, v1, v2, v3, v4, v5, v6, v7], [w0, w1, w2], ⟨hv0, hv1, hv2, hv3, hv4, hv5, hv6, hv7, _⟩, ⟨hw0, hw1, hw2, _⟩ =>
      cases hv0
      cases hv1
      cases hv2
      cases hv3
      cases hv4
      cases hv5
      cases hv6
      cases hw0
      cases hw1
      cases hw2
      exact l0 τ ρ v7 hv7 g1 g2 g3 g4 g5 g6
  · intro ρ τ Lc stc hx g1 g2 g3 g4 g5 g6 g7 g8
    have e0 : ρ 0 = x0 := hx 0 (by decide)
    have e1 : ρ 1 = x1 := hx 1 (by decide)
    have e2 : ρ 2 = x2 := hx 2 (by decide)
    have e3 : ρ 3 = x3 := hx 3 (by decide)
    have e4 : ρ 4 = x4 := hx 4 (by decide)
    have e5 : ρ 5 = x5 := hx 5 (by decide)
    subst e0
    subst e1
    subst e2
    subst e3
    subst e4
    subst e5
    have g7 := g7 (by decide)
    match Lc, stc, g7, g8 with
    | [v0, v1, v2, v3, v4, v5, v6, v7], [], ⟨hv0, hv1, hv2, hv3, hv4, hv5, hv6, hv7, _⟩, _ =>
      cases hv0
      cases hv1
      cases hv2
      cases hv3
      cases hv4
      cases hv5
      cases hv6
      exact l1 τ ρ v7 hv7 g1 g2 g3 g4 g5 g6
set_option maxRecDepth 100000 in
theorem sv_f56 {σ : pm_S} {Q : Option Value → pm_S → Prop} (x0 x1 x2 x3 x4 x5 x6 : Int) (v7 : Value) (hv7 : v7.category = 1) (hB : an_GB pm_B σ) (eF : (0 ≤ x0 ∧ x0 ≤ 9) ∧ (0 ≤ x1 ∧ x1 ≤ 1023) ∧ (1 ≤ x2 ∧ x2 ≤ 1023) ∧ (0 ≤ x3 ∧ x3 ≤ 9) ∧ (0 ≤ x4 ∧ x4 ≤ 1000000000) ∧ (0 ≤ x5 ∧ x5 ≤ 9) ∧ (0 ≤ x6 ∧ x6 ≤ 99) ∧ True)
    (l0 : ∀ (τ : pm_S) (y : Nat → Int), an_GB pm_B τ → FQ [] σ τ → ((0 ≤ x0 ∧ x0 ≤ 9) ∧ (0 ≤ x1 ∧ x1 ≤ 1023) ∧ (1 ≤ x2 ∧ x2 ≤ 1023) ∧ (0 ≤ x3 ∧ x3 ≤ 9) ∧ (0 ≤ x4 ∧ x4 ≤ 1000000000) ∧ (0 ≤ x5 ∧ x5 ≤ 9) ∧ (0 ≤ x6 ∧ x6 ≤ 99) ∧ (1 ≤ y 7 ∧ y 7 ≤ 512) ∧ ((-513) ≤ y 8 ∧ y 8 ≤ (-2)) ∧ (0 ≤ y 9 ∧ y 9 ≤ 1023) ∧ (0 ≤ y 10 ∧ y 10 ≤ 10230) ∧ (0 ≤ y 11 ∧ y 11 ≤ 10239) ∧ ((-2147483648) ≤ y 12 ∧ y 12 ≤ 2147483647) ∧ ((-2147483648) ≤ y 13 ∧ y 13 ≤ 2147483647) ∧ True) → (y 9 ≤ x2 + 0 ∧ True) → ((an_f 6 (Int32.ofInt (1)) (Int32.ofInt (x5))).toInt = y 7 ∧ (an_f 5 (Int32.ofInt (y 7)) (Int32.ofInt ((-1)))).toInt = y 8 ∧ (an_f 3 (Int32.ofInt (x2)) (Int32.ofInt (y 8))).toInt = y 9 ∧ (an_f 2 (Int32.ofInt (10)) (Int32.ofInt (y 9))).toInt = y 10 ∧ (an_f 0 (Int32.ofInt (y 10)) (Int32.ofInt (x5))).toInt = y 11 ∧ (an_f 0 (Int32.ofInt (x6)) (Int32.ofInt (y 12))).toInt = y 13 ∧ True) → ((τ.1 129 (y 11).toNat).toInt = y 12 ∧ True) → Ok 224 21 74 [.ref 93, .int (Int32.ofInt (x0)), .int (Int32.ofInt (x1)), .int (Int32.ofInt (x2)), .int (Int32.ofInt (x3)), .int (Int32.ofInt (x4)), .int (Int32.ofInt (x5)), .int (Int32.ofInt (y 13))] [.int (Int32.ofInt (x4)), .int (Int32.ofInt (y 13))] τ Q)
    : Ok 224 21 56 [.ref 93, .int (Int32.ofInt (x0)), .int (Int32.ofInt (x1)), .int (Int32.ofInt (x2)), .int (Int32.ofInt (x3)), .int (Int32.ofInt (x4)), .int (Int32.ofInt (x5)), v7] [.int (Int32.ofInt (x6))] σ Q := by
  refine an_seg (B := pm_B) (F := []) (T := [129]) (S := []) (fun _ h => absurd h List.not_mem_nil) (k := 224) (d := 20) (cs := [74]) 20 56 7 [(0, 0, 9), (1, 0, 1023), (2, 1, 1023), (3, 0, 9), (4, 0, 1000000000), (5, 0, 9), (6, 0, 99)] [] [(2, 93, 0), (0, 0, 0), (0, 1, 0), (0, 2, 0), (0, 3, 0), (0, 4, 0), (0, 5, 0), (5, 0, 0)] [(0, 6, 0)] [(74, [(2, 93, 0), (0, 0, 0), (0, 1, 0), (0, 2, 0), (0, 3, 0), (0, 4, 0), (0, 5, 0), (0, 13, 0)], [(0, 4, 0), (0, 13, 0)], [(0, 0, 9), (1, 0, 1023), (2, 1, 1023), (3, 0, 9), (4, 0, 1000000000), (5, 0, 9), (6, 0, 99), (7, 1, 512), (8, (-513), (-2)), (9, 0, 1023), (10, 0, 10230), (11, 0, 10239), (12, (-2147483648), 2147483647), (13, (-2147483648), 2147483647)], [(1, 9, 2, 0)], [(6, (1, 0, 1), (0, 5, 0), 7), (5, (0, 7, 0), (1, 0, (-1)), 8), (3, (0, 2, 0), (0, 8, 0), 9), (2, (1, 0, 10), (0, 9, 0), 10), (0, (0, 10, 0), (0, 5, 0), 11), (0, (0, 6, 0), (0, 12, 0), 13)], [(129, (0, 11, 0), (0, 12, 0))])] (by decide +kernel) (ρ0 := (fun s => [x0, x1, x2, x3, x4, x5, x6].getD s 0)) hB eF trivial ⟨rfl, ⟨rfl, ⟨rfl, ⟨rfl, ⟨rfl, ⟨rfl, ⟨rfl, ⟨hv7, trivial⟩⟩⟩⟩⟩⟩⟩⟩ ⟨rfl, trivial⟩ ?_
  refine List.forall_mem_cons.mpr ⟨?_, fun _ h => absurd h List.not_mem_nil⟩
  · intro ρ τ Lc stc hx g1 g2 g3 g4 g5 g6 g7 g8
    have e0 : ρ 0 = x0 := hx 0 (by decide)
    have e1 : ρ 1 = x1 := hx 1 (by decide)
    have e2 : ρ 2 = x2 := hx 2 (by decide)
    have e3 : ρ 3 = x3 := hx 3 (by decide)
    have e4 : ρ 4 = x4 := hx 4 (by decide)
    have e5 : ρ 5 = x5 := hx 5 (by decide)
    have e6 : ρ 6 = x6 := hx 6 (by decide)
    subst e0
    subst e1
    subst e2
    subst e3
    subst e4
    subst e5
    subst e6
    have g7 := g7 (by decide)
    match Lc, stc, g7, g8 with
    | [v0, v1, v2, v3, v4, v5, v6, v7], [w0, w1], ⟨hv0, hv1, hv2, hv3, hv4, hv5, hv6, hv7, _⟩, ⟨hw0, hw1, _⟩ =>
      cases hv0
      cases hv1
      cases hv2
      cases hv3
      cases hv4
      cases hv5
      cases hv6
      cases hv7
      cases hw0
      cases hw1
      exact l0 τ ρ  g1 g2 g3 g4 g5 g6
set_option maxRecDepth 100000 in
theorem sv_f75 {σ : pm_S} {Q : Option Value → pm_S → Prop} (x0 x1 x2 x3 x4 x5 x6 : Int)  (hB : an_GB pm_B σ) (eF : (0 ≤ x0 ∧ x0 ≤ 9) ∧ (0 ≤ x1 ∧ x1 ≤ 1023) ∧ (1 ≤ x2 ∧ x2 ≤ 1023) ∧ (0 ≤ x3 ∧ x3 ≤ 9) ∧ (0 ≤ x4 ∧ x4 ≤ 1000000000) ∧ (0 ≤ x5 ∧ x5 ≤ 9) ∧ (0 ≤ x6 ∧ x6 ≤ 200000) ∧ True)
    (l0 : ∀ (τ : pm_S) (y : Nat → Int), an_GB pm_B τ → FQ [] σ τ → ((0 ≤ x0 ∧ x0 ≤ 9) ∧ (0 ≤ x1 ∧ x1 ≤ 1023) ∧ (1 ≤ x2 ∧ x2 ≤ 1023) ∧ (0 ≤ x3 ∧ x3 ≤ 9) ∧ (0 ≤ x4 ∧ x4 ≤ 1000000000) ∧ (0 ≤ x5 ∧ x5 ≤ 9) ∧ (0 ≤ x6 ∧ x6 ≤ 200000) ∧ True) → (True) → (True) → (True) → Ok 224 21 41 [.ref 93, .int (Int32.ofInt (x0)), .int (Int32.ofInt (x1)), .int (Int32.ofInt (x2)), .int (Int32.ofInt (x3)), .int (Int32.ofInt (x6)), .int (Int32.ofInt (x5 + 1)), .int (Int32.ofInt (x6))] [] τ Q)
    : Ok 224 21 75 [.ref 93, .int (Int32.ofInt (x0)), .int (Int32.ofInt (x1)), .int (Int32.ofInt (x2)), .int (Int32.ofInt (x3)), .int (Int32.ofInt (x4)), .int (Int32.ofInt (x5)), .int (Int32.ofInt (x6))] [] σ Q := by
  refine an_seg (B := pm_B) (F := []) (T := []) (S := []) (fun _ h => absurd h List.not_mem_nil) (k := 224) (d := 20) (cs := [41]) 7 75 7 [(0, 0, 9), (1, 0, 1023), (2, 1, 1023), (3, 0, 9), (4, 0, 1000000000), (5, 0, 9), (6, 0, 200000)] [] [(2, 93, 0), (0, 0, 0), (0, 1, 0), (0, 2, 0), (0, 3, 0), (0, 4, 0), (0, 5, 0), (0, 6, 0)] [] [(41, [(2, 93, 0), (0, 0, 0), (0, 1, 0), (0, 2, 0), (0, 3, 0), (0, 6, 0), (0, 5, 1), (0, 6, 0)], [], [(0, 0, 9), (1, 0, 1023), (2, 1, 1023), (3, 0, 9), (4, 0, 1000000000), (5, 0, 9), (6, 0, 200000)], [], [], [])] (by decide +kernel) (ρ0 := (fun s => [x0, x1, x2, x3, x4, x5, x6].getD s 0)) hB eF trivial ⟨rfl, ⟨rfl, ⟨rfl, ⟨rfl, ⟨rfl, ⟨rfl, ⟨rfl, ⟨rfl, trivial⟩⟩⟩⟩⟩⟩⟩⟩ trivial ?_
  refine List.forall_mem_cons.mpr ⟨?_, fun _ h => absurd h List.not_mem_nil⟩
  · intro ρ τ Lc stc hx g1 g2 g3 g4 g5 g6 g7 g8
    have e0 : ρ 0 = x0 := hx 0 (by decide)
    have e1 : ρ 1 = x1 := hx 1 (by decide)
    have e2 : ρ 2 = x2 := hx 2 (by decide)
    have e3 : ρ 3 = x3 := hx 3 (by decide)
    have e4 : ρ 4 = x4 := hx 4 (by decide)
    have e5 : ρ 5 = x5 := hx 5 (by decide)
    have e6 : ρ 6 = x6 := hx 6 (by decide)
    subst e0
    subst e1
    subst e2
    subst e3
    subst e4
    subst e5
    subst e6
    have g7 := g7 (by decide)
    match Lc, stc, g7, g8 with
    | [v0, v1, v2, v3, v4, v5, v6, v7], [], ⟨hv0, hv1, hv2, hv3, hv4, hv5, hv6, hv7, _⟩, _ =>
      cases hv0
      cases hv1
      cases hv2
      cases hv3
      cases hv4
      cases hv5
      cases hv6
      cases hv7
      exact l0 τ ρ  g1 g2 g3 g4 g5 g6
set_option maxRecDepth 100000 in
theorem sv_f77 {σ : pm_S} {Q : Option Value → pm_S → Prop} (x0 x1 x2 x3 x4 x5 x6 : Int)  (hB : an_GB pm_B σ) (eF : (0 ≤ x0 ∧ x0 ≤ 9) ∧ (0 ≤ x1 ∧ x1 ≤ 1023) ∧ (1 ≤ x2 ∧ x2 ≤ 1023) ∧ (0 ≤ x3 ∧ x3 ≤ 9) ∧ (0 ≤ x4 ∧ x4 ≤ 1000000000) ∧ (0 ≤ x5 ∧ x5 ≤ 9) ∧ (0 ≤ x6 ∧ x6 ≤ 200000) ∧ True)
    (l0 : ∀ (τ : pm_S) (y : Nat → Int), an_GB pm_B τ → FQ [] σ τ → ((0 ≤ x0 ∧ x0 ≤ 9) ∧ (0 ≤ x1 ∧ x1 ≤ 1023) ∧ (1 ≤ x2 ∧ x2 ≤ 1023) ∧ (0 ≤ x3 ∧ x3 ≤ 9) ∧ (0 ≤ x4 ∧ x4 ≤ 1000000000) ∧ (0 ≤ x5 ∧ x5 ≤ 9) ∧ (0 ≤ x6 ∧ x6 ≤ 200000) ∧ True) → (True) → (True) → (True) → Ok 224 21 41 [.ref 93, .int (Int32.ofInt (x0)), .int (Int32.ofInt (x1)), .int (Int32.ofInt (x2)), .int (Int32.ofInt (x3)), .int (Int32.ofInt (x4)), .int (Int32.ofInt (x5 + 1)), .int (Int32.ofInt (x6))] [] τ Q)
    : Ok 224 21 77 [.ref 93, .int (Int32.ofInt (x0)), .int (Int32.ofInt (x1)), .int (Int32.ofInt (x2)), .int (Int32.ofInt (x3)), .int (Int32.ofInt (x4)), .int (Int32.ofInt (x5)), .int (Int32.ofInt (x6))] [] σ Q := by
  refine an_seg (B := pm_B) (F := []) (T := []) (S := []) (fun _ h => absurd h List.not_mem_nil) (k := 224) (d := 20) (cs := [41]) 6 77 7 [(0, 0, 9), (1, 0, 1023), (2, 1, 1023), (3, 0, 9), (4, 0, 1000000000), (5, 0, 9), (6, 0, 200000)] [] [(2, 93, 0), (0, 0, 0), (0, 1, 0), (0, 2, 0), (0, 3, 0), (0, 4, 0), (0, 5, 0), (0, 6, 0)] [] [(41, [(2, 93, 0), (0, 0, 0), (0, 1, 0), (0, 2, 0), (0, 3, 0), (0, 4, 0), (0, 5, 1), (0, 6, 0)], [], [(0, 0, 9), (1, 0, 1023), (2, 1, 1023), (3, 0, 9), (4, 0, 1000000000), (5, 0, 9), (6, 0, 200000)], [], [], [])] (by decide +kernel) (ρ0 := (fun s => [x0, x1, x2, x3, x4, x5, x6].getD s 0)) hB eF trivial ⟨rfl, ⟨rfl, ⟨rfl, ⟨rfl, ⟨rfl, ⟨rfl, ⟨rfl, ⟨rfl, trivial⟩⟩⟩⟩⟩⟩⟩⟩ trivial ?_
  refine List.forall_mem_cons.mpr ⟨?_, fun _ h => absurd h List.not_mem_nil⟩
  · intro ρ τ Lc stc hx g1 g2 g3 g4 g5 g6 g7 g8
    have e0 : ρ 0 = x0 := hx 0 (by decide)
    have e1 : ρ 1 = x1 := hx 1 (by decide)
    have e2 : ρ 2 = x2 := hx 2 (by decide)
    have e3 : ρ 3 = x3 := hx 3 (by decide)
    have e4 : ρ 4 = x4 := hx 4 (by decide)
    have e5 : ρ 5 = x5 := hx 5 (by decide)
    have e6 : ρ 6 = x6 := hx 6 (by decide)
    subst e0
    subst e1
    subst e2
    subst e3
    subst e4
    subst e5
    subst e6
    have g7 := g7 (by decide)
    match Lc, stc, g7, g8 with
    | [v0, v1, v2, v3, v4, v5, v6, v7], [], ⟨hv0, hv1, hv2, hv3, hv4, hv5, hv6, hv7, _⟩, _ =>
      cases hv0
      cases hv1
      cases hv2
      cases hv3
      cases hv4
      cases hv5
      cases hv6
      cases hv7
      exact l0 τ ρ  g1 g2 g3 g4 g5 g6
set_option maxRecDepth 100000 in
theorem sv_f81 {σ : pm_S} {Q : Option Value → pm_S → Prop} (x0 x1 x2 x3 x4 x5 : Int) (v7 : Value) (hv7 : v7.category = 1) (hB : an_GB pm_B σ) (eF : (0 ≤ x0 ∧ x0 ≤ 9) ∧ (0 ≤ x1 ∧ x1 ≤ 1023) ∧ (1 ≤ x2 ∧ x2 ≤ 1023) ∧ (0 ≤ x3 ∧ x3 ≤ 9) ∧ (0 ≤ x4 ∧ x4 ≤ 1000000000) ∧ (0 ≤ x5 ∧ x5 ≤ 10) ∧ True)
    (l0 : ∀ (τ : pm_S) (y : Nat → Int) (v7 : Value), v7.category = 1 → an_GB pm_B τ → FQ [] σ τ → ((0 ≤ x0 ∧ x0 ≤ 9) ∧ (0 ≤ x1 ∧ x1 ≤ 1023) ∧ (1 ≤ x2 ∧ x2 ≤ 1023) ∧ (0 ≤ x3 ∧ x3 ≤ 9) ∧ (0 ≤ x4 ∧ x4 ≤ 1000000000) ∧ (0 ≤ x5 ∧ x5 ≤ 10) ∧ (10 ≤ y 6 ∧ y 6 ≤ 10230) ∧ (10 ≤ y 7 ∧ y 7 ≤ 10239) ∧ True) → (True) → ((an_f 2 (Int32.ofInt (10)) (Int32.ofInt (x2))).toInt = y 6 ∧ (an_f 0 (Int32.ofInt (y 6)) (Int32.ofInt (x3))).toInt = y 7 ∧ True) → (True) → Ok 224 21 89 [.ref 93, .int (Int32.ofInt (x0)), .int (Int32.ofInt (x1)), .int (Int32.ofInt (x2)), .int (Int32.ofInt (x3)), .int (Int32.ofInt (x4)), .int (Int32.ofInt (x5)), v7] [.int (Int32.ofInt (x4)), .int (Int32.ofInt (y 7)), .ref 129] τ Q)
    : Ok 224 21 81 [.ref 93, .int (Int32.ofInt (x0)), .int (Int32.ofInt (x1)), .int (Int32.ofInt (x2)), .int (Int32.ofInt (x3)), .int (Int32.ofInt (x4)), .int (Int32.ofInt (x5)), v7] [] σ Q := by
  refine an_seg (B := pm_B) (F := []) (T := []) (S := []) (fun _ h => absurd h List.not_mem_nil) (k := 224) (d := 20) (cs := [89]) 10 81 6 [(0, 0, 9), (1, 0, 1023), (2, 1, 1023), (3, 0, 9), (4, 0, 1000000000), (5, 0, 10)] [] [(2, 93, 0), (0, 0, 0), (0, 1, 0), (0, 2, 0), (0, 3, 0), (0, 4, 0), (0, 5, 0), (5, 0, 0)] [] [(89, [(2, 93, 0), (0, 0, 0), (0, 1, 0), (0, 2, 0), (0, 3, 0), (0, 4, 0), (0, 5, 0), (5, 0, 0)], [(0, 4, 0), (0, 7, 0), (2, 129, 0)], [(0, 0, 9), (1, 0, 1023), (2, 1, 1023), (3, 0, 9), (4, 0, 1000000000), (5, 0, 10), (6, 10, 10230), (7, 10, 10239)], [], [(2, (1, 0, 10), (0, 2, 0), 6), (0, (0, 6, 0), (0, 3, 0), 7)], [])] (by decide +kernel) (ρ0 := (fun s => [x0, x1, x2, x3, x4, x5].getD s 0)) hB eF trivial ⟨rfl, ⟨rfl, ⟨rfl, ⟨rfl, ⟨rfl, ⟨rfl, ⟨rfl, ⟨hv7, trivial⟩⟩⟩⟩⟩⟩⟩⟩ trivial ?_
  refine List.forall_mem_cons.mpr ⟨?_, fun _ h => absurd h List.not_mem_nil⟩
  · intro ρ τ Lc stc hx g1 g2 g3 g4 g5 g6 g7 g8
    have e0 : ρ 0 = x0 := hx 0 (by decide)
    have e1 : ρ 1 = x1 := hx 1 (by decide)
    have e2 : ρ 2 = x2 := hx 2 (by decide)
    have e3 : ρ 3 = x3 := hx 3 (by decide)
    have e4 : ρ 4 = x4 := hx 4 (by decide)
    have e5 : ρ 5 = x5 := hx 5 (by decide)
    subst e0
    subst e1
    subst e2
    subst e3
    subst e4
    subst e5
    have g7 := g7 (by decide)
    match Lc, stc, g7, g8 with
    | [v0, v1, v2, v3, v4, v5, v6, v7], [w0, w1, w2], ⟨hv0, hv1, hv2, hv3, hv4, hv5, hv6, hv7, _⟩, ⟨hw0, hw1, hw2, _⟩ =>
      cases hv0
      cases hv1
      cases hv2
      cases hv3
      cases hv4
      cases hv5
      cases hv6
      cases hw0
      cases hw1
      cases hw2
      exact l0 τ ρ v7 hv7 g1 g2 g3 g4 g5 g6
set_option maxRecDepth 100000 in
theorem sv_f90 {σ : pm_S} {Q : Option Value → pm_S → Prop} (x0 x1 x2 x3 x4 x5 : Int) (v7 : Value) (hv7 : v7.category = 1) (hB : an_GB pm_B σ) (eF : (0 ≤ x0 ∧ x0 ≤ 9) ∧ (0 ≤ x1 ∧ x1 ≤ 1023) ∧ (1 ≤ x2 ∧ x2 ≤ 1023) ∧ (0 ≤ x3 ∧ x3 ≤ 9) ∧ (0 ≤ x4 ∧ x4 ≤ 1000000000) ∧ (0 ≤ x5 ∧ x5 ≤ 10) ∧ True)
    (l0 : ∀ (τ : pm_S) (y : Nat → Int) (v7 : Value), v7.category = 1 → an_GB pm_B τ → FQ [] σ τ → ((0 ≤ x0 ∧ x0 ≤ 9) ∧ (0 ≤ x1 ∧ x1 ≤ 1023) ∧ (1 ≤ x2 ∧ x2 ≤ 1023) ∧ (0 ≤ x3 ∧ x3 ≤ 9) ∧ (0 ≤ x4 ∧ x4 ≤ 1000000000) ∧ (0 ≤ x5 ∧ x5 ≤ 10) ∧ True) → (True) → (True) → (True) → Ok 224 21 33 [.ref 93, .int (Int32.ofInt (x0)), .int (Int32.ofInt (x1)), .int (Int32.ofInt (x2)), .int (Int32.ofInt (x3 + 1)), .int (Int32.ofInt (x4)), .int (Int32.ofInt (x5)), v7] [] τ Q)
    : Ok 224 21 90 [.ref 93, .int (Int32.ofInt (x0)), .int (Int32.ofInt (x1)), .int (Int32.ofInt (x2)), .int (Int32.ofInt (x3)), .int (Int32.ofInt (x4)), .int (Int32.ofInt (x5)), v7] [] σ Q := by
  refine an_seg (B := pm_B) (F := []) (T := []) (S := []) (fun _ h => absurd h List.not_mem_nil) (k := 224) (d := 20) (cs := [33]) 4 90 6 [(0, 0, 9), (1, 0, 1023), (2, 1, 1023), (3, 0, 9), (4, 0, 1000000000), (5, 0, 10)] [] [(2, 93, 0), (0, 0, 0), (0, 1, 0), (0, 2, 0), (0, 3, 0), (0, 4, 0), (0, 5, 0), (5, 0, 0)] [] [(33, [(2, 93, 0), (0, 0, 0), (0, 1, 0), (0, 2, 0), (0, 3, 1), (0, 4, 0), (0, 5, 0), (5, 0, 0)], [], [(0, 0, 9), (1, 0, 1023), (2, 1, 1023), (3, 0, 9), (4, 0, 1000000000), (5, 0, 10)], [], [], [])] (by decide +kernel) (ρ0 := (fun s => [x0, x1, x2, x3, x4, x5].getD s 0)) hB eF trivial ⟨rfl, ⟨rfl, ⟨rfl, ⟨rfl, ⟨rfl, ⟨rfl, ⟨rfl, ⟨hv7, trivial⟩⟩⟩⟩⟩⟩⟩⟩ trivial ?_
  refine List.forall_mem_cons.mpr ⟨?_, fun _ h => absurd h List.not_mem_nil⟩
  · intro ρ τ Lc stc hx g1 g2 g3 g4 g5 g6 g7 g8
    have e0 : ρ 0 = x0 := hx 0 (by decide)
    have e1 : ρ 1 = x1 := hx 1 (by decide)
    have e2 : ρ 2 = x2 := hx 2 (by decide)
    have e3 : ρ 3 = x3 := hx 3 (by decide)
    have e4 : ρ 4 = x4 := hx 4 (by decide)
    have e5 : ρ 5 = x5 := hx 5 (by decide)
    subst e0
    subst e1
    subst e2
    subst e3
    subst e4
    subst e5
    have g7 := g7 (by decide)
    match Lc, stc, g7, g8 with
    | [v0, v1, v2, v3, v4, v5, v6, v7], [], ⟨hv0, hv1, hv2, hv3, hv4, hv5, hv6, hv7, _⟩, _ =>
      cases hv0
      cases hv1
      cases hv2
      cases hv3
      cases hv4
      cases hv5
      cases hv6
      exact l0 τ ρ v7 hv7 g1 g2 g3 g4 g5 g6
set_option maxRecDepth 100000 in
theorem sv_f92 {σ : pm_S} {Q : Option Value → pm_S → Prop} (x0 x1 x2 : Int) (v4 : Value) (v5 : Value) (v6 : Value) (v7 : Value) (hv4 : v4.category = 1) (hv5 : v5.category = 1) (hv6 : v6.category = 1) (hv7 : v7.category = 1) (hB : an_GB pm_B σ) (eF : (0 ≤ x0 ∧ x0 ≤ 9) ∧ (0 ≤ x1 ∧ x1 ≤ 1023) ∧ (1 ≤ x2 ∧ x2 ≤ 1023) ∧ True)
    (l0 : ∀ (τ : pm_S) (y : Nat → Int) (v4 : Value) (v5 : Value) (v6 : Value) (v7 : Value), v4.category = 1 → v5.category = 1 → v6.category = 1 → v7.category = 1 → an_GB pm_B τ → FQ [] σ τ → ((0 ≤ x0 ∧ x0 ≤ 9) ∧ (0 ≤ x1 ∧ x1 ≤ 1023) ∧ (1 ≤ x2 ∧ x2 ≤ 1023) ∧ True) → (True) → (True) → (True) → Ok 224 21 18 [.ref 93, .int (Int32.ofInt (x0)), .int (Int32.ofInt (x1)), .int (Int32.ofInt (x2 + 1)), v4, v5, v6, v7] [] τ Q)
    : Ok 224 21 92 [.ref 93, .int (Int32.ofInt (x0)), .int (Int32.ofInt (x1)), .int (Int32.ofInt (x2)), v4, v5, v6, v7] [] σ Q := by
  refine an_seg (B := pm_B) (F := []) (T := []) (S := []) (fun _ h => absurd h List.not_mem_nil) (k := 224) (d := 20) (cs := [18]) 4 92 3 [(0, 0, 9), (1, 0, 1023), (2, 1, 1023)] [] [(2, 93, 0), (0, 0, 0), (0, 1, 0), (0, 2, 0), (5, 0, 0), (5, 0, 0), (5, 0, 0), (5, 0, 0)] [] [(18, [(2, 93, 0), (0, 0, 0), (0, 1, 0), (0, 2, 1), (5, 0, 0), (5, 0, 0), (5, 0, 0), (5, 0, 0)], [], [(0, 0, 9), (1, 0, 1023), (2, 1, 1023)], [], [], [])] (by decide +kernel) (ρ0 := (fun s => [x0, x1, x2].getD s 0)) hB eF trivial ⟨rfl, ⟨rfl, ⟨rfl, ⟨rfl, ⟨hv4, ⟨hv5, ⟨hv6, ⟨hv7, trivial⟩⟩⟩⟩⟩⟩⟩⟩ trivial ?_
  refine List.forall_mem_cons.mpr ⟨?_, fun _ h => absurd h List.not_mem_nil⟩
  · intro ρ τ Lc stc hx g1 g2 g3 g4 g5 g6 g7 g8
    have e0 : ρ 0 = x0 := hx 0 (by decide)
    have e1 : ρ 1 = x1 := hx 1 (by decide)
    have e2 : ρ 2 = x2 := hx 2 (by decide)
    subst e0
    subst e1
    subst e2
    have g7 := g7 (by decide)
    match Lc, stc, g7, g8 with
    | [v0, v1, v2, v3, v4, v5, v6, v7], [], ⟨hv0, hv1, hv2, hv3, hv4, hv5, hv6, hv7, _⟩, _ =>
      cases hv0
      cases hv1
      cases hv2
      cases hv3
      exact l0 τ ρ v4 v5 v6 v7 hv4 hv5 hv6 hv7 g1 g2 g3 g4 g5 g6
set_option maxRecDepth 100000 in
theorem sv_f94 {σ : pm_S} {Q : Option Value → pm_S → Prop} (x0 x1 x2 : Int) (v4 : Value) (v5 : Value) (v6 : Value) (v7 : Value) (hv4 : v4.category = 1) (hv5 : v5.category = 1) (hv6 : v6.category = 1) (hv7 : v7.category = 1) (hB : an_GB pm_B σ) (eF : (0 ≤ x0 ∧ x0 ≤ 9) ∧ (0 ≤ x1 ∧ x1 ≤ 1023) ∧ (1 ≤ x2 ∧ x2 ≤ 1024) ∧ True)
    (l0 : ∀ (τ : pm_S) (y : Nat → Int), an_GB pm_B τ → FQ [] σ τ → ((0 ≤ x0 ∧ x0 ≤ 9) ∧ (0 ≤ x1 ∧ x1 ≤ 1023) ∧ (1 ≤ x2 ∧ x2 ≤ 1024) ∧ (0 ≤ y 3 ∧ y 3 ≤ 10230) ∧ (0 ≤ y 4 ∧ y 4 ≤ 10239) ∧ ((-2147483648) ≤ y 5 ∧ y 5 ≤ 2147483647) ∧ True) → (True) → ((an_f 2 (Int32.ofInt (10)) (Int32.ofInt (x1))).toInt = y 3 ∧ (an_f 0 (Int32.ofInt (y 3)) (Int32.ofInt (x0))).toInt = y 4 ∧ True) → ((τ.1 129 (y 4).toNat).toInt = y 5 ∧ True) → Q (some (.int (Int32.ofInt (y 5)))) τ)
    : Ok 224 21 94 [.ref 93, .int (Int32.ofInt (x0)), .int (Int32.ofInt (x1)), .int (Int32.ofInt (x2)), v4, v5, v6, v7] [] σ Q := by
  refine an_seg (B := pm_B) (F := []) (T := [129]) (S := []) (fun _ h => absurd h List.not_mem_nil) (k := 224) (d := 20) (cs := []) 11 94 3 [(0, 0, 9), (1, 0, 1023), (2, 1, 1024)] [] [(2, 93, 0), (0, 0, 0), (0, 1, 0), (0, 2, 0), (5, 0, 0), (5, 0, 0), (5, 0, 0), (5, 0, 0)] [] [(9999, [], [(0, 5, 0)], [(0, 0, 9), (1, 0, 1023), (2, 1, 1024), (3, 0, 10230), (4, 0, 10239), (5, (-2147483648), 2147483647)], [], [(2, (1, 0, 10), (0, 1, 0), 3), (0, (0, 3, 0), (0, 0, 0), 4)], [(129, (0, 4, 0), (0, 5, 0))])] (by decide +kernel) (ρ0 := (fun s => [x0, x1, x2].getD s 0)) hB eF trivial ⟨rfl, ⟨rfl, ⟨rfl, ⟨rfl, ⟨hv4, ⟨hv5, ⟨hv6, ⟨hv7, trivial⟩⟩⟩⟩⟩⟩⟩⟩ trivial ?_
  refine List.forall_mem_cons.mpr ⟨?_, fun _ h => absurd h List.not_mem_nil⟩
  · intro ρ τ Lc stc hx g1 g2 g3 g4 g5 g6 g7 g8
    have e0 : ρ 0 = x0 := hx 0 (by decide)
    have e1 : ρ 1 = x1 := hx 1 (by decide)
    have e2 : ρ 2 = x2 := hx 2 (by decide)
    subst e0
    subst e1
    subst e2
    match stc, g8 with
    | [_], ⟨h, _⟩ => cases h; exact l0 τ ρ g1 g2 g3 g4 g5 g6
set_option maxRecDepth 100000 in
theorem sv_t0 {σ : pm_S} {Q : Option Value → pm_S → Prop} (x0 x1 x2 : Int)  (hB : an_GB pm_B σ) (eF : ((-2147483648) ≤ x0 ∧ x0 ≤ 2147483647) ∧ ((-2147483648) ≤ x1 ∧ x1 ≤ 2147483647) ∧ (0 ≤ x2 ∧ x2 ≤ 10) ∧ True) (eC : (σ.1 93 2).toInt = x2 ∧ True)
    (l0 : ∀ (τ : pm_S) (y : Nat → Int), an_GB pm_B τ → FQ [(93, 0)] σ τ → (((-2147483648) ≤ x0 ∧ x0 ≤ 2147483647) ∧ ((-2147483648) ≤ x1 ∧ x1 ≤ 2147483647) ∧ (0 ≤ x2 ∧ x2 ≤ 10) ∧ True) → (True) → (True) → ((τ.1 93 2).toInt = x2 ∧ True) → Ok 225 23 5 [.ref 93, .int (Int32.ofInt (x0)), .int (Int32.ofInt (x1))] [.int (Int32.ofInt (x0)), .ref 93] τ Q)
    : Ok 225 23 0 [.ref 93, .int (Int32.ofInt (x0)), .int (Int32.ofInt (x1))] [] σ Q := by
  refine an_seg (B := pm_B) (F := [(93, 0)]) (T := []) (S := []) (fun _ h => absurd h List.not_mem_nil) (k := 225) (d := 22) (cs := [5]) 7 0 3 [(0, (-2147483648), 2147483647), (1, (-2147483648), 2147483647), (2, 0, 10)] [(93, (1, 0, 2), (0, 2, 0))] [(2, 93, 0), (0, 0, 0), (0, 1, 0)] [] [(5, [(2, 93, 0), (0, 0, 0), (0, 1, 0)], [(0, 0, 0), (2, 93, 0)], [(0, (-2147483648), 2147483647), (1, (-2147483648), 2147483647), (2, 0, 10)], [], [], [(93, (1, 0, 2), (0, 2, 0))])] (by decide +kernel) (ρ0 := (fun s => [x0, x1, x2].getD s 0)) hB eF eC ⟨rfl, ⟨rfl, ⟨rfl, trivial⟩⟩⟩ trivial ?_
  refine List.forall_mem_cons.mpr ⟨?_, fun _ h => absurd h List.not_mem_nil⟩
  · intro ρ τ Lc stc hx g1 g2 g3 g4 g5 g6 g7 g8
    have e0 : ρ 0 = x0 := hx 0 (by decide)
    have e1 : ρ 1 = x1 := hx 1 (by decide)
    have e2 : ρ 2 = x2 := hx 2 (by decide)
    subst e0
    subst e1
    subst e2
    have g7 := g7 (by decide)
    match Lc, stc, g7, g8 with
    | [v0, v1, v2], [w0, w1], ⟨hv0, hv1, hv2, _⟩, ⟨hw0, hw1, _⟩ =>
      cases hv0
      cases hv1
      cases hv2
      cases hw0
      cases hw1
      exact l0 τ ρ  g1 g2 g3 g4 g5 g6
set_option maxRecDepth 100000 in
theorem sv_t6n {σ : pm_S} {Q : Option Value → pm_S → Prop} (v1 : Value) (v2 : Value) (hv1 : v1.category = 1) (hv2 : v2.category = 1) (hB : an_GB pm_B σ)
    (l0 : ∀ (τ : pm_S) (y : Nat → Int), an_GB pm_B τ → FQ [] σ τ → (True) → (True) → (True) → (True) → Q (some (.int (Int32.ofInt (-1)))) τ)
    : Ok 225 23 6 [.ref 93, v1, v2] [.int (Int32.ofInt 0)] σ Q := by
  refine an_seg (B := pm_B) (F := []) (T := []) (S := []) (fun _ h => absurd h List.not_mem_nil) (k := 225) (d := 22) (cs := []) 5 6 0 [] [] [(2, 93, 0), (5, 0, 0), (5, 0, 0)] [(1, 0, 0)] [(9999, [], [(1, 0, (-1))], [], [], [], [])] (by decide +kernel) (ρ0 := (fun s => [].getD s 0)) hB trivial trivial ⟨rfl, ⟨hv1, ⟨hv2, trivial⟩⟩⟩ ⟨rfl, trivial⟩ ?_
  refine List.forall_mem_cons.mpr ⟨?_, fun _ h => absurd h List.not_mem_nil⟩
  · intro ρ τ Lc stc hx g1 g2 g3 g4 g5 g6 g7 g8
    match stc, g8 with
    | [_], ⟨h, _⟩ => cases h; exact l0 τ ρ g1 g2 g3 g4 g5 g6
set_option maxRecDepth 100000 in
theorem sv_t6 {σ : pm_S} {Q : Option Value → pm_S → Prop} (x0 x1 x2 : Int)  (hB : an_GB pm_B σ) (eF : (0 ≤ x0 ∧ x0 ≤ 9) ∧ ((-2147483648) ≤ x1 ∧ x1 ≤ 2147483647) ∧ (0 ≤ x2 ∧ x2 ≤ 10) ∧ True) (eC : (σ.1 93 2).toInt = x2 ∧ True)
    (l0 : ∀ (τ : pm_S) (y : Nat → Int), an_GB pm_B τ → FQ [] σ τ → ((0 ≤ x0 ∧ x0 ≤ 9) ∧ ((-2147483648) ≤ x1 ∧ x1 ≤ 2147483647) ∧ (0 ≤ x2 ∧ x2 ≤ 10) ∧ (1 ≤ y 3 ∧ y 3 ≤ 1024) ∧ True) → (True) → ((an_f 6 (Int32.ofInt (1)) (Int32.ofInt (x2))).toInt = y 3 ∧ True) → ((τ.1 93 2).toInt = x2 ∧ True) → Ok 225 23 16 [.ref 93, .int (Int32.ofInt (x0)), .int (Int32.ofInt (x1))] [.int (Int32.ofInt (y 3 + (-1))), .int (Int32.ofInt 0), .int (Int32.ofInt (x1)), .ref 93] τ Q)
    : Ok 225 23 6 [.ref 93, .int (Int32.ofInt (x0)), .int (Int32.ofInt (x1))] [.int (Int32.ofInt 1)] σ Q := by
  refine an_seg (B := pm_B) (F := []) (T := []) (S := []) (fun _ h => absurd h List.not_mem_nil) (k := 225) (d := 22) (cs := [16]) 12 6 3 [(0, 0, 9), (1, (-2147483648), 2147483647), (2, 0, 10)] [(93, (1, 0, 2), (0, 2, 0))] [(2, 93, 0), (0, 0, 0), (0, 1, 0)] [(1, 0, 1)] [(16, [(2, 93, 0), (0, 0, 0), (0, 1, 0)], [(0, 3, (-1)), (1, 0, 0), (0, 1, 0), (2, 93, 0)], [(0, 0, 9), (1, (-2147483648), 2147483647), (2, 0, 10), (3, 1, 1024)], [], [(6, (1, 0, 1), (0, 2, 0), 3)], [(93, (1, 0, 2), (0, 2, 0))])] (by decide +kernel) (ρ0 := (fun s => [x0, x1, x2].getD s 0)) hB eF eC ⟨rfl, ⟨rfl, ⟨rfl, trivial⟩⟩⟩ ⟨rfl, trivial⟩ ?_
  refine List.forall_mem_cons.mpr ⟨?_, fun _ h => absurd h List.not_mem_nil⟩
  · intro ρ τ Lc stc hx g1 g2 g3 g4 g5 g6 g7 g8
    have e0 : ρ 0 = x0 := hx 0 (by decide)
    have e1 : ρ 1 = x1 := hx 1 (by decide)
    have e2 : ρ 2 = x2 := hx 2 (by decide)
    subst e0
    subst e1
    subst e2
    have g7 := g7 (by decide)
    match Lc, stc, g7, g8 with
    | [v0, v1, v2], [w0, w1, w2, w3], ⟨hv0, hv1, hv2, _⟩, ⟨hw0, hw1, hw2, hw3, _⟩ =>
      cases hv0
      cases hv1
      cases hv2
      cases hw0
      cases hw1
      cases hw2
      cases hw3
      exact l0 τ ρ  g1 g2 g3 g4 g5 g6
set_option maxRecDepth 100000 in
theorem sv_t17n {σ : pm_S} {Q : Option Value → pm_S → Prop} (v1 : Value) (v2 : Value) (hv1 : v1.category = 1) (hv2 : v2.category = 1) (hB : an_GB pm_B σ)
    (l0 : ∀ (τ : pm_S) (y : Nat → Int), an_GB pm_B τ → FQ [] σ τ → (True) → (True) → (True) → (True) → Q (some (.int (Int32.ofInt (-1)))) τ)
    : Ok 225 23 17 [.ref 93, v1, v2] [.int (Int32.ofInt 0)] σ Q := by
  refine an_seg (B := pm_B) (F := []) (T := []) (S := []) (fun _ h => absurd h List.not_mem_nil) (k := 225) (d := 22) (cs := []) 5 17 0 [] [] [(2, 93, 0), (5, 0, 0), (5, 0, 0)] [(1, 0, 0)] [(9999, [], [(1, 0, (-1))], [], [], [], [])] (by decide +kernel) (ρ0 := (fun s => [].getD s 0)) hB trivial trivial ⟨rfl, ⟨hv1, ⟨hv2, trivial⟩⟩⟩ ⟨rfl, trivial⟩ ?_
  refine List.forall_mem_cons.mpr ⟨?_, fun _ h => absurd h List.not_mem_nil⟩
  · intro ρ τ Lc stc hx g1 g2 g3 g4 g5 g6 g7 g8
    match stc, g8 with
    | [_], ⟨h, _⟩ => cases h; exact l0 τ ρ g1 g2 g3 g4 g5 g6
set_option maxRecDepth 100000 in
theorem sv_t17 {σ : pm_S} {Q : Option Value → pm_S → Prop} (x0 x1 : Int)  (hB : an_GB pm_B σ) (eF : (0 ≤ x0 ∧ x0 ≤ 9) ∧ (0 ≤ x1 ∧ x1 ≤ 1023) ∧ True)
    (l0 : ∀ (τ : pm_S) (y : Nat → Int), an_GB pm_B τ → FQ [] σ τ → ((0 ≤ x0 ∧ x0 ≤ 9) ∧ (0 ≤ x1 ∧ x1 ≤ 1023) ∧ (1 ≤ y 2 ∧ y 2 ≤ 512) ∧ ((-513) ≤ y 3 ∧ y 3 ≤ (-2)) ∧ (0 ≤ y 4 ∧ y 4 ≤ 1023) ∧ True) → (y 4 ≤ x1 + 0 ∧ True) → ((an_f 6 (Int32.ofInt (1)) (Int32.ofInt (x0))).toInt = y 2 ∧ (an_f 5 (Int32.ofInt (y 2)) (Int32.ofInt ((-1)))).toInt = y 3 ∧ (an_f 3 (Int32.ofInt (x1)) (Int32.ofInt (y 3))).toInt = y 4 ∧ True) → (True) → Ok 225 23 27 [.ref 93, .int (Int32.ofInt (x0)), .int (Int32.ofInt (x1))] [.int (Int32.ofInt (y 4)), .int (Int32.ofInt (x0)), .ref 93] τ Q)
    : Ok 225 23 17 [.ref 93, .int (Int32.ofInt (x0)), .int (Int32.ofInt (x1))] [.int (Int32.ofInt 1)] σ Q := by
  refine an_seg (B := pm_B) (F := []) (T := []) (S := []) (fun _ h => absurd h List.not_mem_nil) (k := 225) (d := 22) (cs := [27]) 12 17 2 [(0, 0, 9), (1, 0, 1023)] [] [(2, 93, 0), (0, 0, 0), (0, 1, 0)] [(1, 0, 1)] [(27, [(2, 93, 0), (0, 0, 0), (0, 1, 0)], [(0, 4, 0), (0, 0, 0), (2, 93, 0)], [(0, 0, 9), (1, 0, 1023), (2, 1, 512), (3, (-513), (-2)), (4, 0, 1023)], [(1, 4, 1, 0)], [(6, (1, 0, 1), (0, 0, 0), 2), (5, (0, 2, 0), (1, 0, (-1)), 3), (3, (0, 1, 0), (0, 3, 0), 4)], [])] (by decide +kernel) (ρ0 := (fun s => [x0, x1].getD s 0)) hB eF trivial ⟨rfl, ⟨rfl, ⟨rfl, trivial⟩⟩⟩ ⟨rfl, trivial⟩ ?_
  refine List.forall_mem_cons.mpr ⟨?_, fun _ h => absurd h List.not_mem_nil⟩
  · intro ρ τ Lc stc hx g1 g2 g3 g4 g5 g6 g7 g8
    have e0 : ρ 0 = x0 := hx 0 (by decide)
    have e1 : ρ 1 = x1 := hx 1 (by decide)
    subst e0
    subst e1
    have g7 := g7 (by decide)
    match Lc, stc, g7, g8 with
    | [v0, v1, v2], [w0, w1, w2], ⟨hv0, hv1, hv2, _⟩, ⟨hw0, hw1, hw2, _⟩ =>
      cases hv0
      cases hv1
      cases hv2
      cases hw0
      cases hw1
      cases hw2
      exact l0 τ ρ  g1 g2 g3 g4 g5 g6
set_option maxRecDepth 100000 in
theorem sv_t28 {σ : pm_S} {Q : Option Value → pm_S → Prop} (x0 x1 x2 : Int)  (hB : an_GB pm_B σ) (eF : (0 ≤ x0 ∧ x0 ≤ 9) ∧ (0 ≤ x1 ∧ x1 ≤ 1023) ∧ ((-2147483648) ≤ x2 ∧ x2 ≤ 2147483647) ∧ True)
    (l0 : ∀ (τ : pm_S) (y : Nat → Int), an_GB pm_B τ → FQ [] σ τ → ((0 ≤ x0 ∧ x0 ≤ 9) ∧ (0 ≤ x1 ∧ x1 ≤ 1023) ∧ ((-2147483648) ≤ x2 ∧ x2 ≤ 2147483647) ∧ True) → (True) → (True) → (True) → Q (some (.int (Int32.ofInt (x2)))) τ)
    : Ok 225 23 28 [.ref 93, .int (Int32.ofInt (x0)), .int (Int32.ofInt (x1))] [.int (Int32.ofInt (x2))] σ Q := by
  refine an_seg (B := pm_B) (F := []) (T := []) (S := []) (fun _ h => absurd h List.not_mem_nil) (k := 225) (d := 22) (cs := []) 4 28 3 [(0, 0, 9), (1, 0, 1023), (2, (-2147483648), 2147483647)] [] [(2, 93, 0), (0, 0, 0), (0, 1, 0)] [(0, 2, 0)] [(9999, [], [(0, 2, 0)], [(0, 0, 9), (1, 0, 1023), (2, (-2147483648), 2147483647)], [], [], [])] (by decide +kernel) (ρ0 := (fun s => [x0, x1, x2].getD s 0)) hB eF trivial ⟨rfl, ⟨rfl, ⟨rfl, trivial⟩⟩⟩ ⟨rfl, trivial⟩ ?_
  refine List.forall_mem_cons.mpr ⟨?_, fun _ h => absurd h List.not_mem_nil⟩
  · intro ρ τ Lc stc hx g1 g2 g3 g4 g5 g6 g7 g8
    have e0 : ρ 0 = x0 := hx 0 (by decide)
    have e1 : ρ 1 = x1 := hx 1 (by decide)
    have e2 : ρ 2 = x2 := hx 2 (by decide)
    subst e0
    subst e1
    subst e2
    match stc, g8 with
    | [_], ⟨h, _⟩ => cases h; exact l0 τ ρ g1 g2 g3 g4 g5 g6
