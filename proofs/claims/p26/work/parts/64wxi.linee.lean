/-! line of both sides exactly -/
set_option maxRecDepth 100000 in
theorem x_ladd_s0 {σ : pm_S} {Q : Option Value → pm_S → Prop} (x0 x1 x2 x3 x4 : Int)  (hB : an_GB pm_B σ) (eF : (0 ≤ x0 ∧ x0 ≤ 9999) ∧ (0 ≤ x1 ∧ x1 ≤ 9) ∧ ((-1) ≤ x2 ∧ x2 ≤ 9) ∧ ((-1) ≤ x3 ∧ x3 ≤ 9) ∧ (0 ≤ x4 ∧ x4 ≤ 30) ∧ True) (eC : (σ.1 21 0).toInt = x4 ∧ True)
    (l0 : ∀ (τ : pm_S) (y : Nat → Int), an_GB pm_B τ → FQ [(21, 0)] σ τ → ((0 ≤ x0 ∧ x0 ≤ 9999) ∧ (0 ≤ x1 ∧ x1 ≤ 9) ∧ ((-1) ≤ x2 ∧ x2 ≤ 9) ∧ ((-1) ≤ x3 ∧ x3 ≤ 9) ∧ (0 ≤ x4 ∧ x4 ≤ 29) ∧ True) → (True) → (True) → ((τ.1 21 0).toInt = x4 ∧ True) → Ok 51 21 11 [.ref 21, .int (Int32.ofInt (x0)), .int (Int32.ofInt (x1)), .int (Int32.ofInt (x2)), .int (Int32.ofInt (x3))] [.int (Int32.ofInt (x0)), .int (Int32.ofInt (x4)), .ref 22] τ Q)
    (l1 : ∀ (τ : pm_S) (y : Nat → Int), an_GB pm_B τ → FQ [(21, 0)] σ τ → ((0 ≤ x0 ∧ x0 ≤ 9999) ∧ (0 ≤ x1 ∧ x1 ≤ 9) ∧ ((-1) ≤ x2 ∧ x2 ≤ 9) ∧ ((-1) ≤ x3 ∧ x3 ≤ 9) ∧ (30 ≤ x4 ∧ x4 ≤ 30) ∧ True) → (True) → (True) → ((τ.1 21 0).toInt = x4 ∧ True) → Q (some (.int (Int32.ofInt (-1)))) τ)
    : Ok 51 21 0 [.ref 21, .int (Int32.ofInt (x0)), .int (Int32.ofInt (x1)), .int (Int32.ofInt (x2)), .int (Int32.ofInt (x3))] [] σ Q := by
  refine an_seg (B := pm_B) (F := [(21, 0)]) (T := []) (S := []) (fun _ h => absurd h List.not_mem_nil) (k := 51) (d := 20) (cs := [11, 17, 23, 29]) 11 0 5 [(0, 0, 9999), (1, 0, 9), (2, (-1), 9), (3, (-1), 9), (4, 0, 30)] [(21, (1, 0, 0), (0, 4, 0))] [(2, 21, 0), (0, 0, 0), (0, 1, 0), (0, 2, 0), (0, 3, 0)] [] [(11, [(2, 21, 0), (0, 0, 0), (0, 1, 0), (0, 2, 0), (0, 3, 0)], [(0, 0, 0), (0, 4, 0), (2, 22, 0)], [(0, 0, 9999), (1, 0, 9), (2, (-1), 9), (3, (-1), 9), (4, 0, 29)], [], [], [(21, (1, 0, 0), (0, 4, 0))]),
    (9999, [], [(1, 0, (-1))], [(0, 0, 9999), (1, 0, 9), (2, (-1), 9), (3, (-1), 9), (4, 30, 30)], [], [], [(21, (1, 0, 0), (0, 4, 0))])] (by decide +kernel) (ρ0 := (fun s => [x0, x1, x2, x3, x4].getD s 0)) hB eF eC ⟨rfl, ⟨rfl, ⟨rfl, ⟨rfl, ⟨rfl, trivial⟩⟩⟩⟩⟩ trivial ?_
  refine List.forall_mem_cons.mpr ⟨?_, List.forall_mem_cons.mpr ⟨?_, fun _ h => absurd h List.not_mem_nil⟩⟩
  · intro ρ τ Lc stc hx g1 g2 g3 g4 g5 g6 g7 g8
    have e0 : ρ 0 = x0 := hx 0 (by decide)
    have e1 : ρ 1 = x1 := hx 1 (by decide)
    have e2 : ρ 2 = x2 := hx 2 (by decide)
    have e3 : ρ 3 = x3 := hx 3 (by decide)
    have e4 : ρ 4 = x4 := hx 4 (by decide)
    subst e0
    subst e1
    subst e2
    subst e3
    subst e4
    have g7 := g7 (by decide)
    match Lc, stc, g7, g8 with
    | [v0, v1, v2, v3, v4], [w0, w1, w2], ⟨hv0, hv1, hv2, hv3, hv4, _⟩, ⟨hw0, hw1, hw2, _⟩ =>
      cases hv0
      cases hv1
      cases hv2
      cases hv3
      cases hv4
      cases hw0
      cases hw1
      cases hw2
      exact l0 τ ρ  g1 g2 g3 g4 g5 g6
  · intro ρ τ Lc stc hx g1 g2 g3 g4 g5 g6 g7 g8
    have e0 : ρ 0 = x0 := hx 0 (by decide)
    have e1 : ρ 1 = x1 := hx 1 (by decide)
    have e2 : ρ 2 = x2 := hx 2 (by decide)
    have e3 : ρ 3 = x3 := hx 3 (by decide)
    have e4 : ρ 4 = x4 := hx 4 (by decide)
    subst e0
    subst e1
    subst e2
    subst e3
    subst e4
    match stc, g8 with
    | [_], ⟨h, _⟩ => cases h; exact l1 τ ρ g1 g2 g3 g4 g5 g6
set_option maxRecDepth 100000 in
theorem x_ladd_s1 {σ : pm_S} {Q : Option Value → pm_S → Prop} (x0 x1 x2 x3 x4 : Int)  (hB : an_GB pm_B σ) (eF : (0 ≤ x0 ∧ x0 ≤ 9999) ∧ (0 ≤ x1 ∧ x1 ≤ 9) ∧ ((-1) ≤ x2 ∧ x2 ≤ 9) ∧ ((-1) ≤ x3 ∧ x3 ≤ 9) ∧ (0 ≤ x4 ∧ x4 ≤ 29) ∧ True) (eC : (σ.1 21 0).toInt = x4 ∧ True)
    (l0 : ∀ (τ : pm_S) (y : Nat → Int), an_GB pm_B τ → FQ [(21, 0)] σ τ → ((0 ≤ x0 ∧ x0 ≤ 9999) ∧ (0 ≤ x1 ∧ x1 ≤ 9) ∧ ((-1) ≤ x2 ∧ x2 ≤ 9) ∧ ((-1) ≤ x3 ∧ x3 ≤ 9) ∧ (0 ≤ x4 ∧ x4 ≤ 29) ∧ True) → (True) → (True) → ((τ.1 21 0).toInt = x4 ∧ True) → Ok 51 21 17 [.ref 21, .int (Int32.ofInt (x0)), .int (Int32.ofInt (x1)), .int (Int32.ofInt (x2)), .int (Int32.ofInt (x3))] [.int (Int32.ofInt (x1)), .int (Int32.ofInt (x4)), .ref 23] τ Q)
    : Ok 51 21 12 [.ref 21, .int (Int32.ofInt (x0)), .int (Int32.ofInt (x1)), .int (Int32.ofInt (x2)), .int (Int32.ofInt (x3))] [] σ Q := by
  refine an_seg (B := pm_B) (F := [(21, 0)]) (T := []) (S := []) (fun _ h => absurd h List.not_mem_nil) (k := 51) (d := 20) (cs := [11, 17, 23, 29]) 7 12 5 [(0, 0, 9999), (1, 0, 9), (2, (-1), 9), (3, (-1), 9), (4, 0, 29)] [(21, (1, 0, 0), (0, 4, 0))] [(2, 21, 0), (0, 0, 0), (0, 1, 0), (0, 2, 0), (0, 3, 0)] [] [(17, [(2, 21, 0), (0, 0, 0), (0, 1, 0), (0, 2, 0), (0, 3, 0)], [(0, 1, 0), (0, 4, 0), (2, 23, 0)], [(0, 0, 9999), (1, 0, 9), (2, (-1), 9), (3, (-1), 9), (4, 0, 29)], [], [], [(21, (1, 0, 0), (0, 4, 0))])] (by decide +kernel) (ρ0 := (fun s => [x0, x1, x2, x3, x4].getD s 0)) hB eF eC ⟨rfl, ⟨rfl, ⟨rfl, ⟨rfl, ⟨rfl, trivial⟩⟩⟩⟩⟩ trivial ?_
  refine List.forall_mem_cons.mpr ⟨?_, fun _ h => absurd h List.not_mem_nil⟩
  · intro ρ τ Lc stc hx g1 g2 g3 g4 g5 g6 g7 g8
    have e0 : ρ 0 = x0 := hx 0 (by decide)
    have e1 : ρ 1 = x1 := hx 1 (by decide)
    have e2 : ρ 2 = x2 := hx 2 (by decide)
    have e3 : ρ 3 = x3 := hx 3 (by decide)
    have e4 : ρ 4 = x4 := hx 4 (by decide)
    subst e0
    subst e1
    subst e2
    subst e3
    subst e4
    have g7 := g7 (by decide)
    match Lc, stc, g7, g8 with
    | [v0, v1, v2, v3, v4], [w0, w1, w2], ⟨hv0, hv1, hv2, hv3, hv4, _⟩, ⟨hw0, hw1, hw2, _⟩ =>
      cases hv0
      cases hv1
      cases hv2
      cases hv3
      cases hv4
      cases hw0
      cases hw1
      cases hw2
      exact l0 τ ρ  g1 g2 g3 g4 g5 g6
set_option maxRecDepth 100000 in
theorem x_ladd_s2 {σ : pm_S} {Q : Option Value → pm_S → Prop} (x0 x1 x2 x3 x4 : Int)  (hB : an_GB pm_B σ) (eF : (0 ≤ x0 ∧ x0 ≤ 9999) ∧ (0 ≤ x1 ∧ x1 ≤ 9) ∧ ((-1) ≤ x2 ∧ x2 ≤ 9) ∧ ((-1) ≤ x3 ∧ x3 ≤ 9) ∧ (0 ≤ x4 ∧ x4 ≤ 29) ∧ True) (eC : (σ.1 21 0).toInt = x4 ∧ True)
    (l0 : ∀ (τ : pm_S) (y : Nat → Int), an_GB pm_B τ → FQ [(21, 0)] σ τ → ((0 ≤ x0 ∧ x0 ≤ 9999) ∧ (0 ≤ x1 ∧ x1 ≤ 9) ∧ ((-1) ≤ x2 ∧ x2 ≤ 9) ∧ ((-1) ≤ x3 ∧ x3 ≤ 9) ∧ (0 ≤ x4 ∧ x4 ≤ 29) ∧ True) → (True) → (True) → ((τ.1 21 0).toInt = x4 ∧ True) → Ok 51 21 23 [.ref 21, .int (Int32.ofInt (x0)), .int (Int32.ofInt (x1)), .int (Int32.ofInt (x2)), .int (Int32.ofInt (x3))] [.int (Int32.ofInt (x2)), .int (Int32.ofInt (x4)), .ref 24] τ Q)
    : Ok 51 21 18 [.ref 21, .int (Int32.ofInt (x0)), .int (Int32.ofInt (x1)), .int (Int32.ofInt (x2)), .int (Int32.ofInt (x3))] [] σ Q := by
  refine an_seg (B := pm_B) (F := [(21, 0)]) (T := []) (S := []) (fun _ h => absurd h List.not_mem_nil) (k := 51) (d := 20) (cs := [11, 17, 23, 29]) 7 18 5 [(0, 0, 9999), (1, 0, 9), (2, (-1), 9), (3, (-1), 9), (4, 0, 29)] [(21, (1, 0, 0), (0, 4, 0))] [(2, 21, 0), (0, 0, 0), (0, 1, 0), (0, 2, 0), (0, 3, 0)] [] [(23, [(2, 21, 0), (0, 0, 0), (0, 1, 0), (0, 2, 0), (0, 3, 0)], [(0, 2, 0), (0, 4, 0), (2, 24, 0)], [(0, 0, 9999), (1, 0, 9), (2, (-1), 9), (3, (-1), 9), (4, 0, 29)], [], [], [(21, (1, 0, 0), (0, 4, 0))])] (by decide +kernel) (ρ0 := (fun s => [x0, x1, x2, x3, x4].getD s 0)) hB eF eC ⟨rfl, ⟨rfl, ⟨rfl, ⟨rfl, ⟨rfl, trivial⟩⟩⟩⟩⟩ trivial ?_
  refine List.forall_mem_cons.mpr ⟨?_, fun _ h => absurd h List.not_mem_nil⟩
  · intro ρ τ Lc stc hx g1 g2 g3 g4 g5 g6 g7 g8
    have e0 : ρ 0 = x0 := hx 0 (by decide)
    have e1 : ρ 1 = x1 := hx 1 (by decide)
    have e2 : ρ 2 = x2 := hx 2 (by decide)
    have e3 : ρ 3 = x3 := hx 3 (by decide)
    have e4 : ρ 4 = x4 := hx 4 (by decide)
    subst e0
    subst e1
    subst e2
    subst e3
    subst e4
    have g7 := g7 (by decide)
    match Lc, stc, g7, g8 with
    | [v0, v1, v2, v3, v4], [w0, w1, w2], ⟨hv0, hv1, hv2, hv3, hv4, _⟩, ⟨hw0, hw1, hw2, _⟩ =>
      cases hv0
      cases hv1
      cases hv2
      cases hv3
      cases hv4
      cases hw0
      cases hw1
      cases hw2
      exact l0 τ ρ  g1 g2 g3 g4 g5 g6
set_option maxRecDepth 100000 in
theorem x_ladd_s3 {σ : pm_S} {Q : Option Value → pm_S → Prop} (x0 x1 x2 x3 x4 : Int)  (hB : an_GB pm_B σ) (eF : (0 ≤ x0 ∧ x0 ≤ 9999) ∧ (0 ≤ x1 ∧ x1 ≤ 9) ∧ ((-1) ≤ x2 ∧ x2 ≤ 9) ∧ ((-1) ≤ x3 ∧ x3 ≤ 9) ∧ (0 ≤ x4 ∧ x4 ≤ 29) ∧ True) (eC : (σ.1 21 0).toInt = x4 ∧ True)
    (l0 : ∀ (τ : pm_S) (y : Nat → Int), an_GB pm_B τ → FQ [(21, 0)] σ τ → ((0 ≤ x0 ∧ x0 ≤ 9999) ∧ (0 ≤ x1 ∧ x1 ≤ 9) ∧ ((-1) ≤ x2 ∧ x2 ≤ 9) ∧ ((-1) ≤ x3 ∧ x3 ≤ 9) ∧ (0 ≤ x4 ∧ x4 ≤ 29) ∧ True) → (True) → (True) → ((τ.1 21 0).toInt = x4 ∧ True) → Ok 51 21 29 [.ref 21, .int (Int32.ofInt (x0)), .int (Int32.ofInt (x1)), .int (Int32.ofInt (x2)), .int (Int32.ofInt (x3))] [.int (Int32.ofInt (x3)), .int (Int32.ofInt (x4)), .ref 25] τ Q)
    : Ok 51 21 24 [.ref 21, .int (Int32.ofInt (x0)), .int (Int32.ofInt (x1)), .int (Int32.ofInt (x2)), .int (Int32.ofInt (x3))] [] σ Q := by
  refine an_seg (B := pm_B) (F := [(21, 0)]) (T := []) (S := []) (fun _ h => absurd h List.not_mem_nil) (k := 51) (d := 20) (cs := [11, 17, 23, 29]) 7 24 5 [(0, 0, 9999), (1, 0, 9), (2, (-1), 9), (3, (-1), 9), (4, 0, 29)] [(21, (1, 0, 0), (0, 4, 0))] [(2, 21, 0), (0, 0, 0), (0, 1, 0), (0, 2, 0), (0, 3, 0)] [] [(29, [(2, 21, 0), (0, 0, 0), (0, 1, 0), (0, 2, 0), (0, 3, 0)], [(0, 3, 0), (0, 4, 0), (2, 25, 0)], [(0, 0, 9999), (1, 0, 9), (2, (-1), 9), (3, (-1), 9), (4, 0, 29)], [], [], [(21, (1, 0, 0), (0, 4, 0))])] (by decide +kernel) (ρ0 := (fun s => [x0, x1, x2, x3, x4].getD s 0)) hB eF eC ⟨rfl, ⟨rfl, ⟨rfl, ⟨rfl, ⟨rfl, trivial⟩⟩⟩⟩⟩ trivial ?_
  refine List.forall_mem_cons.mpr ⟨?_, fun _ h => absurd h List.not_mem_nil⟩
  · intro ρ τ Lc stc hx g1 g2 g3 g4 g5 g6 g7 g8
    have e0 : ρ 0 = x0 := hx 0 (by decide)
    have e1 : ρ 1 = x1 := hx 1 (by decide)
    have e2 : ρ 2 = x2 := hx 2 (by decide)
    have e3 : ρ 3 = x3 := hx 3 (by decide)
    have e4 : ρ 4 = x4 := hx 4 (by decide)
    subst e0
    subst e1
    subst e2
    subst e3
    subst e4
    have g7 := g7 (by decide)
    match Lc, stc, g7, g8 with
    | [v0, v1, v2, v3, v4], [w0, w1, w2], ⟨hv0, hv1, hv2, hv3, hv4, _⟩, ⟨hw0, hw1, hw2, _⟩ =>
      cases hv0
      cases hv1
      cases hv2
      cases hv3
      cases hv4
      cases hw0
      cases hw1
      cases hw2
      exact l0 τ ρ  g1 g2 g3 g4 g5 g6
set_option maxRecDepth 100000 in
theorem x_ladd_s4 {σ : pm_S} {Q : Option Value → pm_S → Prop} (x0 x1 x2 x3 x4 : Int)  (hB : an_GB pm_B σ) (eF : (0 ≤ x0 ∧ x0 ≤ 9999) ∧ (0 ≤ x1 ∧ x1 ≤ 9) ∧ ((-1) ≤ x2 ∧ x2 ≤ 9) ∧ ((-1) ≤ x3 ∧ x3 ≤ 9) ∧ (0 ≤ x4 ∧ x4 ≤ 29) ∧ True) (eC : (σ.1 21 0).toInt = x4 ∧ True)
    (l0 : ∀ (τ : pm_S) (y : Nat → Int), an_GB pm_B τ → FQ [(21, 0)] σ τ → ((0 ≤ x0 ∧ x0 ≤ 9999) ∧ (0 ≤ x1 ∧ x1 ≤ 9) ∧ ((-1) ≤ x2 ∧ x2 ≤ 9) ∧ ((-1) ≤ x3 ∧ x3 ≤ 9) ∧ (0 ≤ x4 ∧ x4 ≤ 29) ∧ True) → (True) → (True) → ((τ.1 21 0).toInt = x4 + 1 ∧ True) → Q (some (.int (Int32.ofInt (x4)))) τ)
    : Ok 51 21 30 [.ref 21, .int (Int32.ofInt (x0)), .int (Int32.ofInt (x1)), .int (Int32.ofInt (x2)), .int (Int32.ofInt (x3))] [] σ Q := by
  refine an_seg (B := pm_B) (F := [(21, 0)]) (T := []) (S := []) (fun _ h => absurd h List.not_mem_nil) (k := 51) (d := 20) (cs := [11, 17, 23, 29]) 13 30 5 [(0, 0, 9999), (1, 0, 9), (2, (-1), 9), (3, (-1), 9), (4, 0, 29)] [(21, (1, 0, 0), (0, 4, 0))] [(2, 21, 0), (0, 0, 0), (0, 1, 0), (0, 2, 0), (0, 3, 0)] [] [(9999, [], [(0, 4, 0)], [(0, 0, 9999), (1, 0, 9), (2, (-1), 9), (3, (-1), 9), (4, 0, 29)], [], [], [(21, (1, 0, 0), (0, 4, 1))])] (by decide +kernel) (ρ0 := (fun s => [x0, x1, x2, x3, x4].getD s 0)) hB eF eC ⟨rfl, ⟨rfl, ⟨rfl, ⟨rfl, ⟨rfl, trivial⟩⟩⟩⟩⟩ trivial ?_
  refine List.forall_mem_cons.mpr ⟨?_, fun _ h => absurd h List.not_mem_nil⟩
  · intro ρ τ Lc stc hx g1 g2 g3 g4 g5 g6 g7 g8
    have e0 : ρ 0 = x0 := hx 0 (by decide)
    have e1 : ρ 1 = x1 := hx 1 (by decide)
    have e2 : ρ 2 = x2 := hx 2 (by decide)
    have e3 : ρ 3 = x3 := hx 3 (by decide)
    have e4 : ρ 4 = x4 := hx 4 (by decide)
    subst e0
    subst e1
    subst e2
    subst e3
    subst e4
    match stc, g8 with
    | [_], ⟨h, _⟩ => cases h; exact l0 τ ρ g1 g2 g3 g4 g5 g6
set_option maxRecDepth 20000 in
theorem x_ladd {σ : pm_S} (x0 x1 x2 x3 x4 : Int) (hB : an_GB pm_B σ) (g0 : 0 ≤ x0 ∧ x0 ≤ 9999) (g1 : 0 ≤ x1 ∧ x1 ≤ 9) (g2 : (-1) ≤ x2 ∧ x2 ≤ 9) (g3 : (-1) ≤ x3 ∧ x3 ≤ 9) (g4 : 0 ≤ x4 ∧ x4 ≤ 30) (e0 : (σ.1 21 0).toInt = x4) : Sp 51 21 [.ref 21, .int (Int32.ofInt (x0)), .int (Int32.ofInt (x1)), .int (Int32.ofInt (x2)), .int (Int32.ofInt (x3))] σ (fun r τ => an_GB pm_B τ ∧ ((¬ (x4 ≤ 29) ∧ r = some (.int (Int32.ofInt (-1))) ∧ (τ.1 21 0).toInt = x4 ∧ puF [(21, 0)] [] σ τ) ∨ ((x4 ≤ 29) ∧ r = some (.int (Int32.ofInt (x4))) ∧ (τ.1 21 0).toInt = x4 + 1 ∧ puF [(21, 0)] [(25, (x4).toNat, Int32.ofInt (x3)), (24, (x4).toNat, Int32.ofInt (x2)), (23, (x4).toNat, Int32.ofInt (x1)), (22, (x4).toNat, Int32.ofInt (x0))] σ τ))) := by
  refine Sp.at rfl rfl ?_
  refine x_ladd_s0 x0 x1 x2 x3 x4 hB ⟨by omega, by omega, by omega, by omega, by omega, trivial⟩ ⟨e0, trivial⟩ ?_ ?_
  · intro τ1 y1  hB1 hF1 f1 rr1 _ c1
    obtain ⟨f1_0, f1_1, f1_2, f1_3, f1_4, -⟩ := f1
    obtain ⟨c1_0, -⟩ := c1
    have hG1 : puF [(21, 0)] [] σ τ1 := puF.fq rfl (puF.rf _ _) hF1
    refine Ok.ast (n := 30) rfl rfl rfl (by decide) (by omega) (by omega) ?_
    have hG2 : puF [(21, 0)] [(22, (x4).toNat, Int32.ofInt (x0))] σ (put τ1 22 (x4).toNat (Int32.ofInt (x0))) := puF.put hG1
    have hB2 : an_GB pm_B (put τ1 22 (x4).toNat (Int32.ofInt (x0))) := put_GB hB1 (by
      show ((-2147483648) : Int) ≤ (Int32.ofInt (x0)).toInt ∧ (Int32.ofInt (x0)).toInt ≤ 2147483647
      rw [ti_of (by omega) (by omega)]
      omega)
    have e2_21_0 : ((put τ1 22 (x4).toNat (Int32.ofInt (x0))).1 21 0).toInt = x4 := (congrArg Int32.toInt (put_nr (by decide))).trans c1_0
    refine x_ladd_s1 x0 x1 x2 x3 x4 hB2 ⟨by omega, by omega, by omega, by omega, by omega, trivial⟩ ⟨e2_21_0, trivial⟩ ?_
    · intro τ3 y3  hB3 hF3 f3 rr3 _ c3
      obtain ⟨f3_0, f3_1, f3_2, f3_3, f3_4, -⟩ := f3
      obtain ⟨c3_0, -⟩ := c3
      have hG3 : puF [(21, 0)] [(22, (x4).toNat, Int32.ofInt (x0))] σ τ3 := puF.fq rfl hG2 hF3
      refine Ok.ast (n := 30) rfl rfl rfl (by decide) (by omega) (by omega) ?_
      have hG4 : puF [(21, 0)] [(23, (x4).toNat, Int32.ofInt (x1)), (22, (x4).toNat, Int32.ofInt (x0))] σ (put τ3 23 (x4).toNat (Int32.ofInt (x1))) := puF.put hG3
      have hB4 : an_GB pm_B (put τ3 23 (x4).toNat (Int32.ofInt (x1))) := put_GB hB3 (by
        show (0 : Int) ≤ (Int32.ofInt (x1)).toInt ∧ (Int32.ofInt (x1)).toInt ≤ 9
        rw [ti_of (by omega) (by omega)]
        omega)
      have e4_21_0 : ((put τ3 23 (x4).toNat (Int32.ofInt (x1))).1 21 0).toInt = x4 := (congrArg Int32.toInt (put_nr (by decide))).trans c3_0
      refine x_ladd_s2 x0 x1 x2 x3 x4 hB4 ⟨by omega, by omega, by omega, by omega, by omega, trivial⟩ ⟨e4_21_0, trivial⟩ ?_
      · intro τ5 y5  hB5 hF5 f5 rr5 _ c5
        obtain ⟨f5_0, f5_1, f5_2, f5_3, f5_4, -⟩ := f5
        obtain ⟨c5_0, -⟩ := c5
        have hG5 : puF [(21, 0)] [(23, (x4).toNat, Int32.ofInt (x1)), (22, (x4).toNat, Int32.ofInt (x0))] σ τ5 := puF.fq rfl hG4 hF5
        refine Ok.ast (n := 30) rfl rfl rfl (by decide) (by omega) (by omega) ?_
        have hG6 : puF [(21, 0)] [(24, (x4).toNat, Int32.ofInt (x2)), (23, (x4).toNat, Int32.ofInt (x1)), (22, (x4).toNat, Int32.ofInt (x0))] σ (put τ5 24 (x4).toNat (Int32.ofInt (x2))) := puF.put hG5
        have hB6 : an_GB pm_B (put τ5 24 (x4).toNat (Int32.ofInt (x2))) := put_GB hB5 (by
          show ((-1) : Int) ≤ (Int32.ofInt (x2)).toInt ∧ (Int32.ofInt (x2)).toInt ≤ 9
          rw [ti_of (by omega) (by omega)]
          omega)
        have e6_21_0 : ((put τ5 24 (x4).toNat (Int32.ofInt (x2))).1 21 0).toInt = x4 := (congrArg Int32.toInt (put_nr (by decide))).trans c5_0
        refine x_ladd_s3 x0 x1 x2 x3 x4 hB6 ⟨by omega, by omega, by omega, by omega, by omega, trivial⟩ ⟨e6_21_0, trivial⟩ ?_
        · intro τ7 y7  hB7 hF7 f7 rr7 _ c7
          obtain ⟨f7_0, f7_1, f7_2, f7_3, f7_4, -⟩ := f7
          obtain ⟨c7_0, -⟩ := c7
          have hG7 : puF [(21, 0)] [(24, (x4).toNat, Int32.ofInt (x2)), (23, (x4).toNat, Int32.ofInt (x1)), (22, (x4).toNat, Int32.ofInt (x0))] σ τ7 := puF.fq rfl hG6 hF7
          refine Ok.ast (n := 30) rfl rfl rfl (by decide) (by omega) (by omega) ?_
          have hG8 : puF [(21, 0)] [(25, (x4).toNat, Int32.ofInt (x3)), (24, (x4).toNat, Int32.ofInt (x2)), (23, (x4).toNat, Int32.ofInt (x1)), (22, (x4).toNat, Int32.ofInt (x0))] σ (put τ7 25 (x4).toNat (Int32.ofInt (x3))) := puF.put hG7
          have hB8 : an_GB pm_B (put τ7 25 (x4).toNat (Int32.ofInt (x3))) := put_GB hB7 (by
            show ((-1) : Int) ≤ (Int32.ofInt (x3)).toInt ∧ (Int32.ofInt (x3)).toInt ≤ 9
            rw [ti_of (by omega) (by omega)]
            omega)
          have e8_21_0 : ((put τ7 25 (x4).toNat (Int32.ofInt (x3))).1 21 0).toInt = x4 := (congrArg Int32.toInt (put_nr (by decide))).trans c7_0
          refine x_ladd_s4 x0 x1 x2 x3 x4 hB8 ⟨by omega, by omega, by omega, by omega, by omega, trivial⟩ ⟨e8_21_0, trivial⟩ ?_
          · intro τ9 y9  hB9 hF9 f9 rr9 _ c9
            obtain ⟨f9_0, f9_1, f9_2, f9_3, f9_4, -⟩ := f9
            obtain ⟨c9_0, -⟩ := c9
            have hG9 : puF [(21, 0)] [(25, (x4).toNat, Int32.ofInt (x3)), (24, (x4).toNat, Int32.ofInt (x2)), (23, (x4).toNat, Int32.ofInt (x1)), (22, (x4).toNat, Int32.ofInt (x0))] σ τ9 := puF.fq rfl hG8 hF9
            exact ⟨hB9, Or.inr ⟨by omega, rfl, c9_0, hG9⟩⟩
  · intro τ10 y10  hB10 hF10 f10 rr10 _ c10
    obtain ⟨f10_0, f10_1, f10_2, f10_3, f10_4, -⟩ := f10
    obtain ⟨c10_0, -⟩ := c10
    have hG10 : puF [(21, 0)] [] σ τ10 := puF.fq rfl (puF.rf _ _) hF10
    exact ⟨hB10, Or.inl ⟨by omega, rfl, c10_0, hG10⟩⟩
set_option maxRecDepth 100000 in
theorem xc_lineE2_s0 {σ : pm_S} {Q : Option Value → pm_S → Prop} (x0 x1 x2 x3 x4 x5 x6 x7 x8 : Int)  (hB : an_GB pm_B σ) (eF : ((-2147483648) ≤ x0 ∧ x0 ≤ 2147483647) ∧ ((-2147483648) ≤ x1 ∧ x1 ≤ 2147483647) ∧ ((-2147483648) ≤ x2 ∧ x2 ≤ 2147483647) ∧ ((-2147483648) ≤ x3 ∧ x3 ≤ 2147483647) ∧ (0 ≤ x4 ∧ x4 ≤ 10) ∧ (0 ≤ x5 ∧ x5 ≤ 10) ∧ (0 ≤ x6 ∧ x6 ≤ 30) ∧ (0 ≤ x7 ∧ x7 ≤ 1) ∧ (0 ≤ x8 ∧ x8 ≤ 1) ∧ True) (eC : (σ.1 3 0).toInt = x4 ∧ (σ.1 7 0).toInt = x5 ∧ (σ.1 21 0).toInt = x6 ∧ True)
    (l0 : ∀ (τ : pm_S) (y : Nat → Int), an_GB pm_B τ → FQ [(21, 0)] σ τ → (((-2147483648) ≤ x0 ∧ x0 ≤ (-1)) ∧ ((-2147483648) ≤ x1 ∧ x1 ≤ 2147483647) ∧ ((-2147483648) ≤ x2 ∧ x2 ≤ 2147483647) ∧ ((-2147483648) ≤ x3 ∧ x3 ≤ 2147483647) ∧ (0 ≤ x4 ∧ x4 ≤ 10) ∧ (0 ≤ x5 ∧ x5 ≤ 10) ∧ (0 ≤ x6 ∧ x6 ≤ 30) ∧ (0 ≤ x7 ∧ x7 ≤ 1) ∧ (0 ≤ x8 ∧ x8 ≤ 1) ∧ True) → (True) → (True) → ((τ.1 3 0).toInt = x4 ∧ (τ.1 7 0).toInt = x5 ∧ (τ.1 21 0).toInt = x6 ∧ True) → Q (some (.int (Int32.ofInt (-1)))) τ)
    (l1 : ∀ (τ : pm_S) (y : Nat → Int), an_GB pm_B τ → FQ [(21, 0)] σ τ → ((10000 ≤ x0 ∧ x0 ≤ 2147483647) ∧ ((-2147483648) ≤ x1 ∧ x1 ≤ 2147483647) ∧ ((-2147483648) ≤ x2 ∧ x2 ≤ 2147483647) ∧ ((-2147483648) ≤ x3 ∧ x3 ≤ 2147483647) ∧ (0 ≤ x4 ∧ x4 ≤ 10) ∧ (0 ≤ x5 ∧ x5 ≤ 10) ∧ (0 ≤ x6 ∧ x6 ≤ 30) ∧ (0 ≤ x7 ∧ x7 ≤ 1) ∧ (0 ≤ x8 ∧ x8 ≤ 1) ∧ True) → (True) → (True) → ((τ.1 3 0).toInt = x4 ∧ (τ.1 7 0).toInt = x5 ∧ (τ.1 21 0).toInt = x6 ∧ True) → Q (some (.int (Int32.ofInt (-1)))) τ)
    (l2 : ∀ (τ : pm_S) (y : Nat → Int), an_GB pm_B τ → FQ [(21, 0)] σ τ → ((0 ≤ x0 ∧ x0 ≤ 9999) ∧ ((-2147483648) ≤ x1 ∧ x1 ≤ 2147483647) ∧ ((-2147483648) ≤ x2 ∧ x2 ≤ 2147483647) ∧ ((-2147483648) ≤ x3 ∧ x3 ≤ 2147483647) ∧ (0 ≤ x4 ∧ x4 ≤ 10) ∧ (0 ≤ x5 ∧ x5 ≤ 10) ∧ (0 ≤ x6 ∧ x6 ≤ 30) ∧ (0 ≤ x7 ∧ x7 ≤ 1) ∧ (0 ≤ x8 ∧ x8 ≤ 1) ∧ True) → (True) → (True) → ((τ.1 3 0).toInt = x4 ∧ (τ.1 7 0).toInt = x5 ∧ (τ.1 21 0).toInt = x6 ∧ True) → Ok 149 23 36 [.ref 0, .int (Int32.ofInt (x0)), .int (Int32.ofInt (x1)), .int (Int32.ofInt (x2)), .int (Int32.ofInt (x3)), .int (Int32.ofInt (x7)), .int (Int32.ofInt (x8))] [.int (Int32.ofInt (x1)), .ref 7] τ Q)
    : Ok 149 23 29 [.ref 0, .int (Int32.ofInt (x0)), .int (Int32.ofInt (x1)), .int (Int32.ofInt (x2)), .int (Int32.ofInt (x3)), .int (Int32.ofInt (x7)), .int (Int32.ofInt (x8))] [] σ Q := by
  refine an_seg (B := pm_B) (F := [(21, 0)]) (T := []) (S := []) (fun _ h => absurd h List.not_mem_nil) (k := 149) (d := 22) (cs := [36, 51]) 17 29 9 [(0, (-2147483648), 2147483647), (1, (-2147483648), 2147483647), (2, (-2147483648), 2147483647), (3, (-2147483648), 2147483647), (4, 0, 10), (5, 0, 10), (6, 0, 30), (7, 0, 1), (8, 0, 1)] [(3, (1, 0, 0), (0, 4, 0)), (7, (1, 0, 0), (0, 5, 0)), (21, (1, 0, 0), (0, 6, 0))] [(2, 0, 0), (0, 0, 0), (0, 1, 0), (0, 2, 0), (0, 3, 0), (0, 7, 0), (0, 8, 0)] [] [(9999, [], [(1, 0, (-1))], [(0, (-2147483648), (-1)), (1, (-2147483648), 2147483647), (2, (-2147483648), 2147483647), (3, (-2147483648), 2147483647), (4, 0, 10), (5, 0, 10), (6, 0, 30), (7, 0, 1), (8, 0, 1)], [], [], [(3, (1, 0, 0), (0, 4, 0)), (7, (1, 0, 0), (0, 5, 0)), (21, (1, 0, 0), (0, 6, 0))]),
    (9999, [], [(1, 0, (-1))], [(0, 10000, 2147483647), (1, (-2147483648), 2147483647), (2, (-2147483648), 2147483647), (3, (-2147483648), 2147483647), (4, 0, 10), (5, 0, 10), (6, 0, 30), (7, 0, 1), (8, 0, 1)], [], [], [(3, (1, 0, 0), (0, 4, 0)), (7, (1, 0, 0), (0, 5, 0)), (21, (1, 0, 0), (0, 6, 0))]),
    (36, [(2, 0, 0), (0, 0, 0), (0, 1, 0), (0, 2, 0), (0, 3, 0), (0, 7, 0), (0, 8, 0)], [(0, 1, 0), (2, 7, 0)], [(0, 0, 9999), (1, (-2147483648), 2147483647), (2, (-2147483648), 2147483647), (3, (-2147483648), 2147483647), (4, 0, 10), (5, 0, 10), (6, 0, 30), (7, 0, 1), (8, 0, 1)], [], [], [(3, (1, 0, 0), (0, 4, 0)), (7, (1, 0, 0), (0, 5, 0)), (21, (1, 0, 0), (0, 6, 0))])] (by decide +kernel) (ρ0 := (fun s => [x0, x1, x2, x3, x4, x5, x6, x7, x8].getD s 0)) hB eF eC ⟨rfl, ⟨rfl, ⟨rfl, ⟨rfl, ⟨rfl, ⟨rfl, ⟨rfl, trivial⟩⟩⟩⟩⟩⟩⟩ trivial ?_
  refine List.forall_mem_cons.mpr ⟨?_, List.forall_mem_cons.mpr ⟨?_, List.forall_mem_cons.mpr ⟨?_, fun _ h => absurd h List.not_mem_nil⟩⟩⟩
  · intro ρ τ Lc stc hx g1 g2 g3 g4 g5 g6 g7 g8
    have e0 : ρ 0 = x0 := hx 0 (by decide)
    have e1 : ρ 1 = x1 := hx 1 (by decide)
    have e2 : ρ 2 = x2 := hx 2 (by decide)
    have e3 : ρ 3 = x3 := hx 3 (by decide)
    have e4 : ρ 4 = x4 := hx 4 (by decide)
    have e5 : ρ 5 = x5 := hx 5 (by decide)
    have e6 : ρ 6 = x6 := hx 6 (by decide)
    have e7 : ρ 7 = x7 := hx 7 (by decide)
    have e8 : ρ 8 = x8 := hx 8 (by decide)
    subst e0
    subst e1
    subst e2
    subst e3
    subst e4
    subst e5
    subst e6
    subst e7
    subst e8
    match stc, g8 with
    | [_], ⟨h, _⟩ => cases h; exact l0 τ ρ g1 g2 g3 g4 g5 g6
  · intro ρ τ Lc stc hx g1 g2 g3 g4 g5 g6 g7 g8
    have e0 : ρ 0 = x0 := hx 0 (by decide)
    have e1 : ρ 1 = x1 := hx 1 (by decide)
    have e2 : ρ 2 = x2 := hx 2 (by decide)
    have e3 : ρ 3 = x3 := hx 3 (by decide)
    have e4 : ρ 4 = x4 := hx 4 (by decide)
    have e5 : ρ 5 = x5 := hx 5 (by decide)
    have e6 : ρ 6 = x6 := hx 6 (by decide)
    have e7 : ρ 7 = x7 := hx 7 (by decide)
    have e8 : ρ 8 = x8 := hx 8 (by decide)
    subst e0
    subst e1
    subst e2
    subst e3
    subst e4
    subst e5
    subst e6
    subst e7
    subst e8
    match stc, g8 with
    | [_], ⟨h, _⟩ => cases h; exact l1 τ ρ g1 g2 g3 g4 g5 g6
  · intro ρ τ Lc stc hx g1 g2 g3 g4 g5 g6 g7 g8
    have e0 : ρ 0 = x0 := hx 0 (by decide)
    have e1 : ρ 1 = x1 := hx 1 (by decide)
    have e2 : ρ 2 = x2 := hx 2 (by decide)
    have e3 : ρ 3 = x3 := hx 3 (by decide)
    have e4 : ρ 4 = x4 := hx 4 (by decide)
    have e5 : ρ 5 = x5 := hx 5 (by decide)
    have e6 : ρ 6 = x6 := hx 6 (by decide)
    have e7 : ρ 7 = x7 := hx 7 (by decide)
    have e8 : ρ 8 = x8 := hx 8 (by decide)
    subst e0
    subst e1
    subst e2
    subst e3
    subst e4
    subst e5
    subst e6
    subst e7
    subst e8
    have g7 := g7 (by decide)
    match Lc, stc, g7, g8 with
    | [v0, v1, v2, v3, v4, v5, v6], [w0, w1], ⟨hv0, hv1, hv2, hv3, hv4, hv5, hv6, _⟩, ⟨hw0, hw1, _⟩ =>
      cases hv0
      cases hv1
      cases hv2
      cases hv3
      cases hv4
      cases hv5
      cases hv6
      cases hw0
      cases hw1
      exact l2 τ ρ  g1 g2 g3 g4 g5 g6
set_option maxRecDepth 100000 in
theorem xc_lineE2_s1 {σ : pm_S} {Q : Option Value → pm_S → Prop} (x0 x1 x2 x3 x4 x5 x6 x7 x8 : Int)  (hB : an_GB pm_B σ) (eF : (0 ≤ x0 ∧ x0 ≤ 9999) ∧ ((-2147483648) ≤ x1 ∧ x1 ≤ 2147483647) ∧ ((-2147483648) ≤ x2 ∧ x2 ≤ 2147483647) ∧ ((-2147483648) ≤ x3 ∧ x3 ≤ 2147483647) ∧ (0 ≤ x4 ∧ x4 ≤ 10) ∧ (0 ≤ x5 ∧ x5 ≤ 10) ∧ (0 ≤ x6 ∧ x6 ≤ 30) ∧ (0 ≤ x7 ∧ x7 ≤ 1) ∧ (0 ≤ x8 ∧ x8 ≤ 1) ∧ True) (eC : (σ.1 3 0).toInt = x4 ∧ (σ.1 7 0).toInt = x5 ∧ (σ.1 21 0).toInt = x6 ∧ True)
    (l0 : ∀ (τ : pm_S) (y : Nat → Int), an_GB pm_B τ → FQ [(21, 0)] σ τ → ((0 ≤ x0 ∧ x0 ≤ 9999) ∧ ((-2147483648) ≤ x1 ∧ x1 ≤ 2147483647) ∧ ((-2147483648) ≤ x2 ∧ x2 ≤ 2147483647) ∧ ((-2147483648) ≤ x3 ∧ x3 ≤ 2147483647) ∧ (0 ≤ x4 ∧ x4 ≤ 10) ∧ (0 ≤ x5 ∧ x5 ≤ 10) ∧ (0 ≤ x6 ∧ x6 ≤ 30) ∧ (0 ≤ x7 ∧ x7 ≤ 1) ∧ (0 ≤ x8 ∧ x8 ≤ 1) ∧ True) → (True) → (True) → ((τ.1 3 0).toInt = x4 ∧ (τ.1 7 0).toInt = x5 ∧ (τ.1 21 0).toInt = x6 ∧ True) → Q (some (.int (Int32.ofInt (-1)))) τ)
    : Ok 149 23 37 [.ref 0, .int (Int32.ofInt (x0)), .int (Int32.ofInt (x1)), .int (Int32.ofInt (x2)), .int (Int32.ofInt (x3)), .int (Int32.ofInt (x7)), .int (Int32.ofInt (x8))] [.int (Int32.ofInt 0)] σ Q := by
  refine an_seg (B := pm_B) (F := [(21, 0)]) (T := []) (S := []) (fun _ h => absurd h List.not_mem_nil) (k := 149) (d := 22) (cs := [36, 51]) 5 37 9 [(0, 0, 9999), (1, (-2147483648), 2147483647), (2, (-2147483648), 2147483647), (3, (-2147483648), 2147483647), (4, 0, 10), (5, 0, 10), (6, 0, 30), (7, 0, 1), (8, 0, 1)] [(3, (1, 0, 0), (0, 4, 0)), (7, (1, 0, 0), (0, 5, 0)), (21, (1, 0, 0), (0, 6, 0))] [(2, 0, 0), (0, 0, 0), (0, 1, 0), (0, 2, 0), (0, 3, 0), (0, 7, 0), (0, 8, 0)] [(1, 0, 0)] [(9999, [], [(1, 0, (-1))], [(0, 0, 9999), (1, (-2147483648), 2147483647), (2, (-2147483648), 2147483647), (3, (-2147483648), 2147483647), (4, 0, 10), (5, 0, 10), (6, 0, 30), (7, 0, 1), (8, 0, 1)], [], [], [(3, (1, 0, 0), (0, 4, 0)), (7, (1, 0, 0), (0, 5, 0)), (21, (1, 0, 0), (0, 6, 0))])] (by decide +kernel) (ρ0 := (fun s => [x0, x1, x2, x3, x4, x5, x6, x7, x8].getD s 0)) hB eF eC ⟨rfl, ⟨rfl, ⟨rfl, ⟨rfl, ⟨rfl, ⟨rfl, ⟨rfl, trivial⟩⟩⟩⟩⟩⟩⟩ ⟨rfl, trivial⟩ ?_
  refine List.forall_mem_cons.mpr ⟨?_, fun _ h => absurd h List.not_mem_nil⟩
  · intro ρ τ Lc stc hx g1 g2 g3 g4 g5 g6 g7 g8
    have e0 : ρ 0 = x0 := hx 0 (by decide)
    have e1 : ρ 1 = x1 := hx 1 (by decide)
    have e2 : ρ 2 = x2 := hx 2 (by decide)
    have e3 : ρ 3 = x3 := hx 3 (by decide)
    have e4 : ρ 4 = x4 := hx 4 (by decide)
    have e5 : ρ 5 = x5 := hx 5 (by decide)
    have e6 : ρ 6 = x6 := hx 6 (by decide)
    have e7 : ρ 7 = x7 := hx 7 (by decide)
    have e8 : ρ 8 = x8 := hx 8 (by decide)
    subst e0
    subst e1
    subst e2
    subst e3
    subst e4
    subst e5
    subst e6
    subst e7
    subst e8
    match stc, g8 with
    | [_], ⟨h, _⟩ => cases h; exact l0 τ ρ g1 g2 g3 g4 g5 g6
set_option maxRecDepth 100000 in
theorem xc_lineE2_s2 {σ : pm_S} {Q : Option Value → pm_S → Prop} (x0 x1 x2 x3 x4 x5 x6 x7 x8 : Int)  (hB : an_GB pm_B σ) (eF : (0 ≤ x0 ∧ x0 ≤ 9999) ∧ (0 ≤ x1 ∧ x1 ≤ 9) ∧ ((-2147483648) ≤ x2 ∧ x2 ≤ 2147483647) ∧ ((-2147483648) ≤ x3 ∧ x3 ≤ 2147483647) ∧ (0 ≤ x4 ∧ x4 ≤ 10) ∧ (0 ≤ x5 ∧ x5 ≤ 10) ∧ (0 ≤ x6 ∧ x6 ≤ 30) ∧ (0 ≤ x7 ∧ x7 ≤ 1) ∧ (0 ≤ x8 ∧ x8 ≤ 1) ∧ True) (eC : (σ.1 3 0).toInt = x4 ∧ (σ.1 7 0).toInt = x5 ∧ (σ.1 21 0).toInt = x6 ∧ True)
    (l0 : ∀ (τ : pm_S) (y : Nat → Int), an_GB pm_B τ → FQ [(21, 0)] σ τ → ((0 ≤ x0 ∧ x0 ≤ 9999) ∧ (0 ≤ x1 ∧ x1 ≤ 9) ∧ ((-2147483648) ≤ x2 ∧ x2 ≤ 2147483647) ∧ ((-2147483648) ≤ x3 ∧ x3 ≤ 2147483647) ∧ (0 ≤ x4 ∧ x4 ≤ 10) ∧ (0 ≤ x5 ∧ x5 ≤ 10) ∧ (0 ≤ x6 ∧ x6 ≤ 30) ∧ (1 ≤ x7 ∧ x7 ≤ 1) ∧ (0 ≤ x8 ∧ x8 ≤ 1) ∧ True) → (True) → (True) → ((τ.1 3 0).toInt = x4 ∧ (τ.1 7 0).toInt = x5 ∧ (τ.1 21 0).toInt = x6 ∧ True) → Ok 149 23 51 [.ref 0, .int (Int32.ofInt (x0)), .int (Int32.ofInt (x1)), .int (Int32.ofInt (x2)), .int (Int32.ofInt (x3)), .int (Int32.ofInt (x7)), .int (Int32.ofInt (x8))] [.int (Int32.ofInt (x3)), .int (Int32.ofInt (x2)), .int (Int32.ofInt (x1)), .int (Int32.ofInt (x0)), .ref 21] τ Q)
    (l1 : ∀ (τ : pm_S) (y : Nat → Int), an_GB pm_B τ → FQ [(21, 0)] σ τ → ((0 ≤ x0 ∧ x0 ≤ 9999) ∧ (0 ≤ x1 ∧ x1 ≤ 9) ∧ ((-2147483648) ≤ x2 ∧ x2 ≤ 2147483647) ∧ ((-2147483648) ≤ x3 ∧ x3 ≤ 2147483647) ∧ (0 ≤ x4 ∧ x4 ≤ 10) ∧ (0 ≤ x5 ∧ x5 ≤ 10) ∧ (0 ≤ x6 ∧ x6 ≤ 30) ∧ (0 ≤ x7 ∧ x7 ≤ 0) ∧ (1 ≤ x8 ∧ x8 ≤ 1) ∧ True) → (True) → (True) → ((τ.1 3 0).toInt = x4 ∧ (τ.1 7 0).toInt = x5 ∧ (τ.1 21 0).toInt = x6 ∧ True) → Ok 149 23 51 [.ref 0, .int (Int32.ofInt (x0)), .int (Int32.ofInt (x1)), .int (Int32.ofInt (x2)), .int (Int32.ofInt (x3)), .int (Int32.ofInt (x7)), .int (Int32.ofInt (x8))] [.int (Int32.ofInt (x3)), .int (Int32.ofInt (x2)), .int (Int32.ofInt (x1)), .int (Int32.ofInt (x0)), .ref 21] τ Q)
    (l2 : ∀ (τ : pm_S) (y : Nat → Int), an_GB pm_B τ → FQ [(21, 0)] σ τ → ((0 ≤ x0 ∧ x0 ≤ 9999) ∧ (0 ≤ x1 ∧ x1 ≤ 9) ∧ ((-2147483648) ≤ x2 ∧ x2 ≤ 2147483647) ∧ ((-2147483648) ≤ x3 ∧ x3 ≤ 2147483647) ∧ (0 ≤ x4 ∧ x4 ≤ 10) ∧ (0 ≤ x5 ∧ x5 ≤ 10) ∧ (0 ≤ x6 ∧ x6 ≤ 30) ∧ (0 ≤ x7 ∧ x7 ≤ 0) ∧ (0 ≤ x8 ∧ x8 ≤ 0) ∧ True) → (True) → (True) → ((τ.1 3 0).toInt = x4 ∧ (τ.1 7 0).toInt = x5 ∧ (τ.1 21 0).toInt = x6 ∧ True) → Q (some (.int (Int32.ofInt (-1)))) τ)
    : Ok 149 23 37 [.ref 0, .int (Int32.ofInt (x0)), .int (Int32.ofInt (x1)), .int (Int32.ofInt (x2)), .int (Int32.ofInt (x3)), .int (Int32.ofInt (x7)), .int (Int32.ofInt (x8))] [.int (Int32.ofInt 1)] σ Q := by
  refine an_seg (B := pm_B) (F := [(21, 0)]) (T := []) (S := []) (fun _ h => absurd h List.not_mem_nil) (k := 149) (d := 22) (cs := [36, 51]) 14 37 9 [(0, 0, 9999), (1, 0, 9), (2, (-2147483648), 2147483647), (3, (-2147483648), 2147483647), (4, 0, 10), (5, 0, 10), (6, 0, 30), (7, 0, 1), (8, 0, 1)] [(3, (1, 0, 0), (0, 4, 0)), (7, (1, 0, 0), (0, 5, 0)), (21, (1, 0, 0), (0, 6, 0))] [(2, 0, 0), (0, 0, 0), (0, 1, 0), (0, 2, 0), (0, 3, 0), (0, 7, 0), (0, 8, 0)] [(1, 0, 1)] [(51, [(2, 0, 0), (0, 0, 0), (0, 1, 0), (0, 2, 0), (0, 3, 0), (0, 7, 0), (0, 8, 0)], [(0, 3, 0), (0, 2, 0), (0, 1, 0), (0, 0, 0), (2, 21, 0)], [(0, 0, 9999), (1, 0, 9), (2, (-2147483648), 2147483647), (3, (-2147483648), 2147483647), (4, 0, 10), (5, 0, 10), (6, 0, 30), (7, 1, 1), (8, 0, 1)], [], [], [(3, (1, 0, 0), (0, 4, 0)), (7, (1, 0, 0), (0, 5, 0)), (21, (1, 0, 0), (0, 6, 0))]),
    (51, [(2, 0, 0), (0, 0, 0), (0, 1, 0), (0, 2, 0), (0, 3, 0), (0, 7, 0), (0, 8, 0)], [(0, 3, 0), (0, 2, 0), (0, 1, 0), (0, 0, 0), (2, 21, 0)], [(0, 0, 9999), (1, 0, 9), (2, (-2147483648), 2147483647), (3, (-2147483648), 2147483647), (4, 0, 10), (5, 0, 10), (6, 0, 30), (7, 0, 0), (8, 1, 1)], [], [], [(3, (1, 0, 0), (0, 4, 0)), (7, (1, 0, 0), (0, 5, 0)), (21, (1, 0, 0), (0, 6, 0))]),
    (9999, [], [(1, 0, (-1))], [(0, 0, 9999), (1, 0, 9), (2, (-2147483648), 2147483647), (3, (-2147483648), 2147483647), (4, 0, 10), (5, 0, 10), (6, 0, 30), (7, 0, 0), (8, 0, 0)], [], [], [(3, (1, 0, 0), (0, 4, 0)), (7, (1, 0, 0), (0, 5, 0)), (21, (1, 0, 0), (0, 6, 0))])] (by decide +kernel) (ρ0 := (fun s => [x0, x1, x2, x3, x4, x5, x6, x7, x8].getD s 0)) hB eF eC ⟨rfl, ⟨rfl, ⟨rfl, ⟨rfl, ⟨rfl, ⟨rfl, ⟨rfl, trivial⟩⟩⟩⟩⟩⟩⟩ ⟨rfl, trivial⟩ ?_
  refine List.forall_mem_cons.mpr ⟨?_, List.forall_mem_cons.mpr ⟨?_, List.forall_mem_cons.mpr ⟨?_, fun _ h => absurd h List.not_mem_nil⟩⟩⟩
  · intro ρ τ Lc stc hx g1 g2 g3 g4 g5 g6 g7 g8
    have e0 : ρ 0 = x0 := hx 0 (by decide)
    have e1 : ρ 1 = x1 := hx 1 (by decide)
    have e2 : ρ 2 = x2 := hx 2 (by decide)
    have e3 : ρ 3 = x3 := hx 3 (by decide)
    have e4 : ρ 4 = x4 := hx 4 (by decide)
    have e5 : ρ 5 = x5 := hx 5 (by decide)
    have e6 : ρ 6 = x6 := hx 6 (by decide)
    have e7 : ρ 7 = x7 := hx 7 (by decide)
    have e8 : ρ 8 = x8 := hx 8 (by decide)
    subst e0
    subst e1
    subst e2
    subst e3
    subst e4
    subst e5
    subst e6
    subst e7
    subst e8
    have g7 := g7 (by decide)
    match Lc, stc, g7, g8 with
    | [v0, v1, v2, v3, v4, v5, v6], [w0, w1, w2, w3, w4], ⟨hv0, hv1, hv2, hv3, hv4, hv5, hv6, _⟩, ⟨hw0, hw1, hw2, hw3, hw4, _⟩ =>
      cases hv0
      cases hv1
      cases hv2
      cases hv3
      cases hv4
      cases hv5
      cases hv6
      cases hw0
      cases hw1
      cases hw2
      cases hw3
      cases hw4
      exact l0 τ ρ  g1 g2 g3 g4 g5 g6
  · intro ρ τ Lc stc hx g1 g2 g3 g4 g5 g6 g7 g8
    have e0 : ρ 0 = x0 := hx 0 (by decide)
    have e1 : ρ 1 = x1 := hx 1 (by decide)
    have e2 : ρ 2 = x2 := hx 2 (by decide)
    have e3 : ρ 3 = x3 := hx 3 (by decide)
    have e4 : ρ 4 = x4 := hx 4 (by decide)
    have e5 : ρ 5 = x5 := hx 5 (by decide)
    have e6 : ρ 6 = x6 := hx 6 (by decide)
    have e7 : ρ 7 = x7 := hx 7 (by decide)
    have e8 : ρ 8 = x8 := hx 8 (by decide)
    subst e0
    subst e1
    subst e2
    subst e3
    subst e4
    subst e5
    subst e6
    subst e7
    subst e8
    have g7 := g7 (by decide)
    match Lc, stc, g7, g8 with
    | [v0, v1, v2, v3, v4, v5, v6], [w0, w1, w2, w3, w4], ⟨hv0, hv1, hv2, hv3, hv4, hv5, hv6, _⟩, ⟨hw0, hw1, hw2, hw3, hw4, _⟩ =>
      cases hv0
      cases hv1
      cases hv2
      cases hv3
      cases hv4
      cases hv5
      cases hv6
      cases hw0
      cases hw1
      cases hw2
      cases hw3
      cases hw4
      exact l1 τ ρ  g1 g2 g3 g4 g5 g6
  · intro ρ τ Lc stc hx g1 g2 g3 g4 g5 g6 g7 g8
    have e0 : ρ 0 = x0 := hx 0 (by decide)
    have e1 : ρ 1 = x1 := hx 1 (by decide)
    have e2 : ρ 2 = x2 := hx 2 (by decide)
    have e3 : ρ 3 = x3 := hx 3 (by decide)
    have e4 : ρ 4 = x4 := hx 4 (by decide)
    have e5 : ρ 5 = x5 := hx 5 (by decide)
    have e6 : ρ 6 = x6 := hx 6 (by decide)
    have e7 : ρ 7 = x7 := hx 7 (by decide)
    have e8 : ρ 8 = x8 := hx 8 (by decide)
    subst e0
    subst e1
    subst e2
    subst e3
    subst e4
    subst e5
    subst e6
    subst e7
    subst e8
    match stc, g8 with
    | [_], ⟨h, _⟩ => cases h; exact l2 τ ρ g1 g2 g3 g4 g5 g6
set_option maxRecDepth 100000 in
theorem xc_lineE2_s3 {σ : pm_S} {Q : Option Value → pm_S → Prop} (x0 x1 x2 x3 x4 x5 x6 x7 x8 : Int)  (hB : an_GB pm_B σ) (eF : (0 ≤ x0 ∧ x0 ≤ 9999) ∧ (0 ≤ x1 ∧ x1 ≤ 9) ∧ ((-2147483648) ≤ x2 ∧ x2 ≤ 2147483647) ∧ ((-2147483648) ≤ x3 ∧ x3 ≤ 2147483647) ∧ (0 ≤ x4 ∧ x4 ≤ 10) ∧ (0 ≤ x5 ∧ x5 ≤ 10) ∧ (0 ≤ x6 ∧ x6 ≤ 30) ∧ (1 ≤ x7 ∧ x7 ≤ 1) ∧ (0 ≤ x8 ∧ x8 ≤ 1) ∧ True) (eC : (σ.1 3 0).toInt = x4 ∧ (σ.1 7 0).toInt = x5 ∧ (σ.1 21 0).toInt = x6 ∧ True)
    (l0 : ∀ (τ : pm_S) (y : Nat → Int), an_GB pm_B τ → FQ [(21, 0)] σ τ → ((0 ≤ x0 ∧ x0 ≤ 9999) ∧ (0 ≤ x1 ∧ x1 ≤ 9) ∧ ((-2147483648) ≤ x2 ∧ x2 ≤ 2147483647) ∧ ((-2147483648) ≤ x3 ∧ x3 ≤ 2147483647) ∧ (0 ≤ x4 ∧ x4 ≤ 10) ∧ (0 ≤ x5 ∧ x5 ≤ 10) ∧ (0 ≤ x6 ∧ x6 ≤ 30) ∧ (1 ≤ x7 ∧ x7 ≤ 1) ∧ (0 ≤ x8 ∧ x8 ≤ 1) ∧ True) → (True) → (True) → ((τ.1 3 0).toInt = x4 ∧ (τ.1 7 0).toInt = x5 ∧ (τ.1 21 0).toInt = x6 ∧ True) → Q (some (.int (Int32.ofInt (-1)))) τ)
    : Ok 149 23 52 [.ref 0, .int (Int32.ofInt (x0)), .int (Int32.ofInt (x1)), .int (Int32.ofInt (x2)), .int (Int32.ofInt (x3)), .int (Int32.ofInt (x7)), .int (Int32.ofInt (x8))] [.int (Int32.ofInt (-1))] σ Q := by
  refine an_seg (B := pm_B) (F := [(21, 0)]) (T := []) (S := []) (fun _ h => absurd h List.not_mem_nil) (k := 149) (d := 22) (cs := [36, 51]) 3 52 9 [(0, 0, 9999), (1, 0, 9), (2, (-2147483648), 2147483647), (3, (-2147483648), 2147483647), (4, 0, 10), (5, 0, 10), (6, 0, 30), (7, 1, 1), (8, 0, 1)] [(3, (1, 0, 0), (0, 4, 0)), (7, (1, 0, 0), (0, 5, 0)), (21, (1, 0, 0), (0, 6, 0))] [(2, 0, 0), (0, 0, 0), (0, 1, 0), (0, 2, 0), (0, 3, 0), (0, 7, 0), (0, 8, 0)] [(1, 0, (-1))] [(9999, [], [(1, 0, (-1))], [(0, 0, 9999), (1, 0, 9), (2, (-2147483648), 2147483647), (3, (-2147483648), 2147483647), (4, 0, 10), (5, 0, 10), (6, 0, 30), (7, 1, 1), (8, 0, 1)], [], [], [(3, (1, 0, 0), (0, 4, 0)), (7, (1, 0, 0), (0, 5, 0)), (21, (1, 0, 0), (0, 6, 0))])] (by decide +kernel) (ρ0 := (fun s => [x0, x1, x2, x3, x4, x5, x6, x7, x8].getD s 0)) hB eF eC ⟨rfl, ⟨rfl, ⟨rfl, ⟨rfl, ⟨rfl, ⟨rfl, ⟨rfl, trivial⟩⟩⟩⟩⟩⟩⟩ ⟨rfl, trivial⟩ ?_
  refine List.forall_mem_cons.mpr ⟨?_, fun _ h => absurd h List.not_mem_nil⟩
  · intro ρ τ Lc stc hx g1 g2 g3 g4 g5 g6 g7 g8
    have e0 : ρ 0 = x0 := hx 0 (by decide)
    have e1 : ρ 1 = x1 := hx 1 (by decide)
    have e2 : ρ 2 = x2 := hx 2 (by decide)
    have e3 : ρ 3 = x3 := hx 3 (by decide)
    have e4 : ρ 4 = x4 := hx 4 (by decide)
    have e5 : ρ 5 = x5 := hx 5 (by decide)
    have e6 : ρ 6 = x6 := hx 6 (by decide)
    have e7 : ρ 7 = x7 := hx 7 (by decide)
    have e8 : ρ 8 = x8 := hx 8 (by decide)
    subst e0
    subst e1
    subst e2
    subst e3
    subst e4
    subst e5
    subst e6
    subst e7
    subst e8
    match stc, g8 with
    | [_], ⟨h, _⟩ => cases h; exact l0 τ ρ g1 g2 g3 g4 g5 g6
set_option maxRecDepth 100000 in
theorem xc_lineE2_s4 {σ : pm_S} {Q : Option Value → pm_S → Prop} (x0 x1 x2 x3 x4 x5 x6 x7 x8 : Int)  (hB : an_GB pm_B σ) (eF : (0 ≤ x0 ∧ x0 ≤ 9999) ∧ (0 ≤ x1 ∧ x1 ≤ 9) ∧ ((-2147483648) ≤ x2 ∧ x2 ≤ 2147483647) ∧ ((-2147483648) ≤ x3 ∧ x3 ≤ 2147483647) ∧ (0 ≤ x4 ∧ x4 ≤ 10) ∧ (0 ≤ x5 ∧ x5 ≤ 10) ∧ (0 ≤ x6 ∧ x6 ≤ 30) ∧ (1 ≤ x7 ∧ x7 ≤ 1) ∧ (0 ≤ x8 ∧ x8 ≤ 1) ∧ True) (eC : (σ.1 3 0).toInt = x4 ∧ (σ.1 7 0).toInt = x5 ∧ (σ.1 21 0).toInt = x6 + 1 ∧ True)
    (l0 : ∀ (τ : pm_S) (y : Nat → Int), an_GB pm_B τ → FQ [(21, 0)] σ τ → ((0 ≤ x0 ∧ x0 ≤ 9999) ∧ (0 ≤ x1 ∧ x1 ≤ 9) ∧ ((-2147483648) ≤ x2 ∧ x2 ≤ 2147483647) ∧ ((-2147483648) ≤ x3 ∧ x3 ≤ 2147483647) ∧ (0 ≤ x4 ∧ x4 ≤ 10) ∧ (0 ≤ x5 ∧ x5 ≤ 10) ∧ (0 ≤ x6 ∧ x6 ≤ 30) ∧ (1 ≤ x7 ∧ x7 ≤ 1) ∧ (0 ≤ x8 ∧ x8 ≤ 1) ∧ True) → (True) → (True) → ((τ.1 3 0).toInt = x4 ∧ (τ.1 7 0).toInt = x5 ∧ (τ.1 21 0).toInt = x6 + 1 ∧ True) → Q (some (.int (Int32.ofInt (x6)))) τ)
    : Ok 149 23 52 [.ref 0, .int (Int32.ofInt (x0)), .int (Int32.ofInt (x1)), .int (Int32.ofInt (x2)), .int (Int32.ofInt (x3)), .int (Int32.ofInt (x7)), .int (Int32.ofInt (x8))] [.int (Int32.ofInt (x6))] σ Q := by
  refine an_seg (B := pm_B) (F := [(21, 0)]) (T := []) (S := []) (fun _ h => absurd h List.not_mem_nil) (k := 149) (d := 22) (cs := [36, 51]) 3 52 9 [(0, 0, 9999), (1, 0, 9), (2, (-2147483648), 2147483647), (3, (-2147483648), 2147483647), (4, 0, 10), (5, 0, 10), (6, 0, 30), (7, 1, 1), (8, 0, 1)] [(3, (1, 0, 0), (0, 4, 0)), (7, (1, 0, 0), (0, 5, 0)), (21, (1, 0, 0), (0, 6, 1))] [(2, 0, 0), (0, 0, 0), (0, 1, 0), (0, 2, 0), (0, 3, 0), (0, 7, 0), (0, 8, 0)] [(0, 6, 0)] [(9999, [], [(0, 6, 0)], [(0, 0, 9999), (1, 0, 9), (2, (-2147483648), 2147483647), (3, (-2147483648), 2147483647), (4, 0, 10), (5, 0, 10), (6, 0, 30), (7, 1, 1), (8, 0, 1)], [], [], [(3, (1, 0, 0), (0, 4, 0)), (7, (1, 0, 0), (0, 5, 0)), (21, (1, 0, 0), (0, 6, 1))])] (by decide +kernel) (ρ0 := (fun s => [x0, x1, x2, x3, x4, x5, x6, x7, x8].getD s 0)) hB eF eC ⟨rfl, ⟨rfl, ⟨rfl, ⟨rfl, ⟨rfl, ⟨rfl, ⟨rfl, trivial⟩⟩⟩⟩⟩⟩⟩ ⟨rfl, trivial⟩ ?_
  refine List.forall_mem_cons.mpr ⟨?_, fun _ h => absurd h List.not_mem_nil⟩
  · intro ρ τ Lc stc hx g1 g2 g3 g4 g5 g6 g7 g8
    have e0 : ρ 0 = x0 := hx 0 (by decide)
    have e1 : ρ 1 = x1 := hx 1 (by decide)
    have e2 : ρ 2 = x2 := hx 2 (by decide)
    have e3 : ρ 3 = x3 := hx 3 (by decide)
    have e4 : ρ 4 = x4 := hx 4 (by decide)
    have e5 : ρ 5 = x5 := hx 5 (by decide)
    have e6 : ρ 6 = x6 := hx 6 (by decide)
    have e7 : ρ 7 = x7 := hx 7 (by decide)
    have e8 : ρ 8 = x8 := hx 8 (by decide)
    subst e0
    subst e1
    subst e2
    subst e3
    subst e4
    subst e5
    subst e6
    subst e7
    subst e8
    match stc, g8 with
    | [_], ⟨h, _⟩ => cases h; exact l0 τ ρ g1 g2 g3 g4 g5 g6
set_option maxRecDepth 100000 in
theorem xc_lineE2_s5 {σ : pm_S} {Q : Option Value → pm_S → Prop} (x0 x1 x2 x3 x4 x5 x6 x7 x8 : Int)  (hB : an_GB pm_B σ) (eF : (0 ≤ x0 ∧ x0 ≤ 9999) ∧ (0 ≤ x1 ∧ x1 ≤ 9) ∧ ((-2147483648) ≤ x2 ∧ x2 ≤ 2147483647) ∧ ((-2147483648) ≤ x3 ∧ x3 ≤ 2147483647) ∧ (0 ≤ x4 ∧ x4 ≤ 10) ∧ (0 ≤ x5 ∧ x5 ≤ 10) ∧ (0 ≤ x6 ∧ x6 ≤ 30) ∧ (0 ≤ x7 ∧ x7 ≤ 0) ∧ (1 ≤ x8 ∧ x8 ≤ 1) ∧ True) (eC : (σ.1 3 0).toInt = x4 ∧ (σ.1 7 0).toInt = x5 ∧ (σ.1 21 0).toInt = x6 ∧ True)
    (l0 : ∀ (τ : pm_S) (y : Nat → Int), an_GB pm_B τ → FQ [(21, 0)] σ τ → ((0 ≤ x0 ∧ x0 ≤ 9999) ∧ (0 ≤ x1 ∧ x1 ≤ 9) ∧ ((-2147483648) ≤ x2 ∧ x2 ≤ 2147483647) ∧ ((-2147483648) ≤ x3 ∧ x3 ≤ 2147483647) ∧ (0 ≤ x4 ∧ x4 ≤ 10) ∧ (0 ≤ x5 ∧ x5 ≤ 10) ∧ (0 ≤ x6 ∧ x6 ≤ 30) ∧ (0 ≤ x7 ∧ x7 ≤ 0) ∧ (1 ≤ x8 ∧ x8 ≤ 1) ∧ True) → (True) → (True) → ((τ.1 3 0).toInt = x4 ∧ (τ.1 7 0).toInt = x5 ∧ (τ.1 21 0).toInt = x6 ∧ True) → Q (some (.int (Int32.ofInt (-1)))) τ)
    : Ok 149 23 52 [.ref 0, .int (Int32.ofInt (x0)), .int (Int32.ofInt (x1)), .int (Int32.ofInt (x2)), .int (Int32.ofInt (x3)), .int (Int32.ofInt (x7)), .int (Int32.ofInt (x8))] [.int (Int32.ofInt (-1))] σ Q := by
  refine an_seg (B := pm_B) (F := [(21, 0)]) (T := []) (S := []) (fun _ h => absurd h List.not_mem_nil) (k := 149) (d := 22) (cs := [36, 51]) 3 52 9 [(0, 0, 9999), (1, 0, 9), (2, (-2147483648), 2147483647), (3, (-2147483648), 2147483647), (4, 0, 10), (5, 0, 10), (6, 0, 30), (7, 0, 0), (8, 1, 1)] [(3, (1, 0, 0), (0, 4, 0)), (7, (1, 0, 0), (0, 5, 0)), (21, (1, 0, 0), (0, 6, 0))] [(2, 0, 0), (0, 0, 0), (0, 1, 0), (0, 2, 0), (0, 3, 0), (0, 7, 0), (0, 8, 0)] [(1, 0, (-1))] [(9999, [], [(1, 0, (-1))], [(0, 0, 9999), (1, 0, 9), (2, (-2147483648), 2147483647), (3, (-2147483648), 2147483647), (4, 0, 10), (5, 0, 10), (6, 0, 30), (7, 0, 0), (8, 1, 1)], [], [], [(3, (1, 0, 0), (0, 4, 0)), (7, (1, 0, 0), (0, 5, 0)), (21, (1, 0, 0), (0, 6, 0))])] (by decide +kernel) (ρ0 := (fun s => [x0, x1, x2, x3, x4, x5, x6, x7, x8].getD s 0)) hB eF eC ⟨rfl, ⟨rfl, ⟨rfl, ⟨rfl, ⟨rfl, ⟨rfl, ⟨rfl, trivial⟩⟩⟩⟩⟩⟩⟩ ⟨rfl, trivial⟩ ?_
  refine List.forall_mem_cons.mpr ⟨?_, fun _ h => absurd h List.not_mem_nil⟩
  · intro ρ τ Lc stc hx g1 g2 g3 g4 g5 g6 g7 g8
    have e0 : ρ 0 = x0 := hx 0 (by decide)
    have e1 : ρ 1 = x1 := hx 1 (by decide)
    have e2 : ρ 2 = x2 := hx 2 (by decide)
    have e3 : ρ 3 = x3 := hx 3 (by decide)
    have e4 : ρ 4 = x4 := hx 4 (by decide)
    have e5 : ρ 5 = x5 := hx 5 (by decide)
    have e6 : ρ 6 = x6 := hx 6 (by decide)
    have e7 : ρ 7 = x7 := hx 7 (by decide)
    have e8 : ρ 8 = x8 := hx 8 (by decide)
    subst e0
    subst e1
    subst e2
    subst e3
    subst e4
    subst e5
    subst e6
    subst e7
    subst e8
    match stc, g8 with
    | [_], ⟨h, _⟩ => cases h; exact l0 τ ρ g1 g2 g3 g4 g5 g6
set_option maxRecDepth 100000 in
theorem xc_lineE2_s6 {σ : pm_S} {Q : Option Value → pm_S → Prop} (x0 x1 x2 x3 x4 x5 x6 x7 x8 : Int)  (hB : an_GB pm_B σ) (eF : (0 ≤ x0 ∧ x0 ≤ 9999) ∧ (0 ≤ x1 ∧ x1 ≤ 9) ∧ ((-2147483648) ≤ x2 ∧ x2 ≤ 2147483647) ∧ ((-2147483648) ≤ x3 ∧ x3 ≤ 2147483647) ∧ (0 ≤ x4 ∧ x4 ≤ 10) ∧ (0 ≤ x5 ∧ x5 ≤ 10) ∧ (0 ≤ x6 ∧ x6 ≤ 30) ∧ (0 ≤ x7 ∧ x7 ≤ 0) ∧ (1 ≤ x8 ∧ x8 ≤ 1) ∧ True) (eC : (σ.1 3 0).toInt = x4 ∧ (σ.1 7 0).toInt = x5 ∧ (σ.1 21 0).toInt = x6 + 1 ∧ True)
    (l0 : ∀ (τ : pm_S) (y : Nat → Int), an_GB pm_B τ → FQ [(21, 0)] σ τ → ((0 ≤ x0 ∧ x0 ≤ 9999) ∧ (0 ≤ x1 ∧ x1 ≤ 9) ∧ ((-2147483648) ≤ x2 ∧ x2 ≤ 2147483647) ∧ ((-2147483648) ≤ x3 ∧ x3 ≤ 2147483647) ∧ (0 ≤ x4 ∧ x4 ≤ 10) ∧ (0 ≤ x5 ∧ x5 ≤ 10) ∧ (0 ≤ x6 ∧ x6 ≤ 30) ∧ (0 ≤ x7 ∧ x7 ≤ 0) ∧ (1 ≤ x8 ∧ x8 ≤ 1) ∧ True) → (True) → (True) → ((τ.1 3 0).toInt = x4 ∧ (τ.1 7 0).toInt = x5 ∧ (τ.1 21 0).toInt = x6 + 1 ∧ True) → Q (some (.int (Int32.ofInt (x6)))) τ)
    : Ok 149 23 52 [.ref 0, .int (Int32.ofInt (x0)), .int (Int32.ofInt (x1)), .int (Int32.ofInt (x2)), .int (Int32.ofInt (x3)), .int (Int32.ofInt (x7)), .int (Int32.ofInt (x8))] [.int (Int32.ofInt (x6))] σ Q := by
  refine an_seg (B := pm_B) (F := [(21, 0)]) (T := []) (S := []) (fun _ h => absurd h List.not_mem_nil) (k := 149) (d := 22) (cs := [36, 51]) 3 52 9 [(0, 0, 9999), (1, 0, 9), (2, (-2147483648), 2147483647), (3, (-2147483648), 2147483647), (4, 0, 10), (5, 0, 10), (6, 0, 30), (7, 0, 0), (8, 1, 1)] [(3, (1, 0, 0), (0, 4, 0)), (7, (1, 0, 0), (0, 5, 0)), (21, (1, 0, 0), (0, 6, 1))] [(2, 0, 0), (0, 0, 0), (0, 1, 0), (0, 2, 0), (0, 3, 0), (0, 7, 0), (0, 8, 0)] [(0, 6, 0)] [(9999, [], [(0, 6, 0)], [(0, 0, 9999), (1, 0, 9), (2, (-2147483648), 2147483647), (3, (-2147483648), 2147483647), (4, 0, 10), (5, 0, 10), (6, 0, 30), (7, 0, 0), (8, 1, 1)], [], [], [(3, (1, 0, 0), (0, 4, 0)), (7, (1, 0, 0), (0, 5, 0)), (21, (1, 0, 0), (0, 6, 1))])] (by decide +kernel) (ρ0 := (fun s => [x0, x1, x2, x3, x4, x5, x6, x7, x8].getD s 0)) hB eF eC ⟨rfl, ⟨rfl, ⟨rfl, ⟨rfl, ⟨rfl, ⟨rfl, ⟨rfl, trivial⟩⟩⟩⟩⟩⟩⟩ ⟨rfl, trivial⟩ ?_
  refine List.forall_mem_cons.mpr ⟨?_, fun _ h => absurd h List.not_mem_nil⟩
  · intro ρ τ Lc stc hx g1 g2 g3 g4 g5 g6 g7 g8
    have e0 : ρ 0 = x0 := hx 0 (by decide)
    have e1 : ρ 1 = x1 := hx 1 (by decide)
    have e2 : ρ 2 = x2 := hx 2 (by decide)
    have e3 : ρ 3 = x3 := hx 3 (by decide)
    have e4 : ρ 4 = x4 := hx 4 (by decide)
    have e5 : ρ 5 = x5 := hx 5 (by decide)
    have e6 : ρ 6 = x6 := hx 6 (by decide)
    have e7 : ρ 7 = x7 := hx 7 (by decide)
    have e8 : ρ 8 = x8 := hx 8 (by decide)
    subst e0
    subst e1
    subst e2
    subst e3
    subst e4
    subst e5
    subst e6
    subst e7
    subst e8
    match stc, g8 with
    | [_], ⟨h, _⟩ => cases h; exact l0 τ ρ g1 g2 g3 g4 g5 g6
set_option maxRecDepth 20000 in
theorem xc_lineE2 {σ : pm_S} (x0 x1 x2 x3 x4 x5 x6 x7 x8 : Int) (hB : an_GB pm_B σ) (g0 : (-2147483648) ≤ x0 ∧ x0 ≤ 2147483647) (g1 : (-2147483648) ≤ x1 ∧ x1 ≤ 2147483647) (g2 : (-2147483648) ≤ x2 ∧ x2 ≤ 2147483647) (g3 : (-2147483648) ≤ x3 ∧ x3 ≤ 2147483647) (g4 : 0 ≤ x4 ∧ x4 ≤ 10) (g5 : 0 ≤ x5 ∧ x5 ≤ 10) (g6 : 0 ≤ x6 ∧ x6 ≤ 30) (g7 : 0 ≤ x7 ∧ x7 ≤ 1) (g8 : 0 ≤ x8 ∧ x8 ≤ 1) (e0 : (σ.1 3 0).toInt = x4) (e1 : (σ.1 7 0).toInt = x5) (e2 : (σ.1 21 0).toInt = x6) (hx : x7 = 1 ∨ x8 = 1 → ((-1) ≤ x2 ∧ x2 ≤ 9) ∧ ((-1) ≤ x3 ∧ x3 ≤ 9)) : Ok 149 23 29 [.ref 0, .int (Int32.ofInt (x0)), .int (Int32.ofInt (x1)), .int (Int32.ofInt (x2)), .int (Int32.ofInt (x3)), .int (Int32.ofInt (x7)), .int (Int32.ofInt (x8))] [] σ (fun r τ => an_GB pm_B τ ∧ ((¬ (0 ≤ x0 ∧ x0 ≤ 9999 ∧ 0 ≤ x1 ∧ x1 < x5 ∧ (x7 = 1 ∨ x8 = 1) ∧ x6 ≤ 29) ∧ r = some (.int (Int32.ofInt (-1))) ∧ (τ.1 21 0).toInt = x6 ∧ puF [(21, 0)] [] σ τ) ∨ ((0 ≤ x0 ∧ x0 ≤ 9999 ∧ 0 ≤ x1 ∧ x1 < x5 ∧ (x7 = 1 ∨ x8 = 1) ∧ x6 ≤ 29) ∧ r = some (.int (Int32.ofInt (x6))) ∧ (τ.1 21 0).toInt = x6 + 1 ∧ puF [(21, 0)] [(25, (x6).toNat, Int32.ofInt (x3)), (24, (x6).toNat, Int32.ofInt (x2)), (23, (x6).toNat, Int32.ofInt (x1)), (22, (x6).toNat, Int32.ofInt (x0))] σ τ))) := by
  refine xc_lineE2_s0 x0 x1 x2 x3 x4 x5 x6 x7 x8 hB ⟨by omega, by omega, by omega, by omega, by omega, by omega, by omega, by omega, by omega, trivial⟩ ⟨e0, e1, e2, trivial⟩ ?_ ?_ ?_
  · intro τ1 y1  hB1 hF1 f1 rr1 _ c1
    obtain ⟨f1_0, f1_1, f1_2, f1_3, f1_4, f1_5, f1_6, f1_7, f1_8, -⟩ := f1
    obtain ⟨c1_0, c1_1, c1_2, -⟩ := c1
    have hG1 : puF [(21, 0)] [] σ τ1 := puF.fq rfl (puF.rf _ _) hF1
    exact ⟨hB1, Or.inl ⟨by omega, rfl, c1_2, hG1⟩⟩
  · intro τ2 y2  hB2 hF2 f2 rr2 _ c2
    obtain ⟨f2_0, f2_1, f2_2, f2_3, f2_4, f2_5, f2_6, f2_7, f2_8, -⟩ := f2
    obtain ⟨c2_0, c2_1, c2_2, -⟩ := c2
    have hG2 : puF [(21, 0)] [] σ τ2 := puF.fq rfl (puF.rf _ _) hF2
    exact ⟨hB2, Or.inl ⟨by omega, rfl, c2_2, hG2⟩⟩
  · intro τ3 y3  hB3 hF3 f3 rr3 _ c3
    obtain ⟨f3_0, f3_1, f3_2, f3_3, f3_4, f3_5, f3_6, f3_7, f3_8, -⟩ := f3
    obtain ⟨c3_0, c3_1, c3_2, -⟩ := c3
    have hG3 : puF [(21, 0)] [] σ τ3 := puF.fq rfl (puF.rf _ _) hF3
    refine Ok.cv rfl rfl rfl rfl rfl rfl rfl ?_
    refine (x_h61 (x1) (x5) hB3 (by omega) c3_1).use (by decide) (fun r4 τ4 q4 => ?_)
    obtain ⟨hB4, hF4, ⟨q4, rfl, d4⟩ | ⟨q4, rfl, d4⟩⟩ := q4
    · have hG4 : puF [(21, 0)] [] σ τ4 := puF.fq rfl hG3 hF4
      have e4_3_0 : (τ4.1 3 0).toInt = x4 := (congrArg Int32.toInt (show τ4.1 3 0 = τ3.1 3 0 from hF4 3 0 rfl)).trans c3_0
      have e4_7_0 : (τ4.1 7 0).toInt = x5 := (congrArg Int32.toInt (show τ4.1 7 0 = τ3.1 7 0 from hF4 7 0 rfl)).trans c3_1
      have e4_21_0 : (τ4.1 21 0).toInt = x6 := (congrArg Int32.toInt (show τ4.1 21 0 = τ3.1 21 0 from hF4 21 0 rfl)).trans c3_2
      refine xc_lineE2_s1 x0 x1 x2 x3 x4 x5 x6 x7 x8 hB4 ⟨by omega, by omega, by omega, by omega, by omega, by omega, by omega, by omega, by omega, trivial⟩ ⟨e4_3_0, e4_7_0, e4_21_0, trivial⟩ ?_
      · intro τ5 y5  hB5 hF5 f5 rr5 _ c5
        obtain ⟨f5_0, f5_1, f5_2, f5_3, f5_4, f5_5, f5_6, f5_7, f5_8, -⟩ := f5
        obtain ⟨c5_0, c5_1, c5_2, -⟩ := c5
        have hG5 : puF [(21, 0)] [] σ τ5 := puF.fq rfl hG4 hF5
        exact ⟨hB5, Or.inl ⟨by omega, rfl, c5_2, hG5⟩⟩
    · have hG4 : puF [(21, 0)] [] σ τ4 := puF.fq rfl hG3 hF4
      have e4_3_0 : (τ4.1 3 0).toInt = x4 := (congrArg Int32.toInt (show τ4.1 3 0 = τ3.1 3 0 from hF4 3 0 rfl)).trans c3_0
      have e4_7_0 : (τ4.1 7 0).toInt = x5 := (congrArg Int32.toInt (show τ4.1 7 0 = τ3.1 7 0 from hF4 7 0 rfl)).trans c3_1
      have e4_21_0 : (τ4.1 21 0).toInt = x6 := (congrArg Int32.toInt (show τ4.1 21 0 = τ3.1 21 0 from hF4 21 0 rfl)).trans c3_2
      refine xc_lineE2_s2 x0 x1 x2 x3 x4 x5 x6 x7 x8 hB4 ⟨by omega, by omega, by omega, by omega, by omega, by omega, by omega, by omega, by omega, trivial⟩ ⟨e4_3_0, e4_7_0, e4_21_0, trivial⟩ ?_ ?_ ?_
      · intro τ6 y6  hB6 hF6 f6 rr6 _ c6
        obtain ⟨f6_0, f6_1, f6_2, f6_3, f6_4, f6_5, f6_6, f6_7, f6_8, -⟩ := f6
        obtain ⟨c6_0, c6_1, c6_2, -⟩ := c6
        have hG6 : puF [(21, 0)] [] σ τ6 := puF.fq rfl hG4 hF6
        refine Ok.cv rfl rfl rfl rfl rfl rfl rfl ?_
        refine (x_ladd x0 x1 x2 x3 x6 hB6 (by omega) (by omega) (by omega) (by omega) (by omega) c6_2).use (by decide) (fun r7 τ7 q7 => ?_)
        obtain ⟨hB7, ⟨q7, rfl, d7, hF7⟩ | ⟨q7, rfl, d7, hF7⟩⟩ := q7
        · have hG7 : puF [(21, 0)] [] σ τ7 := puF.tr hG6 (puF.up rfl hF7)
          have e7_3_0 : (τ7.1 3 0).toInt = x4 := (congrArg Int32.toInt (show τ7.1 3 0 = τ6.1 3 0 from hF7 3 0 rfl)).trans c6_0
          have e7_7_0 : (τ7.1 7 0).toInt = x5 := (congrArg Int32.toInt (show τ7.1 7 0 = τ6.1 7 0 from hF7 7 0 rfl)).trans c6_1
          refine xc_lineE2_s3 x0 x1 x2 x3 x4 x5 x6 x7 x8 hB7 ⟨by omega, by omega, by omega, by omega, by omega, by omega, by omega, by omega, by omega, trivial⟩ ⟨e7_3_0, e7_7_0, d7, trivial⟩ ?_
          · intro τ8 y8  hB8 hF8 f8 rr8 _ c8
            obtain ⟨f8_0, f8_1, f8_2, f8_3, f8_4, f8_5, f8_6, f8_7, f8_8, -⟩ := f8
            obtain ⟨c8_0, c8_1, c8_2, -⟩ := c8
            have hG8 : puF [(21, 0)] [] σ τ8 := puF.fq rfl hG7 hF8
            exact ⟨hB8, Or.inl ⟨by omega, rfl, c8_2, hG8⟩⟩
        · have hG7 : puF [(21, 0)] [(25, (x6).toNat, Int32.ofInt (x3)), (24, (x6).toNat, Int32.ofInt (x2)), (23, (x6).toNat, Int32.ofInt (x1)), (22, (x6).toNat, Int32.ofInt (x0))] σ τ7 := puF.tr hG6 (puF.up rfl hF7)
          have e7_3_0 : (τ7.1 3 0).toInt = x4 := (congrArg Int32.toInt (show τ7.1 3 0 = τ6.1 3 0 from hF7 3 0 rfl)).trans c6_0
          have e7_7_0 : (τ7.1 7 0).toInt = x5 := (congrArg Int32.toInt (show τ7.1 7 0 = τ6.1 7 0 from hF7 7 0 rfl)).trans c6_1
          refine xc_lineE2_s4 x0 x1 x2 x3 x4 x5 x6 x7 x8 hB7 ⟨by omega, by omega, by omega, by omega, by omega, by omega, by omega, by omega, by omega, trivial⟩ ⟨e7_3_0, e7_7_0, d7, trivial⟩ ?_
          · intro τ9 y9  hB9 hF9 f9 rr9 _ c9
            obtain ⟨f9_0, f9_1, f9_2, f9_3, f9_4, f9_5, f9_6, f9_7, f9_8, -⟩ := f9
            obtain ⟨c9_0, c9_1, c9_2, -⟩ := c9
            have hG9 : puF [(21, 0)] [(25, (x6).toNat, Int32.ofInt (x3)), (24, (x6).toNat, Int32.ofInt (x2)), (23, (x6).toNat, Int32.ofInt (x1)), (22, (x6).toNat, Int32.ofInt (x0))] σ τ9 := puF.fq rfl hG7 hF9
            exact ⟨hB9, Or.inr ⟨by omega, rfl, c9_2, hG9⟩⟩
      · intro τ10 y10  hB10 hF10 f10 rr10 _ c10
        obtain ⟨f10_0, f10_1, f10_2, f10_3, f10_4, f10_5, f10_6, f10_7, f10_8, -⟩ := f10
        obtain ⟨c10_0, c10_1, c10_2, -⟩ := c10
        have hG10 : puF [(21, 0)] [] σ τ10 := puF.fq rfl hG4 hF10
        refine Ok.cv rfl rfl rfl rfl rfl rfl rfl ?_
        refine (x_ladd x0 x1 x2 x3 x6 hB10 (by omega) (by omega) (by omega) (by omega) (by omega) c10_2).use (by decide) (fun r11 τ11 q11 => ?_)
        obtain ⟨hB11, ⟨q11, rfl, d11, hF11⟩ | ⟨q11, rfl, d11, hF11⟩⟩ := q11
        · have hG11 : puF [(21, 0)] [] σ τ11 := puF.tr hG10 (puF.up rfl hF11)
          have e11_3_0 : (τ11.1 3 0).toInt = x4 := (congrArg Int32.toInt (show τ11.1 3 0 = τ10.1 3 0 from hF11 3 0 rfl)).trans c10_0
          have e11_7_0 : (τ11.1 7 0).toInt = x5 := (congrArg Int32.toInt (show τ11.1 7 0 = τ10.1 7 0 from hF11 7 0 rfl)).trans c10_1
          refine xc_lineE2_s5 x0 x1 x2 x3 x4 x5 x6 x7 x8 hB11 ⟨by omega, by omega, by omega, by omega, by omega, by omega, by omega, by omega, by omega, trivial⟩ ⟨e11_3_0, e11_7_0, d11, trivial⟩ ?_
          · intro τ12 y12  hB12 hF12 f12 rr12 _ c12
            obtain ⟨f12_0, f12_1, f12_2, f12_3, f12_4, f12_5, f12_6, f12_7, f12_8, -⟩ := f12
            obtain ⟨c12_0, c12_1, c12_2, -⟩ := c12
            have hG12 : puF [(21, 0)] [] σ τ12 := puF.fq rfl hG11 hF12
            exact ⟨hB12, Or.inl ⟨by omega, rfl, c12_2, hG12⟩⟩
        · have hG11 : puF [(21, 0)] [(25, (x6).toNat, Int32.ofInt (x3)), (24, (x6).toNat, Int32.ofInt (x2)), (23, (x6).toNat, Int32.ofInt (x1)), (22, (x6).toNat, Int32.ofInt (x0))] σ τ11 := puF.tr hG10 (puF.up rfl hF11)
          have e11_3_0 : (τ11.1 3 0).toInt = x4 := (congrArg Int32.toInt (show τ11.1 3 0 = τ10.1 3 0 from hF11 3 0 rfl)).trans c10_0
          have e11_7_0 : (τ11.1 7 0).toInt = x5 := (congrArg Int32.toInt (show τ11.1 7 0 = τ10.1 7 0 from hF11 7 0 rfl)).trans c10_1
          refine xc_lineE2_s6 x0 x1 x2 x3 x4 x5 x6 x7 x8 hB11 ⟨by omega, by omega, by omega, by omega, by omega, by omega, by omega, by omega, by omega, trivial⟩ ⟨e11_3_0, e11_7_0, d11, trivial⟩ ?_
          · intro τ13 y13  hB13 hF13 f13 rr13 _ c13
            obtain ⟨f13_0, f13_1, f13_2, f13_3, f13_4, f13_5, f13_6, f13_7, f13_8, -⟩ := f13
            obtain ⟨c13_0, c13_1, c13_2, -⟩ := c13
            have hG13 : puF [(21, 0)] [(25, (x6).toNat, Int32.ofInt (x3)), (24, (x6).toNat, Int32.ofInt (x2)), (23, (x6).toNat, Int32.ofInt (x1)), (22, (x6).toNat, Int32.ofInt (x0))] σ τ13 := puF.fq rfl hG11 hF13
            exact ⟨hB13, Or.inr ⟨by omega, rfl, c13_2, hG13⟩⟩
      · intro τ14 y14  hB14 hF14 f14 rr14 _ c14
        obtain ⟨f14_0, f14_1, f14_2, f14_3, f14_4, f14_5, f14_6, f14_7, f14_8, -⟩ := f14
        obtain ⟨c14_0, c14_1, c14_2, -⟩ := c14
        have hG14 : puF [(21, 0)] [] σ τ14 := puF.fq rfl hG4 hF14
        exact ⟨hB14, Or.inl ⟨by omega, rfl, c14_2, hG14⟩⟩
set_option maxRecDepth 100000 in
theorem xc_lineE_s0 {σ : pm_S} {Q : Option Value → pm_S → Prop} (x0 x1 x2 x3 x4 x5 x6 : Int) (v5 : Value) (v6 : Value) (hv5 : v5.category = 1) (hv6 : v6.category = 1) (hB : an_GB pm_B σ) (eF : ((-2147483648) ≤ x0 ∧ x0 ≤ 2147483647) ∧ ((-2147483648) ≤ x1 ∧ x1 ≤ 2147483647) ∧ ((-2147483648) ≤ x2 ∧ x2 ≤ 2147483647) ∧ ((-2147483648) ≤ x3 ∧ x3 ≤ 2147483647) ∧ (0 ≤ x4 ∧ x4 ≤ 10) ∧ (0 ≤ x5 ∧ x5 ≤ 10) ∧ (0 ≤ x6 ∧ x6 ≤ 30) ∧ True) (eC : (σ.1 3 0).toInt = x4 ∧ (σ.1 7 0).toInt = x5 ∧ (σ.1 21 0).toInt = x6 ∧ True)
    (l0 : ∀ (τ : pm_S) (y : Nat → Int), an_GB pm_B τ → FQ [(21, 0)] σ τ → (((-2147483648) ≤ x0 ∧ x0 ≤ 2147483647) ∧ ((-2147483648) ≤ x1 ∧ x1 ≤ 2147483647) ∧ ((-2147483648) ≤ x2 ∧ x2 ≤ 2147483647) ∧ ((-2147483648) ≤ x3 ∧ x3 ≤ 2147483647) ∧ (0 ≤ x4 ∧ x4 ≤ 10) ∧ (0 ≤ x5 ∧ x5 ≤ 10) ∧ (0 ≤ x6 ∧ x6 ≤ 30) ∧ True) → (x3 ≠ (-1) ∧ x2 ≠ (-1) ∧ True) → (True) → ((τ.1 3 0).toInt = x4 ∧ (τ.1 7 0).toInt = x5 ∧ (τ.1 21 0).toInt = x6 ∧ True) → Ok 149 23 29 [.ref 0, .int (Int32.ofInt (x0)), .int (Int32.ofInt (x1)), .int (Int32.ofInt (x2)), .int (Int32.ofInt (x3)), .int (Int32.ofInt 0), .int (Int32.ofInt 0)] [] τ Q)
    (l1 : ∀ (τ : pm_S) (y : Nat → Int) (v6 : Value), v6.category = 1 → an_GB pm_B τ → FQ [(21, 0)] σ τ → (((-2147483648) ≤ x0 ∧ x0 ≤ 2147483647) ∧ ((-2147483648) ≤ x1 ∧ x1 ≤ 2147483647) ∧ ((-2147483648) ≤ x2 ∧ x2 ≤ 2147483647) ∧ ((-1) ≤ x3 ∧ x3 ≤ (-1)) ∧ (0 ≤ x4 ∧ x4 ≤ 10) ∧ (0 ≤ x5 ∧ x5 ≤ 10) ∧ (0 ≤ x6 ∧ x6 ≤ 30) ∧ True) → (x2 ≠ (-1) ∧ True) → (True) → ((τ.1 3 0).toInt = x4 ∧ (τ.1 7 0).toInt = x5 ∧ (τ.1 21 0).toInt = x6 ∧ True) → Ok 149 23 20 [.ref 0, .int (Int32.ofInt (x0)), .int (Int32.ofInt (x1)), .int (Int32.ofInt (x2)), .int (Int32.ofInt (x3)), .int (Int32.ofInt 0), v6] [.int (Int32.ofInt (x2)), .ref 7] τ Q)
    (l2 : ∀ (τ : pm_S) (y : Nat → Int) (v5 : Value) (v6 : Value), v5.category = 1 → v6.category = 1 → an_GB pm_B τ → FQ [(21, 0)] σ τ → (((-2147483648) ≤ x0 ∧ x0 ≤ 2147483647) ∧ ((-2147483648) ≤ x1 ∧ x1 ≤ 2147483647) ∧ ((-1) ≤ x2 ∧ x2 ≤ (-1)) ∧ ((-2147483648) ≤ x3 ∧ x3 ≤ 2147483647) ∧ (0 ≤ x4 ∧ x4 ≤ 10) ∧ (0 ≤ x5 ∧ x5 ≤ 10) ∧ (0 ≤ x6 ∧ x6 ≤ 30) ∧ True) → (True) → (True) → ((τ.1 3 0).toInt = x4 ∧ (τ.1 7 0).toInt = x5 ∧ (τ.1 21 0).toInt = x6 ∧ True) → Ok 149 23 7 [.ref 0, .int (Int32.ofInt (x0)), .int (Int32.ofInt (x1)), .int (Int32.ofInt (x2)), .int (Int32.ofInt (x3)), v5, v6] [.int (Int32.ofInt (x3)), .ref 3] τ Q)
    : Ok 149 23 0 [.ref 0, .int (Int32.ofInt (x0)), .int (Int32.ofInt (x1)), .int (Int32.ofInt (x2)), .int (Int32.ofInt (x3)), v5, v6] [] σ Q := by
  refine an_seg (B := pm_B) (F := [(21, 0)]) (T := []) (S := []) (fun _ h => absurd h List.not_mem_nil) (k := 149) (d := 22) (cs := [7, 20, 24, 29]) 14 0 7 [(0, (-2147483648), 2147483647), (1, (-2147483648), 2147483647), (2, (-2147483648), 2147483647), (3, (-2147483648), 2147483647), (4, 0, 10), (5, 0, 10), (6, 0, 30)] [(3, (1, 0, 0), (0, 4, 0)), (7, (1, 0, 0), (0, 5, 0)), (21, (1, 0, 0), (0, 6, 0))] [(2, 0, 0), (0, 0, 0), (0, 1, 0), (0, 2, 0), (0, 3, 0), (5, 0, 0), (5, 0, 0)] [] [(29, [(2, 0, 0), (0, 0, 0), (0, 1, 0), (0, 2, 0), (0, 3, 0), (1, 0, 0), (1, 0, 0)], [], [(0, (-2147483648), 2147483647), (1, (-2147483648), 2147483647), (2, (-2147483648), 2147483647), (3, (-2147483648), 2147483647), (4, 0, 10), (5, 0, 10), (6, 0, 30)], [(3, 3, 3, (-1)), (3, 2, 2, (-1))], [], [(3, (1, 0, 0), (0, 4, 0)), (7, (1, 0, 0), (0, 5, 0)), (21, (1, 0, 0), (0, 6, 0))]),
    (20, [(2, 0, 0), (0, 0, 0), (0, 1, 0), (0, 2, 0), (0, 3, 0), (1, 0, 0), (5, 0, 0)], [(0, 2, 0), (2, 7, 0)], [(0, (-2147483648), 2147483647), (1, (-2147483648), 2147483647), (2, (-2147483648), 2147483647), (3, (-1), (-1)), (4, 0, 10), (5, 0, 10), (6, 0, 30)], [(3, 2, 2, (-1))], [], [(3, (1, 0, 0), (0, 4, 0)), (7, (1, 0, 0), (0, 5, 0)), (21, (1, 0, 0), (0, 6, 0))]),
    (7, [(2, 0, 0), (0, 0, 0), (0, 1, 0), (0, 2, 0), (0, 3, 0), (5, 0, 0), (5, 0, 0)], [(0, 3, 0), (2, 3, 0)], [(0, (-2147483648), 2147483647), (1, (-2147483648), 2147483647), (2, (-1), (-1)), (3, (-2147483648), 2147483647), (4, 0, 10), (5, 0, 10), (6, 0, 30)], [], [], [(3, (1, 0, 0), (0, 4, 0)), (7, (1, 0, 0), (0, 5, 0)), (21, (1, 0, 0), (0, 6, 0))])] (by decide +kernel) (ρ0 := (fun s => [x0, x1, x2, x3, x4, x5, x6].getD s 0)) hB eF eC ⟨rfl, ⟨rfl, ⟨rfl, ⟨rfl, ⟨rfl, ⟨hv5, ⟨hv6, trivial⟩⟩⟩⟩⟩⟩⟩ trivial ?_
  refine List.forall_mem_cons.mpr ⟨?_, List.forall_mem_cons.mpr ⟨?_, List.forall_mem_cons.mpr ⟨?_, fun _ h => absurd h List.not_mem_nil⟩⟩⟩
  · intro ρ τ Lc stc hx g1 g2 g3 g4 g5 g6 g7 g8
    have e0 : ρ 0 = x0 := hx 0 (by decide)
    have e1 : ρ 1 = x1 := hx 1 (by decide)
    have e2 : ρ 2 = x2 := hx 2 (by decide)
    have e3 : ρ 3 = x3 := hx 3 (by decide)
    have e4 : ρ 4 = x4 := hx 4 (by decide)
    have e5 : ρ 5 = x5 := hx 5 (by decide)
    have e6 : ρ 6 = x6 := hx 6 (by decide)
    subst e0
    subst e1
    subst e2
    subst e3
    subst e4
    subst e5
    subst e6
    have g7 := g7 (by decide)
    match Lc, stc, g7, g8 with
    | [v0, v1, v2, v3, v4, v5, v6], [], ⟨hv0, hv1, hv2, hv3, hv4, hv5, hv6, _⟩, _ =>
      cases hv0
      cases hv1
      cases hv2
      cases hv3
      cases hv4
      cases hv5
      cases hv6
      exact l0 τ ρ  g1 g2 g3 g4 g5 g6
  · intro ρ τ Lc stc hx g1 g2 g3 g4 g5 g6 g7 g8
    have e0 : ρ 0 = x0 := hx 0 (by decide)
    have e1 : ρ 1 = x1 := hx 1 (by decide)
    have e2 : ρ 2 = x2 := hx 2 (by decide)
    have e3 : ρ 3 = x3 := hx 3 (by decide)
    have e4 : ρ 4 = x4 := hx 4 (by decide)
    have e5 : ρ 5 = x5 := hx 5 (by decide)
    have e6 : ρ 6 = x6 := hx 6 (by decide)
    subst e0
    subst e1
    subst e2
    subst e3
    subst e4
    subst e5
    subst e6
    have g7 := g7 (by decide)
    match Lc, stc, g7, g8 with
    | [v0, v1, v2, v3, v4, v5, v6], [w0, w1], ⟨hv0, hv1, hv2, hv3, hv4, hv5, hv6, _⟩, ⟨hw0, hw1, _⟩ =>
      cases hv0
      cases hv1
      cases hv2
      cases hv3
      cases hv4
      cases hv5
      cases hw0
      cases hw1
      exact l1 τ ρ v6 hv6 g1 g2 g3 g4 g5 g6
  · intro ρ τ Lc stc hx g1 g2 g3 g4 g5 g6 g7 g8
    have e0 : ρ 0 = x0 := hx 0 (by decide)
    have e1 : ρ 1 = x1 := hx 1 (by decide)
    have e2 : ρ 2 = x2 := hx 2 (by decide)
    have e3 : ρ 3 = x3 := hx 3 (by decide)
    have e4 : ρ 4 = x4 := hx 4 (by decide)
    have e5 : ρ 5 = x5 := hx 5 (by decide)
    have e6 : ρ 6 = x6 := hx 6 (by decide)
    subst e0
    subst e1
    subst e2
    subst e3
    subst e4
    subst e5
    subst e6
    have g7 := g7 (by decide)
    match Lc, stc, g7, g8 with
    | [v0, v1, v2, v3, v4, v5, v6], [w0, w1], ⟨hv0, hv1, hv2, hv3, hv4, hv5, hv6, _⟩, ⟨hw0, hw1, _⟩ =>
      cases hv0
      cases hv1
      cases hv2
      cases hv3
      cases hv4
      cases hw0
      cases hw1
      exact l2 τ ρ v5 v6 hv5 hv6 g1 g2 g3 g4 g5 g6
set_option maxRecDepth 100000 in
theorem xc_lineE_s1 {σ : pm_S} {Q : Option Value → pm_S → Prop} (x0 x1 x2 x3 x4 x5 x6 : Int) (v6 : Value) (hv6 : v6.category = 1) (hB : an_GB pm_B σ) (eF : ((-2147483648) ≤ x0 ∧ x0 ≤ 2147483647) ∧ ((-2147483648) ≤ x1 ∧ x1 ≤ 2147483647) ∧ ((-2147483648) ≤ x2 ∧ x2 ≤ 2147483647) ∧ ((-1) ≤ x3 ∧ x3 ≤ (-1)) ∧ (0 ≤ x4 ∧ x4 ≤ 10) ∧ (0 ≤ x5 ∧ x5 ≤ 10) ∧ (0 ≤ x6 ∧ x6 ≤ 30) ∧ True) (eC : (σ.1 3 0).toInt = x4 ∧ (σ.1 7 0).toInt = x5 ∧ (σ.1 21 0).toInt = x6 ∧ True)
    (l0 : ∀ (τ : pm_S) (y : Nat → Int), an_GB pm_B τ → FQ [(21, 0)] σ τ → (((-2147483648) ≤ x0 ∧ x0 ≤ 2147483647) ∧ ((-2147483648) ≤ x1 ∧ x1 ≤ 2147483647) ∧ ((-2147483648) ≤ x2 ∧ x2 ≤ 2147483647) ∧ ((-1) ≤ x3 ∧ x3 ≤ (-1)) ∧ (0 ≤ x4 ∧ x4 ≤ 10) ∧ (0 ≤ x5 ∧ x5 ≤ 10) ∧ (0 ≤ x6 ∧ x6 ≤ 30) ∧ True) → (True) → (True) → ((τ.1 3 0).toInt = x4 ∧ (τ.1 7 0).toInt = x5 ∧ (τ.1 21 0).toInt = x6 ∧ True) → Ok 149 23 29 [.ref 0, .int (Int32.ofInt (x0)), .int (Int32.ofInt (x1)), .int (Int32.ofInt (x2)), .int (Int32.ofInt (x3)), .int (Int32.ofInt 0), .int (Int32.ofInt 0)] [] τ Q)
    : Ok 149 23 21 [.ref 0, .int (Int32.ofInt (x0)), .int (Int32.ofInt (x1)), .int (Int32.ofInt (x2)), .int (Int32.ofInt (x3)), .int (Int32.ofInt 0), v6] [.int (Int32.ofInt 0)] σ Q := by
  refine an_seg (B := pm_B) (F := [(21, 0)]) (T := []) (S := []) (fun _ h => absurd h List.not_mem_nil) (k := 149) (d := 22) (cs := [7, 20, 24, 29]) 5 21 7 [(0, (-2147483648), 2147483647), (1, (-2147483648), 2147483647), (2, (-2147483648), 2147483647), (3, (-1), (-1)), (4, 0, 10), (5, 0, 10), (6, 0, 30)] [(3, (1, 0, 0), (0, 4, 0)), (7, (1, 0, 0), (0, 5, 0)), (21, (1, 0, 0), (0, 6, 0))] [(2, 0, 0), (0, 0, 0), (0, 1, 0), (0, 2, 0), (0, 3, 0), (1, 0, 0), (5, 0, 0)] [(1, 0, 0)] [(29, [(2, 0, 0), (0, 0, 0), (0, 1, 0), (0, 2, 0), (0, 3, 0), (1, 0, 0), (1, 0, 0)], [], [(0, (-2147483648), 2147483647), (1, (-2147483648), 2147483647), (2, (-2147483648), 2147483647), (3, (-1), (-1)), (4, 0, 10), (5, 0, 10), (6, 0, 30)], [], [], [(3, (1, 0, 0), (0, 4, 0)), (7, (1, 0, 0), (0, 5, 0)), (21, (1, 0, 0), (0, 6, 0))])] (by decide +kernel) (ρ0 := (fun s => [x0, x1, x2, x3, x4, x5, x6].getD s 0)) hB eF eC ⟨rfl, ⟨rfl, ⟨rfl, ⟨rfl, ⟨rfl, ⟨rfl, ⟨hv6, trivial⟩⟩⟩⟩⟩⟩⟩ ⟨rfl, trivial⟩ ?_
  refine List.forall_mem_cons.mpr ⟨?_, fun _ h => absurd h List.not_mem_nil⟩
  · intro ρ τ Lc stc hx g1 g2 g3 g4 g5 g6 g7 g8
    have e0 : ρ 0 = x0 := hx 0 (by decide)
    have e1 : ρ 1 = x1 := hx 1 (by decide)
    have e2 : ρ 2 = x2 := hx 2 (by decide)
    have e3 : ρ 3 = x3 := hx 3 (by decide)
    have e4 : ρ 4 = x4 := hx 4 (by decide)
    have e5 : ρ 5 = x5 := hx 5 (by decide)
    have e6 : ρ 6 = x6 := hx 6 (by decide)
    subst e0
    subst e1
    subst e2
    subst e3
    subst e4
    subst e5
    subst e6
    have g7 := g7 (by decide)
    match Lc, stc, g7, g8 with
    | [v0, v1, v2, v3, v4, v5, v6], [], ⟨hv0, hv1, hv2, hv3, hv4, hv5, hv6, _⟩, _ =>
      cases hv0
      cases hv1
      cases hv2
      cases hv3
      cases hv4
      cases hv5
      cases hv6
      exact l0 τ ρ  g1 g2 g3 g4 g5 g6
set_option maxRecDepth 100000 in
theorem xc_lineE_s2 {σ : pm_S} {Q : Option Value → pm_S → Prop} (x0 x1 x2 x3 x4 x5 x6 : Int) (v6 : Value) (hv6 : v6.category = 1) (hB : an_GB pm_B σ) (eF : ((-2147483648) ≤ x0 ∧ x0 ≤ 2147483647) ∧ ((-2147483648) ≤ x1 ∧ x1 ≤ 2147483647) ∧ (0 ≤ x2 ∧ x2 ≤ 9) ∧ ((-1) ≤ x3 ∧ x3 ≤ (-1)) ∧ (0 ≤ x4 ∧ x4 ≤ 10) ∧ (0 ≤ x5 ∧ x5 ≤ 10) ∧ (0 ≤ x6 ∧ x6 ≤ 30) ∧ True) (eC : (σ.1 3 0).toInt = x4 ∧ (σ.1 7 0).toInt = x5 ∧ (σ.1 21 0).toInt = x6 ∧ True)
    (l0 : ∀ (τ : pm_S) (y : Nat → Int) (v6 : Value), v6.category = 1 → an_GB pm_B τ → FQ [(21, 0)] σ τ → (((-2147483648) ≤ x0 ∧ x0 ≤ 2147483647) ∧ ((-2147483648) ≤ x1 ∧ x1 ≤ 2147483647) ∧ (0 ≤ x2 ∧ x2 ≤ 9) ∧ ((-1) ≤ x3 ∧ x3 ≤ (-1)) ∧ (0 ≤ x4 ∧ x4 ≤ 10) ∧ (0 ≤ x5 ∧ x5 ≤ 10) ∧ (0 ≤ x6 ∧ x6 ≤ 30) ∧ True) → (True) → (True) → ((τ.1 3 0).toInt = x4 ∧ (τ.1 7 0).toInt = x5 ∧ (τ.1 21 0).toInt = x6 ∧ True) → Ok 149 23 24 [.ref 0, .int (Int32.ofInt (x0)), .int (Int32.ofInt (x1)), .int (Int32.ofInt (x2)), .int (Int32.ofInt (x3)), .int (Int32.ofInt 0), v6] [.int (Int32.ofInt (x2)), .int (Int32.ofInt (x1))] τ Q)
    : Ok 149 23 21 [.ref 0, .int (Int32.ofInt (x0)), .int (Int32.ofInt (x1)), .int (Int32.ofInt (x2)), .int (Int32.ofInt (x3)), .int (Int32.ofInt 0), v6] [.int (Int32.ofInt 1)] σ Q := by
  refine an_seg (B := pm_B) (F := [(21, 0)]) (T := []) (S := []) (fun _ h => absurd h List.not_mem_nil) (k := 149) (d := 22) (cs := [7, 20, 24, 29]) 5 21 7 [(0, (-2147483648), 2147483647), (1, (-2147483648), 2147483647), (2, 0, 9), (3, (-1), (-1)), (4, 0, 10), (5, 0, 10), (6, 0, 30)] [(3, (1, 0, 0), (0, 4, 0)), (7, (1, 0, 0), (0, 5, 0)), (21, (1, 0, 0), (0, 6, 0))] [(2, 0, 0), (0, 0, 0), (0, 1, 0), (0, 2, 0), (0, 3, 0), (1, 0, 0), (5, 0, 0)] [(1, 0, 1)] [(24, [(2, 0, 0), (0, 0, 0), (0, 1, 0), (0, 2, 0), (0, 3, 0), (1, 0, 0), (5, 0, 0)], [(0, 2, 0), (0, 1, 0)], [(0, (-2147483648), 2147483647), (1, (-2147483648), 2147483647), (2, 0, 9), (3, (-1), (-1)), (4, 0, 10), (5, 0, 10), (6, 0, 30)], [], [], [(3, (1, 0, 0), (0, 4, 0)), (7, (1, 0, 0), (0, 5, 0)), (21, (1, 0, 0), (0, 6, 0))])] (by decide +kernel) (ρ0 := (fun s => [x0, x1, x2, x3, x4, x5, x6].getD s 0)) hB eF eC ⟨rfl, ⟨rfl, ⟨rfl, ⟨rfl, ⟨rfl, ⟨rfl, ⟨hv6, trivial⟩⟩⟩⟩⟩⟩⟩ ⟨rfl, trivial⟩ ?_
  refine List.forall_mem_cons.mpr ⟨?_, fun _ h => absurd h List.not_mem_nil⟩
  · intro ρ τ Lc stc hx g1 g2 g3 g4 g5 g6 g7 g8
    have e0 : ρ 0 = x0 := hx 0 (by decide)
    have e1 : ρ 1 = x1 := hx 1 (by decide)
    have e2 : ρ 2 = x2 := hx 2 (by decide)
    have e3 : ρ 3 = x3 := hx 3 (by decide)
    have e4 : ρ 4 = x4 := hx 4 (by decide)
    have e5 : ρ 5 = x5 := hx 5 (by decide)
    have e6 : ρ 6 = x6 := hx 6 (by decide)
    subst e0
    subst e1
    subst e2
    subst e3
    subst e4
    subst e5
    subst e6
    have g7 := g7 (by decide)
    match Lc, stc, g7, g8 with
    | [v0, v1, v2, v3, v4, v5, v6], [w0, w1], ⟨hv0, hv1, hv2, hv3, hv4, hv5, hv6, _⟩, ⟨hw0, hw1, _⟩ =>
      cases hv0
      cases hv1
      cases hv2
      cases hv3
      cases hv4
      cases hv5
      cases hw0
      cases hw1
      exact l0 τ ρ v6 hv6 g1 g2 g3 g4 g5 g6
set_option maxRecDepth 100000 in
theorem xc_lineE_s3 {σ : pm_S} {Q : Option Value → pm_S → Prop} (x0 x1 x2 x3 x4 x5 x6 : Int) (v6 : Value) (hv6 : v6.category = 1) (hB : an_GB pm_B σ) (eF : ((-2147483648) ≤ x0 ∧ x0 ≤ 2147483647) ∧ ((-2147483648) ≤ x1 ∧ x1 ≤ 2147483647) ∧ (0 ≤ x2 ∧ x2 ≤ 9) ∧ ((-1) ≤ x3 ∧ x3 ≤ (-1)) ∧ (0 ≤ x4 ∧ x4 ≤ 10) ∧ (0 ≤ x5 ∧ x5 ≤ 10) ∧ (0 ≤ x6 ∧ x6 ≤ 30) ∧ True) (eC : (σ.1 3 0).toInt = x4 ∧ (σ.1 7 0).toInt = x5 ∧ (σ.1 21 0).toInt = x6 ∧ True)
    (l0 : ∀ (τ : pm_S) (y : Nat → Int), an_GB pm_B τ → FQ [(21, 0)] σ τ → (((-2147483648) ≤ x0 ∧ x0 ≤ 2147483647) ∧ ((-2147483648) ≤ x1 ∧ x1 ≤ 2147483647) ∧ (0 ≤ x2 ∧ x2 ≤ 9) ∧ ((-1) ≤ x3 ∧ x3 ≤ (-1)) ∧ (0 ≤ x4 ∧ x4 ≤ 10) ∧ (0 ≤ x5 ∧ x5 ≤ 10) ∧ (0 ≤ x6 ∧ x6 ≤ 30) ∧ True) → (True) → (True) → ((τ.1 3 0).toInt = x4 ∧ (τ.1 7 0).toInt = x5 ∧ (τ.1 21 0).toInt = x6 ∧ True) → Ok 149 23 29 [.ref 0, .int (Int32.ofInt (x0)), .int (Int32.ofInt (x1)), .int (Int32.ofInt (x2)), .int (Int32.ofInt (x3)), .int (Int32.ofInt 0), .int (Int32.ofInt 0)] [] τ Q)
    : Ok 149 23 27 [.ref 0, .int (Int32.ofInt (x0)), .int (Int32.ofInt (x1)), .int (Int32.ofInt (x2)), .int (Int32.ofInt (x3)), .int (Int32.ofInt 0), v6] [] σ Q := by
  refine an_seg (B := pm_B) (F := [(21, 0)]) (T := []) (S := []) (fun _ h => absurd h List.not_mem_nil) (k := 149) (d := 22) (cs := [7, 20, 24, 29]) 4 27 7 [(0, (-2147483648), 2147483647), (1, (-2147483648), 2147483647), (2, 0, 9), (3, (-1), (-1)), (4, 0, 10), (5, 0, 10), (6, 0, 30)] [(3, (1, 0, 0), (0, 4, 0)), (7, (1, 0, 0), (0, 5, 0)), (21, (1, 0, 0), (0, 6, 0))] [(2, 0, 0), (0, 0, 0), (0, 1, 0), (0, 2, 0), (0, 3, 0), (1, 0, 0), (5, 0, 0)] [] [(29, [(2, 0, 0), (0, 0, 0), (0, 1, 0), (0, 2, 0), (0, 3, 0), (1, 0, 0), (1, 0, 0)], [], [(0, (-2147483648), 2147483647), (1, (-2147483648), 2147483647), (2, 0, 9), (3, (-1), (-1)), (4, 0, 10), (5, 0, 10), (6, 0, 30)], [], [], [(3, (1, 0, 0), (0, 4, 0)), (7, (1, 0, 0), (0, 5, 0)), (21, (1, 0, 0), (0, 6, 0))])] (by decide +kernel) (ρ0 := (fun s => [x0, x1, x2, x3, x4, x5, x6].getD s 0)) hB eF eC ⟨rfl, ⟨rfl, ⟨rfl, ⟨rfl, ⟨rfl, ⟨rfl, ⟨hv6, trivial⟩⟩⟩⟩⟩⟩⟩ trivial ?_
  refine List.forall_mem_cons.mpr ⟨?_, fun _ h => absurd h List.not_mem_nil⟩
  · intro ρ τ Lc stc hx g1 g2 g3 g4 g5 g6 g7 g8
    have e0 : ρ 0 = x0 := hx 0 (by decide)
    have e1 : ρ 1 = x1 := hx 1 (by decide)
    have e2 : ρ 2 = x2 := hx 2 (by decide)
    have e3 : ρ 3 = x3 := hx 3 (by decide)
    have e4 : ρ 4 = x4 := hx 4 (by decide)
    have e5 : ρ 5 = x5 := hx 5 (by decide)
    have e6 : ρ 6 = x6 := hx 6 (by decide)
    subst e0
    subst e1
    subst e2
    subst e3
    subst e4
    subst e5
    subst e6
    have g7 := g7 (by decide)
    match Lc, stc, g7, g8 with
    | [v0, v1, v2, v3, v4, v5, v6], [], ⟨hv0, hv1, hv2, hv3, hv4, hv5, hv6, _⟩, _ =>
      cases hv0
      cases hv1
      cases hv2
      cases hv3
      cases hv4
      cases hv5
      cases hv6
      exact l0 τ ρ  g1 g2 g3 g4 g5 g6
set_option maxRecDepth 100000 in
theorem xc_lineE_s4 {σ : pm_S} {Q : Option Value → pm_S → Prop} (x0 x1 x2 x3 x4 x5 x6 : Int) (v6 : Value) (hv6 : v6.category = 1) (hB : an_GB pm_B σ) (eF : ((-2147483648) ≤ x0 ∧ x0 ≤ 2147483647) ∧ ((-2147483648) ≤ x1 ∧ x1 ≤ 2147483647) ∧ (0 ≤ x2 ∧ x2 ≤ 9) ∧ ((-1) ≤ x3 ∧ x3 ≤ (-1)) ∧ (0 ≤ x4 ∧ x4 ≤ 10) ∧ (0 ≤ x5 ∧ x5 ≤ 10) ∧ (0 ≤ x6 ∧ x6 ≤ 30) ∧ True) (eC : (σ.1 3 0).toInt = x4 ∧ (σ.1 7 0).toInt = x5 ∧ (σ.1 21 0).toInt = x6 ∧ True)
    (l0 : ∀ (τ : pm_S) (y : Nat → Int), an_GB pm_B τ → FQ [(21, 0)] σ τ → (((-2147483648) ≤ x0 ∧ x0 ≤ 2147483647) ∧ ((-2147483648) ≤ x1 ∧ x1 ≤ 2147483647) ∧ (0 ≤ x2 ∧ x2 ≤ 9) ∧ ((-1) ≤ x3 ∧ x3 ≤ (-1)) ∧ (0 ≤ x4 ∧ x4 ≤ 10) ∧ (0 ≤ x5 ∧ x5 ≤ 10) ∧ (0 ≤ x6 ∧ x6 ≤ 30) ∧ True) → (True) → (True) → ((τ.1 3 0).toInt = x4 ∧ (τ.1 7 0).toInt = x5 ∧ (τ.1 21 0).toInt = x6 ∧ True) → Ok 149 23 29 [.ref 0, .int (Int32.ofInt (x0)), .int (Int32.ofInt (x1)), .int (Int32.ofInt (x2)), .int (Int32.ofInt (x3)), .int (Int32.ofInt 0), .int (Int32.ofInt 1)] [] τ Q)
    : Ok 149 23 25 [.ref 0, .int (Int32.ofInt (x0)), .int (Int32.ofInt (x1)), .int (Int32.ofInt (x2)), .int (Int32.ofInt (x3)), .int (Int32.ofInt 0), v6] [] σ Q := by
  refine an_seg (B := pm_B) (F := [(21, 0)]) (T := []) (S := []) (fun _ h => absurd h List.not_mem_nil) (k := 149) (d := 22) (cs := [7, 20, 24, 29]) 5 25 7 [(0, (-2147483648), 2147483647), (1, (-2147483648), 2147483647), (2, 0, 9), (3, (-1), (-1)), (4, 0, 10), (5, 0, 10), (6, 0, 30)] [(3, (1, 0, 0), (0, 4, 0)), (7, (1, 0, 0), (0, 5, 0)), (21, (1, 0, 0), (0, 6, 0))] [(2, 0, 0), (0, 0, 0), (0, 1, 0), (0, 2, 0), (0, 3, 0), (1, 0, 0), (5, 0, 0)] [] [(29, [(2, 0, 0), (0, 0, 0), (0, 1, 0), (0, 2, 0), (0, 3, 0), (1, 0, 0), (1, 0, 1)], [], [(0, (-2147483648), 2147483647), (1, (-2147483648), 2147483647), (2, 0, 9), (3, (-1), (-1)), (4, 0, 10), (5, 0, 10), (6, 0, 30)], [], [], [(3, (1, 0, 0), (0, 4, 0)), (7, (1, 0, 0), (0, 5, 0)), (21, (1, 0, 0), (0, 6, 0))])] (by decide +kernel) (ρ0 := (fun s => [x0, x1, x2, x3, x4, x5, x6].getD s 0)) hB eF eC ⟨rfl, ⟨rfl, ⟨rfl, ⟨rfl, ⟨rfl, ⟨rfl, ⟨hv6, trivial⟩⟩⟩⟩⟩⟩⟩ trivial ?_
  refine List.forall_mem_cons.mpr ⟨?_, fun _ h => absurd h List.not_mem_nil⟩
  · intro ρ τ Lc stc hx g1 g2 g3 g4 g5 g6 g7 g8
    have e0 : ρ 0 = x0 := hx 0 (by decide)
    have e1 : ρ 1 = x1 := hx 1 (by decide)
    have e2 : ρ 2 = x2 := hx 2 (by decide)
    have e3 : ρ 3 = x3 := hx 3 (by decide)
    have e4 : ρ 4 = x4 := hx 4 (by decide)
    have e5 : ρ 5 = x5 := hx 5 (by decide)
    have e6 : ρ 6 = x6 := hx 6 (by decide)
    subst e0
    subst e1
    subst e2
    subst e3
    subst e4
    subst e5
    subst e6
    have g7 := g7 (by decide)
    match Lc, stc, g7, g8 with
    | [v0, v1, v2, v3, v4, v5, v6], [], ⟨hv0, hv1, hv2, hv3, hv4, hv5, hv6, _⟩, _ =>
      cases hv0
      cases hv1
      cases hv2
      cases hv3
      cases hv4
      cases hv5
      cases hv6
      exact l0 τ ρ  g1 g2 g3 g4 g5 g6
set_option maxRecDepth 100000 in
theorem xc_lineE_s5 {σ : pm_S} {Q : Option Value → pm_S → Prop} (x0 x1 x2 x3 x4 x5 x6 : Int) (v5 : Value) (v6 : Value) (hv5 : v5.category = 1) (hv6 : v6.category = 1) (hB : an_GB pm_B σ) (eF : ((-2147483648) ≤ x0 ∧ x0 ≤ 2147483647) ∧ ((-2147483648) ≤ x1 ∧ x1 ≤ 2147483647) ∧ ((-1) ≤ x2 ∧ x2 ≤ (-1)) ∧ ((-2147483648) ≤ x3 ∧ x3 ≤ 2147483647) ∧ (0 ≤ x4 ∧ x4 ≤ 10) ∧ (0 ≤ x5 ∧ x5 ≤ 10) ∧ (0 ≤ x6 ∧ x6 ≤ 30) ∧ True) (eC : (σ.1 3 0).toInt = x4 ∧ (σ.1 7 0).toInt = x5 ∧ (σ.1 21 0).toInt = x6 ∧ True)
    (l0 : ∀ (τ : pm_S) (y : Nat → Int), an_GB pm_B τ → FQ [(21, 0)] σ τ → (((-2147483648) ≤ x0 ∧ x0 ≤ 2147483647) ∧ ((-2147483648) ≤ x1 ∧ x1 ≤ 2147483647) ∧ ((-1) ≤ x2 ∧ x2 ≤ (-1)) ∧ ((-2147483648) ≤ x3 ∧ x3 ≤ 2147483647) ∧ (0 ≤ x4 ∧ x4 ≤ 10) ∧ (0 ≤ x5 ∧ x5 ≤ 10) ∧ (0 ≤ x6 ∧ x6 ≤ 30) ∧ True) → (x3 ≠ (-1) ∧ True) → (True) → ((τ.1 3 0).toInt = x4 ∧ (τ.1 7 0).toInt = x5 ∧ (τ.1 21 0).toInt = x6 ∧ True) → Ok 149 23 29 [.ref 0, .int (Int32.ofInt (x0)), .int (Int32.ofInt (x1)), .int (Int32.ofInt (x2)), .int (Int32.ofInt (x3)), .int (Int32.ofInt 0), .int (Int32.ofInt 0)] [] τ Q)
    (l1 : ∀ (τ : pm_S) (y : Nat → Int) (v6 : Value), v6.category = 1 → an_GB pm_B τ → FQ [(21, 0)] σ τ → (((-2147483648) ≤ x0 ∧ x0 ≤ 2147483647) ∧ ((-2147483648) ≤ x1 ∧ x1 ≤ 2147483647) ∧ ((-1) ≤ x2 ∧ x2 ≤ (-1)) ∧ ((-1) ≤ x3 ∧ x3 ≤ (-1)) ∧ (0 ≤ x4 ∧ x4 ≤ 10) ∧ (0 ≤ x5 ∧ x5 ≤ 10) ∧ (0 ≤ x6 ∧ x6 ≤ 30) ∧ True) → (True) → (True) → ((τ.1 3 0).toInt = x4 ∧ (τ.1 7 0).toInt = x5 ∧ (τ.1 21 0).toInt = x6 ∧ True) → Ok 149 23 20 [.ref 0, .int (Int32.ofInt (x0)), .int (Int32.ofInt (x1)), .int (Int32.ofInt (x2)), .int (Int32.ofInt (x3)), .int (Int32.ofInt 0), v6] [.int (Int32.ofInt (-1)), .ref 7] τ Q)
    : Ok 149 23 8 [.ref 0, .int (Int32.ofInt (x0)), .int (Int32.ofInt (x1)), .int (Int32.ofInt (x2)), .int (Int32.ofInt (x3)), v5, v6] [.int (Int32.ofInt 0)] σ Q := by
  refine an_seg (B := pm_B) (F := [(21, 0)]) (T := []) (S := []) (fun _ h => absurd h List.not_mem_nil) (k := 149) (d := 22) (cs := [7, 20, 24, 29]) 12 8 7 [(0, (-2147483648), 2147483647), (1, (-2147483648), 2147483647), (2, (-1), (-1)), (3, (-2147483648), 2147483647), (4, 0, 10), (5, 0, 10), (6, 0, 30)] [(3, (1, 0, 0), (0, 4, 0)), (7, (1, 0, 0), (0, 5, 0)), (21, (1, 0, 0), (0, 6, 0))] [(2, 0, 0), (0, 0, 0), (0, 1, 0), (0, 2, 0), (0, 3, 0), (5, 0, 0), (5, 0, 0)] [(1, 0, 0)] [(29, [(2, 0, 0), (0, 0, 0), (0, 1, 0), (0, 2, 0), (0, 3, 0), (1, 0, 0), (1, 0, 0)], [], [(0, (-2147483648), 2147483647), (1, (-2147483648), 2147483647), (2, (-1), (-1)), (3, (-2147483648), 2147483647), (4, 0, 10), (5, 0, 10), (6, 0, 30)], [(3, 3, 3, (-1))], [], [(3, (1, 0, 0), (0, 4, 0)), (7, (1, 0, 0), (0, 5, 0)), (21, (1, 0, 0), (0, 6, 0))]),
    (20, [(2, 0, 0), (0, 0, 0), (0, 1, 0), (0, 2, 0), (0, 3, 0), (1, 0, 0), (5, 0, 0)], [(1, 0, (-1)), (2, 7, 0)], [(0, (-2147483648), 2147483647), (1, (-2147483648), 2147483647), (2, (-1), (-1)), (3, (-1), (-1)), (4, 0, 10), (5, 0, 10), (6, 0, 30)], [], [], [(3, (1, 0, 0), (0, 4, 0)), (7, (1, 0, 0), (0, 5, 0)), (21, (1, 0, 0), (0, 6, 0))])] (by decide +kernel) (ρ0 := (fun s => [x0, x1, x2, x3, x4, x5, x6].getD s 0)) hB eF eC ⟨rfl, ⟨rfl, ⟨rfl, ⟨rfl, ⟨rfl, ⟨hv5, ⟨hv6, trivial⟩⟩⟩⟩⟩⟩⟩ ⟨rfl, trivial⟩ ?_
  refine List.forall_mem_cons.mpr ⟨?_, List.forall_mem_cons.mpr ⟨?_, fun _ h => absurd h List.not_mem_nil⟩⟩
  · intro ρ τ Lc stc hx g1 g2 g3 g4 g5 g6 g7 g8
    have e0 : ρ 0 = x0 := hx 0 (by decide)
    have e1 : ρ 1 = x1 := hx 1 (by decide)
    have e2 : ρ 2 = x2 := hx 2 (by decide)
    have e3 : ρ 3 = x3 := hx 3 (by decide)
    have e4 : ρ 4 = x4 := hx 4 (by decide)
    have e5 : ρ 5 = x5 := hx 5 (by decide)
    have e6 : ρ 6 = x6 := hx 6 (by decide)
    subst e0
    subst e1
    subst e2
    subst e3
    subst e4
    subst e5
    subst e6
    have g7 := g7 (by decide)
    match Lc, stc, g7, g8 with
    | [v0, v1, v2, v3, v4, v5, v6], [], ⟨hv0, hv1, hv2, hv3, hv4, hv5, hv6, _⟩, _ =>
      cases hv0
      cases hv1
      cases hv2
      cases hv3
      cases hv4
      cases hv5
      cases hv6
      exact l0 τ ρ  g1 g2 g3 g4 g5 g6
  · intro ρ τ Lc stc hx g1 g2 g3 g4 g5 g6 g7 g8
    have e0 : ρ 0 = x0 := hx 0 (by decide)
    have e1 : ρ 1 = x1 := hx 1 (by decide)
    have e2 : ρ 2 = x2 := hx 2 (by decide)
    have e3 : ρ 3 = x3 := hx 3 (by decide)
    have e4 : ρ 4 = x4 := hx 4 (by decide)
    have e5 : ρ 5 = x5 := hx 5 (by decide)
    have e6 : ρ 6 = x6 := hx 6 (by decide)
    subst e0
    subst e1
    subst e2
    subst e3
    subst e4
    subst e5
    subst e6
    have g7 := g7 (by decide)
    match Lc, stc, g7, g8 with
    | [v0, v1, v2, v3, v4, v5, v6], [w0, w1], ⟨hv0, hv1, hv2, hv3, hv4, hv5, hv6, _⟩, ⟨hw0, hw1, _⟩ =>
      cases hv0
      cases hv1
      cases hv2
      cases hv3
      cases hv4
      cases hv5
      cases hw0
      cases hw1
      exact l1 τ ρ v6 hv6 g1 g2 g3 g4 g5 g6
set_option maxRecDepth 100000 in
theorem xc_lineE_s6 {σ : pm_S} {Q : Option Value → pm_S → Prop} (x0 x1 x2 x3 x4 x5 x6 : Int) (v6 : Value) (hv6 : v6.category = 1) (hB : an_GB pm_B σ) (eF : ((-2147483648) ≤ x0 ∧ x0 ≤ 2147483647) ∧ ((-2147483648) ≤ x1 ∧ x1 ≤ 2147483647) ∧ ((-1) ≤ x2 ∧ x2 ≤ (-1)) ∧ ((-1) ≤ x3 ∧ x3 ≤ (-1)) ∧ (0 ≤ x4 ∧ x4 ≤ 10) ∧ (0 ≤ x5 ∧ x5 ≤ 10) ∧ (0 ≤ x6 ∧ x6 ≤ 30) ∧ True) (eC : (σ.1 3 0).toInt = x4 ∧ (σ.1 7 0).toInt = x5 ∧ (σ.1 21 0).toInt = x6 ∧ True)
    (l0 : ∀ (τ : pm_S) (y : Nat → Int), an_GB pm_B τ → FQ [(21, 0)] σ τ → (((-2147483648) ≤ x0 ∧ x0 ≤ 2147483647) ∧ ((-2147483648) ≤ x1 ∧ x1 ≤ 2147483647) ∧ ((-1) ≤ x2 ∧ x2 ≤ (-1)) ∧ ((-1) ≤ x3 ∧ x3 ≤ (-1)) ∧ (0 ≤ x4 ∧ x4 ≤ 10) ∧ (0 ≤ x5 ∧ x5 ≤ 10) ∧ (0 ≤ x6 ∧ x6 ≤ 30) ∧ True) → (True) → (True) → ((τ.1 3 0).toInt = x4 ∧ (τ.1 7 0).toInt = x5 ∧ (τ.1 21 0).toInt = x6 ∧ True) → Ok 149 23 29 [.ref 0, .int (Int32.ofInt (x0)), .int (Int32.ofInt (x1)), .int (Int32.ofInt (x2)), .int (Int32.ofInt (x3)), .int (Int32.ofInt 0), .int (Int32.ofInt 0)] [] τ Q)
    : Ok 149 23 21 [.ref 0, .int (Int32.ofInt (x0)), .int (Int32.ofInt (x1)), .int (Int32.ofInt (x2)), .int (Int32.ofInt (x3)), .int (Int32.ofInt 0), v6] [.int (Int32.ofInt 0)] σ Q := by
  refine an_seg (B := pm_B) (F := [(21, 0)]) (T := []) (S := []) (fun _ h => absurd h List.not_mem_nil) (k := 149) (d := 22) (cs := [7, 20, 24, 29]) 5 21 7 [(0, (-2147483648), 2147483647), (1, (-2147483648), 2147483647), (2, (-1), (-1)), (3, (-1), (-1)), (4, 0, 10), (5, 0, 10), (6, 0, 30)] [(3, (1, 0, 0), (0, 4, 0)), (7, (1, 0, 0), (0, 5, 0)), (21, (1, 0, 0), (0, 6, 0))] [(2, 0, 0), (0, 0, 0), (0, 1, 0), (0, 2, 0), (0, 3, 0), (1, 0, 0), (5, 0, 0)] [(1, 0, 0)] [(29, [(2, 0, 0), (0, 0, 0), (0, 1, 0), (0, 2, 0), (0, 3, 0), (1, 0, 0), (1, 0, 0)], [], [(0, (-2147483648), 2147483647), (1, (-2147483648), 2147483647), (2, (-1), (-1)), (3, (-1), (-1)), (4, 0, 10), (5, 0, 10), (6, 0, 30)], [], [], [(3, (1, 0, 0), (0, 4, 0)), (7, (1, 0, 0), (0, 5, 0)), (21, (1, 0, 0), (0, 6, 0))])] (by decide +kernel) (ρ0 := (fun s => [x0, x1, x2, x3, x4, x5, x6].getD s 0)) hB eF eC ⟨rfl, ⟨rfl, ⟨rfl, ⟨rfl, ⟨rfl, ⟨rfl, ⟨hv6, trivial⟩⟩⟩⟩⟩⟩⟩ ⟨rfl, trivial⟩ ?_
  refine List.forall_mem_cons.mpr ⟨?_, fun _ h => absurd h List.not_mem_nil⟩
  · intro ρ τ Lc stc hx g1 g2 g3 g4 g5 g6 g7 g8
    have e0 : ρ 0 = x0 := hx 0 (by decide)
    have e1 : ρ 1 = x1 := hx 1 (by decide)
    have e2 : ρ 2 = x2 := hx 2 (by decide)
    have e3 : ρ 3 = x3 := hx 3 (by decide)
    have e4 : ρ 4 = x4 := hx 4 (by decide)
    have e5 : ρ 5 = x5 := hx 5 (by decide)
    have e6 : ρ 6 = x6 := hx 6 (by decide)
    subst e0
    subst e1
    subst e2
    subst e3
    subst e4
    subst e5
    subst e6
    have g7 := g7 (by decide)
    match Lc, stc, g7, g8 with
    | [v0, v1, v2, v3, v4, v5, v6], [], ⟨hv0, hv1, hv2, hv3, hv4, hv5, hv6, _⟩, _ =>
      cases hv0
      cases hv1
      cases hv2
      cases hv3
      cases hv4
      cases hv5
      cases hv6
      exact l0 τ ρ  g1 g2 g3 g4 g5 g6
set_option maxRecDepth 100000 in
theorem xc_lineE_s7 {σ : pm_S} {Q : Option Value → pm_S → Prop} (x0 x1 x2 x3 x4 x5 x6 : Int) (v6 : Value) (hv6 : v6.category = 1) (hB : an_GB pm_B σ) (eF : ((-2147483648) ≤ x0 ∧ x0 ≤ 2147483647) ∧ ((-2147483648) ≤ x1 ∧ x1 ≤ 2147483647) ∧ ((-1) ≤ x2 ∧ x2 ≤ (-1)) ∧ ((-1) ≤ x3 ∧ x3 ≤ (-1)) ∧ (0 ≤ x4 ∧ x4 ≤ 10) ∧ (0 ≤ x5 ∧ x5 ≤ 10) ∧ (0 ≤ x6 ∧ x6 ≤ 30) ∧ True) (eC : (σ.1 3 0).toInt = x4 ∧ (σ.1 7 0).toInt = x5 ∧ (σ.1 21 0).toInt = x6 ∧ True)
    (l0 : ∀ (τ : pm_S) (y : Nat → Int) (v6 : Value), v6.category = 1 → an_GB pm_B τ → FQ [(21, 0)] σ τ → (((-2147483648) ≤ x0 ∧ x0 ≤ 2147483647) ∧ ((-2147483648) ≤ x1 ∧ x1 ≤ 2147483647) ∧ ((-1) ≤ x2 ∧ x2 ≤ (-1)) ∧ ((-1) ≤ x3 ∧ x3 ≤ (-1)) ∧ (0 ≤ x4 ∧ x4 ≤ 10) ∧ (0 ≤ x5 ∧ x5 ≤ 10) ∧ (0 ≤ x6 ∧ x6 ≤ 30) ∧ True) → (True) → (True) → ((τ.1 3 0).toInt = x4 ∧ (τ.1 7 0).toInt = x5 ∧ (τ.1 21 0).toInt = x6 ∧ True) → Ok 149 23 24 [.ref 0, .int (Int32.ofInt (x0)), .int (Int32.ofInt (x1)), .int (Int32.ofInt (x2)), .int (Int32.ofInt (x3)), .int (Int32.ofInt 0), v6] [.int (Int32.ofInt (-1)), .int (Int32.ofInt (x1))] τ Q)
    : Ok 149 23 21 [.ref 0, .int (Int32.ofInt (x0)), .int (Int32.ofInt (x1)), .int (Int32.ofInt (x2)), .int (Int32.ofInt (x3)), .int (Int32.ofInt 0), v6] [.int (Int32.ofInt 1)] σ Q := by
  refine an_seg (B := pm_B) (F := [(21, 0)]) (T := []) (S := []) (fun _ h => absurd h List.not_mem_nil) (k := 149) (d := 22) (cs := [7, 20, 24, 29]) 5 21 7 [(0, (-2147483648), 2147483647), (1, (-2147483648), 2147483647), (2, (-1), (-1)), (3, (-1), (-1)), (4, 0, 10), (5, 0, 10), (6, 0, 30)] [(3, (1, 0, 0), (0, 4, 0)), (7, (1, 0, 0), (0, 5, 0)), (21, (1, 0, 0), (0, 6, 0))] [(2, 0, 0), (0, 0, 0), (0, 1, 0), (0, 2, 0), (0, 3, 0), (1, 0, 0), (5, 0, 0)] [(1, 0, 1)] [(24, [(2, 0, 0), (0, 0, 0), (0, 1, 0), (0, 2, 0), (0, 3, 0), (1, 0, 0), (5, 0, 0)], [(1, 0, (-1)), (0, 1, 0)], [(0, (-2147483648), 2147483647), (1, (-2147483648), 2147483647), (2, (-1), (-1)), (3, (-1), (-1)), (4, 0, 10), (5, 0, 10), (6, 0, 30)], [], [], [(3, (1, 0, 0), (0, 4, 0)), (7, (1, 0, 0), (0, 5, 0)), (21, (1, 0, 0), (0, 6, 0))])] (by decide +kernel) (ρ0 := (fun s => [x0, x1, x2, x3, x4, x5, x6].getD s 0)) hB eF eC ⟨rfl, ⟨rfl, ⟨rfl, ⟨rfl, ⟨rfl, ⟨rfl, ⟨hv6, trivial⟩⟩⟩⟩⟩⟩⟩ ⟨rfl, trivial⟩ ?_
  refine List.forall_mem_cons.mpr ⟨?_, fun _ h => absurd h List.not_mem_nil⟩
  · intro ρ τ Lc stc hx g1 g2 g3 g4 g5 g6 g7 g8
    have e0 : ρ 0 = x0 := hx 0 (by decide)
    have e1 : ρ 1 = x1 := hx 1 (by decide)
    have e2 : ρ 2 = x2 := hx 2 (by decide)
    have e3 : ρ 3 = x3 := hx 3 (by decide)
    have e4 : ρ 4 = x4 := hx 4 (by decide)
    have e5 : ρ 5 = x5 := hx 5 (by decide)
    have e6 : ρ 6 = x6 := hx 6 (by decide)
    subst e0
    subst e1
    subst e2
    subst e3
    subst e4
    subst e5
    subst e6
    have g7 := g7 (by decide)
    match Lc, stc, g7, g8 with
    | [v0, v1, v2, v3, v4, v5, v6], [w0, w1], ⟨hv0, hv1, hv2, hv3, hv4, hv5, hv6, _⟩, ⟨hw0, hw1, _⟩ =>
      cases hv0
      cases hv1
      cases hv2
      cases hv3
      cases hv4
      cases hv5
      cases hw0
      cases hw1
      exact l0 τ ρ v6 hv6 g1 g2 g3 g4 g5 g6
set_option maxRecDepth 100000 in
theorem xc_lineE_s8 {σ : pm_S} {Q : Option Value → pm_S → Prop} (x0 x1 x2 x3 x4 x5 x6 : Int) (v6 : Value) (hv6 : v6.category = 1) (hB : an_GB pm_B σ) (eF : ((-2147483648) ≤ x0 ∧ x0 ≤ 2147483647) ∧ ((-2147483648) ≤ x1 ∧ x1 ≤ 2147483647) ∧ ((-1) ≤ x2 ∧ x2 ≤ (-1)) ∧ ((-1) ≤ x3 ∧ x3 ≤ (-1)) ∧ (0 ≤ x4 ∧ x4 ≤ 10) ∧ (0 ≤ x5 ∧ x5 ≤ 10) ∧ (0 ≤ x6 ∧ x6 ≤ 30) ∧ True) (eC : (σ.1 3 0).toInt = x4 ∧ (σ.1 7 0).toInt = x5 ∧ (σ.1 21 0).toInt = x6 ∧ True)
    (l0 : ∀ (τ : pm_S) (y : Nat → Int), an_GB pm_B τ → FQ [(21, 0)] σ τ → (((-2147483648) ≤ x0 ∧ x0 ≤ 2147483647) ∧ ((-2147483648) ≤ x1 ∧ x1 ≤ 2147483647) ∧ ((-1) ≤ x2 ∧ x2 ≤ (-1)) ∧ ((-1) ≤ x3 ∧ x3 ≤ (-1)) ∧ (0 ≤ x4 ∧ x4 ≤ 10) ∧ (0 ≤ x5 ∧ x5 ≤ 10) ∧ (0 ≤ x6 ∧ x6 ≤ 30) ∧ True) → (True) → (True) → ((τ.1 3 0).toInt = x4 ∧ (τ.1 7 0).toInt = x5 ∧ (τ.1 21 0).toInt = x6 ∧ True) → Ok 149 23 29 [.ref 0, .int (Int32.ofInt (x0)), .int (Int32.ofInt (x1)), .int (Int32.ofInt (x2)), .int (Int32.ofInt (x3)), .int (Int32.ofInt 0), .int (Int32.ofInt 0)] [] τ Q)
    : Ok 149 23 27 [.ref 0, .int (Int32.ofInt (x0)), .int (Int32.ofInt (x1)), .int (Int32.ofInt (x2)), .int (Int32.ofInt (x3)), .int (Int32.ofInt 0), v6] [] σ Q := by
  refine an_seg (B := pm_B) (F := [(21, 0)]) (T := []) (S := []) (fun _ h => absurd h List.not_mem_nil) (k := 149) (d := 22) (cs := [7, 20, 24, 29]) 4 27 7 [(0, (-2147483648), 2147483647), (1, (-2147483648), 2147483647), (2, (-1), (-1)), (3, (-1), (-1)), (4, 0, 10), (5, 0, 10), (6, 0, 30)] [(3, (1, 0, 0), (0, 4, 0)), (7, (1, 0, 0), (0, 5, 0)), (21, (1, 0, 0), (0, 6, 0))] [(2, 0, 0), (0, 0, 0), (0, 1, 0), (0, 2, 0), (0, 3, 0), (1, 0, 0), (5, 0, 0)] [] [(29, [(2, 0, 0), (0, 0, 0), (0, 1, 0), (0, 2, 0), (0, 3, 0), (1, 0, 0), (1, 0, 0)], [], [(0, (-2147483648), 2147483647), (1, (-2147483648), 2147483647), (2, (-1), (-1)), (3, (-1), (-1)), (4, 0, 10), (5, 0, 10), (6, 0, 30)], [], [], [(3, (1, 0, 0), (0, 4, 0)), (7, (1, 0, 0), (0, 5, 0)), (21, (1, 0, 0), (0, 6, 0))])] (by decide +kernel) (ρ0 := (fun s => [x0, x1, x2, x3, x4, x5, x6].getD s 0)) hB eF eC ⟨rfl, ⟨rfl, ⟨rfl, ⟨rfl, ⟨rfl, ⟨rfl, ⟨hv6, trivial⟩⟩⟩⟩⟩⟩⟩ trivial ?_
  refine List.forall_mem_cons.mpr ⟨?_, fun _ h => absurd h List.not_mem_nil⟩
  · intro ρ τ Lc stc hx g1 g2 g3 g4 g5 g6 g7 g8
    have e0 : ρ 0 = x0 := hx 0 (by decide)
    have e1 : ρ 1 = x1 := hx 1 (by decide)
    have e2 : ρ 2 = x2 := hx 2 (by decide)
    have e3 : ρ 3 = x3 := hx 3 (by decide)
    have e4 : ρ 4 = x4 := hx 4 (by decide)
    have e5 : ρ 5 = x5 := hx 5 (by decide)
    have e6 : ρ 6 = x6 := hx 6 (by decide)
    subst e0
    subst e1
    subst e2
    subst e3
    subst e4
    subst e5
    subst e6
    have g7 := g7 (by decide)
    match Lc, stc, g7, g8 with
    | [v0, v1, v2, v3, v4, v5, v6], [], ⟨hv0, hv1, hv2, hv3, hv4, hv5, hv6, _⟩, _ =>
      cases hv0
      cases hv1
      cases hv2
      cases hv3
      cases hv4
      cases hv5
      cases hv6
      exact l0 τ ρ  g1 g2 g3 g4 g5 g6
set_option maxRecDepth 100000 in
theorem xc_lineE_s9 {σ : pm_S} {Q : Option Value → pm_S → Prop} (x0 x1 x2 x3 x4 x5 x6 : Int) (v6 : Value) (hv6 : v6.category = 1) (hB : an_GB pm_B σ) (eF : ((-2147483648) ≤ x0 ∧ x0 ≤ 2147483647) ∧ ((-2147483648) ≤ x1 ∧ x1 ≤ 2147483647) ∧ ((-1) ≤ x2 ∧ x2 ≤ (-1)) ∧ ((-1) ≤ x3 ∧ x3 ≤ (-1)) ∧ (0 ≤ x4 ∧ x4 ≤ 10) ∧ (0 ≤ x5 ∧ x5 ≤ 10) ∧ (0 ≤ x6 ∧ x6 ≤ 30) ∧ True) (eC : (σ.1 3 0).toInt = x4 ∧ (σ.1 7 0).toInt = x5 ∧ (σ.1 21 0).toInt = x6 ∧ True)
    (l0 : ∀ (τ : pm_S) (y : Nat → Int), an_GB pm_B τ → FQ [(21, 0)] σ τ → (((-2147483648) ≤ x0 ∧ x0 ≤ 2147483647) ∧ ((-2147483648) ≤ x1 ∧ x1 ≤ 2147483647) ∧ ((-1) ≤ x2 ∧ x2 ≤ (-1)) ∧ ((-1) ≤ x3 ∧ x3 ≤ (-1)) ∧ (0 ≤ x4 ∧ x4 ≤ 10) ∧ (0 ≤ x5 ∧ x5 ≤ 10) ∧ (0 ≤ x6 ∧ x6 ≤ 30) ∧ True) → (True) → (True) → ((τ.1 3 0).toInt = x4 ∧ (τ.1 7 0).toInt = x5 ∧ (τ.1 21 0).toInt = x6 ∧ True) → Ok 149 23 29 [.ref 0, .int (Int32.ofInt (x0)), .int (Int32.ofInt (x1)), .int (Int32.ofInt (x2)), .int (Int32.ofInt (x3)), .int (Int32.ofInt 0), .int (Int32.ofInt 1)] [] τ Q)
    : Ok 149 23 25 [.ref 0, .int (Int32.ofInt (x0)), .int (Int32.ofInt (x1)), .int (Int32.ofInt (x2)), .int (Int32.ofInt (x3)), .int (Int32.ofInt 0), v6] [] σ Q := by
  refine an_seg (B := pm_B) (F := [(21, 0)]) (T := []) (S := []) (fun _ h => absurd h List.not_mem_nil) (k := 149) (d := 22) (cs := [7, 20, 24, 29]) 5 25 7 [(0, (-2147483648), 2147483647), (1, (-2147483648), 2147483647), (2, (-1), (-1)), (3, (-1), (-1)), (4, 0, 10), (5, 0, 10), (6, 0, 30)] [(3, (1, 0, 0), (0, 4, 0)), (7, (1, 0, 0), (0, 5, 0)), (21, (1, 0, 0), (0, 6, 0))] [(2, 0, 0), (0, 0, 0), (0, 1, 0), (0, 2, 0), (0, 3, 0), (1, 0, 0), (5, 0, 0)] [] [(29, [(2, 0, 0), (0, 0, 0), (0, 1, 0), (0, 2, 0), (0, 3, 0), (1, 0, 0), (1, 0, 1)], [], [(0, (-2147483648), 2147483647), (1, (-2147483648), 2147483647), (2, (-1), (-1)), (3, (-1), (-1)), (4, 0, 10), (5, 0, 10), (6, 0, 30)], [], [], [(3, (1, 0, 0), (0, 4, 0)), (7, (1, 0, 0), (0, 5, 0)), (21, (1, 0, 0), (0, 6, 0))])] (by decide +kernel) (ρ0 := (fun s => [x0, x1, x2, x3, x4, x5, x6].getD s 0)) hB eF eC ⟨rfl, ⟨rfl, ⟨rfl, ⟨rfl, ⟨rfl, ⟨rfl, ⟨hv6, trivial⟩⟩⟩⟩⟩⟩⟩ trivial ?_
  refine List.forall_mem_cons.mpr ⟨?_, fun _ h => absurd h List.not_mem_nil⟩
  · intro ρ τ Lc stc hx g1 g2 g3 g4 g5 g6 g7 g8
    have e0 : ρ 0 = x0 := hx 0 (by decide)
    have e1 : ρ 1 = x1 := hx 1 (by decide)
    have e2 : ρ 2 = x2 := hx 2 (by decide)
    have e3 : ρ 3 = x3 := hx 3 (by decide)
    have e4 : ρ 4 = x4 := hx 4 (by decide)
    have e5 : ρ 5 = x5 := hx 5 (by decide)
    have e6 : ρ 6 = x6 := hx 6 (by decide)
    subst e0
    subst e1
    subst e2
    subst e3
    subst e4
    subst e5
    subst e6
    have g7 := g7 (by decide)
    match Lc, stc, g7, g8 with
    | [v0, v1, v2, v3, v4, v5, v6], [], ⟨hv0, hv1, hv2, hv3, hv4, hv5, hv6, _⟩, _ =>
      cases hv0
      cases hv1
      cases hv2
      cases hv3
      cases hv4
      cases hv5
      cases hv6
      exact l0 τ ρ  g1 g2 g3 g4 g5 g6
set_option maxRecDepth 100000 in
theorem xc_lineE_s10 {σ : pm_S} {Q : Option Value → pm_S → Prop} (x0 x1 x2 x3 x4 x5 x6 : Int) (v5 : Value) (v6 : Value) (hv5 : v5.category = 1) (hv6 : v6.category = 1) (hB : an_GB pm_B σ) (eF : ((-2147483648) ≤ x0 ∧ x0 ≤ 2147483647) ∧ ((-2147483648) ≤ x1 ∧ x1 ≤ 2147483647) ∧ ((-1) ≤ x2 ∧ x2 ≤ (-1)) ∧ (0 ≤ x3 ∧ x3 ≤ 9) ∧ (0 ≤ x4 ∧ x4 ≤ 10) ∧ (0 ≤ x5 ∧ x5 ≤ 10) ∧ (0 ≤ x6 ∧ x6 ≤ 30) ∧ True) (eC : (σ.1 3 0).toInt = x4 ∧ (σ.1 7 0).toInt = x5 ∧ (σ.1 21 0).toInt = x6 ∧ True)
    (l0 : ∀ (τ : pm_S) (y : Nat → Int), an_GB pm_B τ → FQ [(21, 0)] σ τ → (((-2147483648) ≤ x0 ∧ x0 ≤ 2147483647) ∧ ((-2147483648) ≤ x1 ∧ x1 ≤ 2147483647) ∧ ((-1) ≤ x2 ∧ x2 ≤ (-1)) ∧ (0 ≤ x3 ∧ x3 ≤ 9) ∧ (0 ≤ x4 ∧ x4 ≤ 10) ∧ (0 ≤ x5 ∧ x5 ≤ 10) ∧ (0 ≤ x6 ∧ x6 ≤ 30) ∧ True) → (x3 ≠ (-1) ∧ True) → (True) → ((τ.1 3 0).toInt = x4 ∧ (τ.1 7 0).toInt = x5 ∧ (τ.1 21 0).toInt = x6 ∧ True) → Ok 149 23 29 [.ref 0, .int (Int32.ofInt (x0)), .int (Int32.ofInt (x1)), .int (Int32.ofInt (x2)), .int (Int32.ofInt (x3)), .int (Int32.ofInt 1), .int (Int32.ofInt 0)] [] τ Q)
    : Ok 149 23 8 [.ref 0, .int (Int32.ofInt (x0)), .int (Int32.ofInt (x1)), .int (Int32.ofInt (x2)), .int (Int32.ofInt (x3)), v5, v6] [.int (Int32.ofInt 1)] σ Q := by
  refine an_seg (B := pm_B) (F := [(21, 0)]) (T := []) (S := []) (fun _ h => absurd h List.not_mem_nil) (k := 149) (d := 22) (cs := [7, 20, 24, 29]) 11 8 7 [(0, (-2147483648), 2147483647), (1, (-2147483648), 2147483647), (2, (-1), (-1)), (3, 0, 9), (4, 0, 10), (5, 0, 10), (6, 0, 30)] [(3, (1, 0, 0), (0, 4, 0)), (7, (1, 0, 0), (0, 5, 0)), (21, (1, 0, 0), (0, 6, 0))] [(2, 0, 0), (0, 0, 0), (0, 1, 0), (0, 2, 0), (0, 3, 0), (5, 0, 0), (5, 0, 0)] [(1, 0, 1)] [(29, [(2, 0, 0), (0, 0, 0), (0, 1, 0), (0, 2, 0), (0, 3, 0), (1, 0, 1), (1, 0, 0)], [], [(0, (-2147483648), 2147483647), (1, (-2147483648), 2147483647), (2, (-1), (-1)), (3, 0, 9), (4, 0, 10), (5, 0, 10), (6, 0, 30)], [(3, 3, 3, (-1))], [], [(3, (1, 0, 0), (0, 4, 0)), (7, (1, 0, 0), (0, 5, 0)), (21, (1, 0, 0), (0, 6, 0))])] (by decide +kernel) (ρ0 := (fun s => [x0, x1, x2, x3, x4, x5, x6].getD s 0)) hB eF eC ⟨rfl, ⟨rfl, ⟨rfl, ⟨rfl, ⟨rfl, ⟨hv5, ⟨hv6, trivial⟩⟩⟩⟩⟩⟩⟩ ⟨rfl, trivial⟩ ?_
  refine List.forall_mem_cons.mpr ⟨?_, fun _ h => absurd h List.not_mem_nil⟩
  · intro ρ τ Lc stc hx g1 g2 g3 g4 g5 g6 g7 g8
    have e0 : ρ 0 = x0 := hx 0 (by decide)
    have e1 : ρ 1 = x1 := hx 1 (by decide)
    have e2 : ρ 2 = x2 := hx 2 (by decide)
    have e3 : ρ 3 = x3 := hx 3 (by decide)
    have e4 : ρ 4 = x4 := hx 4 (by decide)
    have e5 : ρ 5 = x5 := hx 5 (by decide)
    have e6 : ρ 6 = x6 := hx 6 (by decide)
    subst e0
    subst e1
    subst e2
    subst e3
    subst e4
    subst e5
    subst e6
    have g7 := g7 (by decide)
    match Lc, stc, g7, g8 with
    | [v0, v1, v2, v3, v4, v5, v6], [], ⟨hv0, hv1, hv2, hv3, hv4, hv5, hv6, _⟩, _ =>
      cases hv0
      cases hv1
      cases hv2
      cases hv3
      cases hv4
      cases hv5
      cases hv6
      exact l0 τ ρ  g1 g2 g3 g4 g5 g6
set_option maxRecDepth 20000 in
theorem xc_lineE {σ : pm_S} (x0 x1 x2 x3 x4 x5 x6 : Int) (hB : an_GB pm_B σ) (g0 : (-2147483648) ≤ x0 ∧ x0 ≤ 2147483647) (g1 : (-2147483648) ≤ x1 ∧ x1 ≤ 2147483647) (g2 : (-2147483648) ≤ x2 ∧ x2 ≤ 2147483647) (g3 : (-2147483648) ≤ x3 ∧ x3 ≤ 2147483647) (g4 : 0 ≤ x4 ∧ x4 ≤ 10) (g5 : 0 ≤ x5 ∧ x5 ≤ 10) (g6 : 0 ≤ x6 ∧ x6 ≤ 30) (e0 : (σ.1 3 0).toInt = x4) (e1 : (σ.1 7 0).toInt = x5) (e2 : (σ.1 21 0).toInt = x6) : Sp 149 23 [.ref 0, .int (Int32.ofInt (x0)), .int (Int32.ofInt (x1)), .int (Int32.ofInt (x2)), .int (Int32.ofInt (x3))] σ (fun r τ => an_GB pm_B τ ∧ ((¬ (0 ≤ x0 ∧ x0 ≤ 9999 ∧ 0 ≤ x1 ∧ x1 < x5 ∧ ((x2 = -1 ∧ 0 ≤ x3 ∧ x3 < x4) ∨ (x3 = -1 ∧ 0 ≤ x2 ∧ x2 < x5 ∧ x1 ≠ x2)) ∧ x6 ≤ 29) ∧ r = some (.int (Int32.ofInt (-1))) ∧ (τ.1 21 0).toInt = x6 ∧ puF [(21, 0)] [] σ τ) ∨ ((0 ≤ x0 ∧ x0 ≤ 9999 ∧ 0 ≤ x1 ∧ x1 < x5 ∧ ((x2 = -1 ∧ 0 ≤ x3 ∧ x3 < x4) ∨ (x3 = -1 ∧ 0 ≤ x2 ∧ x2 < x5 ∧ x1 ≠ x2)) ∧ x6 ≤ 29) ∧ r = some (.int (Int32.ofInt (x6))) ∧ (τ.1 21 0).toInt = x6 + 1 ∧ puF [(21, 0)] [(25, (x6).toNat, Int32.ofInt (x3)), (24, (x6).toNat, Int32.ofInt (x2)), (23, (x6).toNat, Int32.ofInt (x1)), (22, (x6).toNat, Int32.ofInt (x0))] σ τ))) := by
  refine Sp.at rfl rfl ?_
  refine xc_lineE_s0 x0 x1 x2 x3 x4 x5 x6 _ _ rfl rfl hB ⟨by omega, by omega, by omega, by omega, by omega, by omega, by omega, trivial⟩ ⟨e0, e1, e2, trivial⟩ ?_ ?_ ?_
  · intro τ1 y1  hB1 hF1 f1 rr1 _ c1
    obtain ⟨f1_0, f1_1, f1_2, f1_3, f1_4, f1_5, f1_6, -⟩ := f1
    obtain ⟨r1_0, r1_1, -⟩ := rr1
    obtain ⟨c1_0, c1_1, c1_2, -⟩ := c1
    have hG1 : puF [(21, 0)] [] σ τ1 := puF.fq rfl (puF.rf _ _) hF1
    refine (xc_lineE2 x0 x1 x2 x3 x4 x5 x6 (0) (0) hB1 (by omega) (by omega) (by omega) (by omega) (by omega) (by omega) (by omega) (by omega) (by omega) c1_0 c1_1 c1_2 (fun z => by omega)).mono (fun r τ q => ?_)
    obtain ⟨hB9, ⟨q, rfl, d, F⟩ | ⟨q, rfl, d, F⟩⟩ := q
    · exact ⟨hB9, Or.inl ⟨by omega, rfl, d, puF.tr hG1 F⟩⟩
    · refine ⟨hB9, Or.inr ⟨by omega, rfl, d, ?_⟩⟩
      exact puF.tr hG1 F
  · intro τ2 y2 v6_2 hv6_2 hB2 hF2 f2 rr2 _ c2
    obtain ⟨f2_0, f2_1, f2_2, f2_3, f2_4, f2_5, f2_6, -⟩ := f2
    obtain ⟨r2_0, -⟩ := rr2
    obtain ⟨c2_0, c2_1, c2_2, -⟩ := c2
    have hG2 : puF [(21, 0)] [] σ τ2 := puF.fq rfl (puF.rf _ _) hF2
    refine Ok.cv rfl rfl rfl rfl rfl rfl rfl ?_
    refine (x_h61 (x2) (x5) hB2 (by omega) c2_1).use (by decide) (fun r3 τ3 q3 => ?_)
    obtain ⟨hB3, hF3, ⟨q3, rfl, d3⟩ | ⟨q3, rfl, d3⟩⟩ := q3
    · have hG3 : puF [(21, 0)] [] σ τ3 := puF.fq rfl hG2 hF3
      have e3_3_0 : (τ3.1 3 0).toInt = x4 := (congrArg Int32.toInt (show τ3.1 3 0 = τ2.1 3 0 from hF3 3 0 rfl)).trans c2_0
      have e3_7_0 : (τ3.1 7 0).toInt = x5 := (congrArg Int32.toInt (show τ3.1 7 0 = τ2.1 7 0 from hF3 7 0 rfl)).trans c2_1
      have e3_21_0 : (τ3.1 21 0).toInt = x6 := (congrArg Int32.toInt (show τ3.1 21 0 = τ2.1 21 0 from hF3 21 0 rfl)).trans c2_2
      refine xc_lineE_s1 x0 x1 x2 x3 x4 x5 x6 _ hv6_2 hB3 ⟨by omega, by omega, by omega, by omega, by omega, by omega, by omega, trivial⟩ ⟨e3_3_0, e3_7_0, e3_21_0, trivial⟩ ?_
      · intro τ4 y4  hB4 hF4 f4 rr4 _ c4
        obtain ⟨f4_0, f4_1, f4_2, f4_3, f4_4, f4_5, f4_6, -⟩ := f4
        obtain ⟨c4_0, c4_1, c4_2, -⟩ := c4
        have hG4 : puF [(21, 0)] [] σ τ4 := puF.fq rfl hG3 hF4
        refine (xc_lineE2 x0 x1 x2 x3 x4 x5 x6 (0) (0) hB4 (by omega) (by omega) (by omega) (by omega) (by omega) (by omega) (by omega) (by omega) (by omega) c4_0 c4_1 c4_2 (fun z => by omega)).mono (fun r τ q => ?_)
        obtain ⟨hB9, ⟨q, rfl, d, F⟩ | ⟨q, rfl, d, F⟩⟩ := q
        · exact ⟨hB9, Or.inl ⟨by omega, rfl, d, puF.tr hG4 F⟩⟩
        · refine ⟨hB9, Or.inr ⟨by omega, rfl, d, ?_⟩⟩
          exact puF.tr hG4 F
    · have hG3 : puF [(21, 0)] [] σ τ3 := puF.fq rfl hG2 hF3
      have e3_3_0 : (τ3.1 3 0).toInt = x4 := (congrArg Int32.toInt (show τ3.1 3 0 = τ2.1 3 0 from hF3 3 0 rfl)).trans c2_0
      have e3_7_0 : (τ3.1 7 0).toInt = x5 := (congrArg Int32.toInt (show τ3.1 7 0 = τ2.1 7 0 from hF3 7 0 rfl)).trans c2_1
      have e3_21_0 : (τ3.1 21 0).toInt = x6 := (congrArg Int32.toInt (show τ3.1 21 0 = τ2.1 21 0 from hF3 21 0 rfl)).trans c2_2
      refine xc_lineE_s2 x0 x1 x2 x3 x4 x5 x6 _ hv6_2 hB3 ⟨by omega, by omega, by omega, by omega, by omega, by omega, by omega, trivial⟩ ⟨e3_3_0, e3_7_0, e3_21_0, trivial⟩ ?_
      · intro τ5 y5 v6_5 hv6_5 hB5 hF5 f5 rr5 _ c5
        obtain ⟨f5_0, f5_1, f5_2, f5_3, f5_4, f5_5, f5_6, -⟩ := f5
        obtain ⟨c5_0, c5_1, c5_2, -⟩ := c5
        have hG5 : puF [(21, 0)] [] σ τ5 := puF.fq rfl hG3 hF5
        refine Ok.ic rfl rfl (by omega) (by omega) (by omega) (by omega) (fun z6 => ?_) (fun z6 => ?_)
        · have z6 : x1 = x2 := z6
          refine xc_lineE_s3 x0 x1 x2 x3 x4 x5 x6 _ hv6_5 hB5 ⟨by omega, by omega, by omega, by omega, by omega, by omega, by omega, trivial⟩ ⟨c5_0, c5_1, c5_2, trivial⟩ ?_
          · intro τ7 y7  hB7 hF7 f7 rr7 _ c7
            obtain ⟨f7_0, f7_1, f7_2, f7_3, f7_4, f7_5, f7_6, -⟩ := f7
            obtain ⟨c7_0, c7_1, c7_2, -⟩ := c7
            have hG7 : puF [(21, 0)] [] σ τ7 := puF.fq rfl hG5 hF7
            refine (xc_lineE2 x0 x1 x2 x3 x4 x5 x6 (0) (0) hB7 (by omega) (by omega) (by omega) (by omega) (by omega) (by omega) (by omega) (by omega) (by omega) c7_0 c7_1 c7_2 (fun z => by omega)).mono (fun r τ q => ?_)
            obtain ⟨hB9, ⟨q, rfl, d, F⟩ | ⟨q, rfl, d, F⟩⟩ := q
            · exact ⟨hB9, Or.inl ⟨by omega, rfl, d, puF.tr hG7 F⟩⟩
            · refine ⟨hB9, Or.inr ⟨by omega, rfl, d, ?_⟩⟩
              exact puF.tr hG7 F
        · have z6 : x1 ≠ x2 := z6
          refine xc_lineE_s4 x0 x1 x2 x3 x4 x5 x6 _ hv6_5 hB5 ⟨by omega, by omega, by omega, by omega, by omega, by omega, by omega, trivial⟩ ⟨c5_0, c5_1, c5_2, trivial⟩ ?_
          · intro τ8 y8  hB8 hF8 f8 rr8 _ c8
            obtain ⟨f8_0, f8_1, f8_2, f8_3, f8_4, f8_5, f8_6, -⟩ := f8
            obtain ⟨c8_0, c8_1, c8_2, -⟩ := c8
            have hG8 : puF [(21, 0)] [] σ τ8 := puF.fq rfl hG5 hF8
            refine (xc_lineE2 x0 x1 x2 x3 x4 x5 x6 (0) (1) hB8 (by omega) (by omega) (by omega) (by omega) (by omega) (by omega) (by omega) (by omega) (by omega) c8_0 c8_1 c8_2 (fun z => by omega)).mono (fun r τ q => ?_)
            obtain ⟨hB9, ⟨q, rfl, d, F⟩ | ⟨q, rfl, d, F⟩⟩ := q
            · exact ⟨hB9, Or.inl ⟨by omega, rfl, d, puF.tr hG8 F⟩⟩
            · refine ⟨hB9, Or.inr ⟨by omega, rfl, d, ?_⟩⟩
              exact puF.tr hG8 F
  · intro τ9 y9 v5_9 v6_9 hv5_9 hv6_9 hB9 hF9 f9 rr9 _ c9
    obtain ⟨f9_0, f9_1, f9_2, f9_3, f9_4, f9_5, f9_6, -⟩ := f9
    obtain ⟨c9_0, c9_1, c9_2, -⟩ := c9
    have hG9 : puF [(21, 0)] [] σ τ9 := puF.fq rfl (puF.rf _ _) hF9
    refine Ok.cv rfl rfl rfl rfl rfl rfl rfl ?_
    refine (x_h82 (x3) (x4) hB9 (by omega) c9_0).use (by decide) (fun r10 τ10 q10 => ?_)
    obtain ⟨hB10, hF10, ⟨q10, rfl, d10⟩ | ⟨q10, rfl, d10⟩⟩ := q10
    · have hG10 : puF [(21, 0)] [] σ τ10 := puF.fq rfl hG9 hF10
      have e10_3_0 : (τ10.1 3 0).toInt = x4 := (congrArg Int32.toInt (show τ10.1 3 0 = τ9.1 3 0 from hF10 3 0 rfl)).trans c9_0
      have e10_7_0 : (τ10.1 7 0).toInt = x5 := (congrArg Int32.toInt (show τ10.1 7 0 = τ9.1 7 0 from hF10 7 0 rfl)).trans c9_1
      have e10_21_0 : (τ10.1 21 0).toInt = x6 := (congrArg Int32.toInt (show τ10.1 21 0 = τ9.1 21 0 from hF10 21 0 rfl)).trans c9_2
      refine xc_lineE_s5 x0 x1 x2 x3 x4 x5 x6 _ _ hv5_9 hv6_9 hB10 ⟨by omega, by omega, by omega, by omega, by omega, by omega, by omega, trivial⟩ ⟨e10_3_0, e10_7_0, e10_21_0, trivial⟩ ?_ ?_
      · intro τ11 y11  hB11 hF11 f11 rr11 _ c11
        obtain ⟨f11_0, f11_1, f11_2, f11_3, f11_4, f11_5, f11_6, -⟩ := f11
        obtain ⟨r11_0, -⟩ := rr11
        obtain ⟨c11_0, c11_1, c11_2, -⟩ := c11
        have hG11 : puF [(21, 0)] [] σ τ11 := puF.fq rfl hG10 hF11
        refine (xc_lineE2 x0 x1 x2 x3 x4 x5 x6 (0) (0) hB11 (by omega) (by omega) (by omega) (by omega) (by omega) (by omega) (by omega) (by omega) (by omega) c11_0 c11_1 c11_2 (fun z => by omega)).mono (fun r τ q => ?_)
        obtain ⟨hB9, ⟨q, rfl, d, F⟩ | ⟨q, rfl, d, F⟩⟩ := q
        · exact ⟨hB9, Or.inl ⟨by omega, rfl, d, puF.tr hG11 F⟩⟩
        · refine ⟨hB9, Or.inr ⟨by omega, rfl, d, ?_⟩⟩
          exact puF.tr hG11 F
      · intro τ12 y12 v6_12 hv6_12 hB12 hF12 f12 rr12 _ c12
        obtain ⟨f12_0, f12_1, f12_2, f12_3, f12_4, f12_5, f12_6, -⟩ := f12
        obtain ⟨c12_0, c12_1, c12_2, -⟩ := c12
        have hG12 : puF [(21, 0)] [] σ τ12 := puF.fq rfl hG10 hF12
        refine Ok.cv rfl rfl rfl rfl rfl rfl rfl ?_
        refine (x_h61 ((-1)) (x5) hB12 (by omega) c12_1).use (by decide) (fun r13 τ13 q13 => ?_)
        obtain ⟨hB13, hF13, ⟨q13, rfl, d13⟩ | ⟨q13, rfl, d13⟩⟩ := q13
        · have hG13 : puF [(21, 0)] [] σ τ13 := puF.fq rfl hG12 hF13
          have e13_3_0 : (τ13.1 3 0).toInt = x4 := (congrArg Int32.toInt (show τ13.1 3 0 = τ12.1 3 0 from hF13 3 0 rfl)).trans c12_0
          have e13_7_0 : (τ13.1 7 0).toInt = x5 := (congrArg Int32.toInt (show τ13.1 7 0 = τ12.1 7 0 from hF13 7 0 rfl)).trans c12_1
          have e13_21_0 : (τ13.1 21 0).toInt = x6 := (congrArg Int32.toInt (show τ13.1 21 0 = τ12.1 21 0 from hF13 21 0 rfl)).trans c12_2
          refine xc_lineE_s6 x0 x1 x2 x3 x4 x5 x6 _ hv6_12 hB13 ⟨by omega, by omega, by omega, by omega, by omega, by omega, by omega, trivial⟩ ⟨e13_3_0, e13_7_0, e13_21_0, trivial⟩ ?_
          · intro τ14 y14  hB14 hF14 f14 rr14 _ c14
            obtain ⟨f14_0, f14_1, f14_2, f14_3, f14_4, f14_5, f14_6, -⟩ := f14
            obtain ⟨c14_0, c14_1, c14_2, -⟩ := c14
            have hG14 : puF [(21, 0)] [] σ τ14 := puF.fq rfl hG13 hF14
            refine (xc_lineE2 x0 x1 x2 x3 x4 x5 x6 (0) (0) hB14 (by omega) (by omega) (by omega) (by omega) (by omega) (by omega) (by omega) (by omega) (by omega) c14_0 c14_1 c14_2 (fun z => by omega)).mono (fun r τ q => ?_)
            obtain ⟨hB9, ⟨q, rfl, d, F⟩ | ⟨q, rfl, d, F⟩⟩ := q
            · exact ⟨hB9, Or.inl ⟨by omega, rfl, d, puF.tr hG14 F⟩⟩
            · refine ⟨hB9, Or.inr ⟨by omega, rfl, d, ?_⟩⟩
              exact puF.tr hG14 F
        · have hG13 : puF [(21, 0)] [] σ τ13 := puF.fq rfl hG12 hF13
          have e13_3_0 : (τ13.1 3 0).toInt = x4 := (congrArg Int32.toInt (show τ13.1 3 0 = τ12.1 3 0 from hF13 3 0 rfl)).trans c12_0
          have e13_7_0 : (τ13.1 7 0).toInt = x5 := (congrArg Int32.toInt (show τ13.1 7 0 = τ12.1 7 0 from hF13 7 0 rfl)).trans c12_1
          have e13_21_0 : (τ13.1 21 0).toInt = x6 := (congrArg Int32.toInt (show τ13.1 21 0 = τ12.1 21 0 from hF13 21 0 rfl)).trans c12_2
          refine xc_lineE_s7 x0 x1 x2 x3 x4 x5 x6 _ hv6_12 hB13 ⟨by omega, by omega, by omega, by omega, by omega, by omega, by omega, trivial⟩ ⟨e13_3_0, e13_7_0, e13_21_0, trivial⟩ ?_
          · intro τ15 y15 v6_15 hv6_15 hB15 hF15 f15 rr15 _ c15
            obtain ⟨f15_0, f15_1, f15_2, f15_3, f15_4, f15_5, f15_6, -⟩ := f15
            obtain ⟨c15_0, c15_1, c15_2, -⟩ := c15
            have hG15 : puF [(21, 0)] [] σ τ15 := puF.fq rfl hG13 hF15
            refine Ok.ic rfl rfl (by omega) (by omega) (by omega) (by omega) (fun z16 => ?_) (fun z16 => ?_)
            · have z16 : x1 = (-1) := z16
              refine xc_lineE_s8 x0 x1 x2 x3 x4 x5 x6 _ hv6_15 hB15 ⟨by omega, by omega, by omega, by omega, by omega, by omega, by omega, trivial⟩ ⟨c15_0, c15_1, c15_2, trivial⟩ ?_
              · intro τ17 y17  hB17 hF17 f17 rr17 _ c17
                obtain ⟨f17_0, f17_1, f17_2, f17_3, f17_4, f17_5, f17_6, -⟩ := f17
                obtain ⟨c17_0, c17_1, c17_2, -⟩ := c17
                have hG17 : puF [(21, 0)] [] σ τ17 := puF.fq rfl hG15 hF17
                refine (xc_lineE2 x0 x1 x2 x3 x4 x5 x6 (0) (0) hB17 (by omega) (by omega) (by omega) (by omega) (by omega) (by omega) (by omega) (by omega) (by omega) c17_0 c17_1 c17_2 (fun z => by omega)).mono (fun r τ q => ?_)
                obtain ⟨hB9, ⟨q, rfl, d, F⟩ | ⟨q, rfl, d, F⟩⟩ := q
                · exact ⟨hB9, Or.inl ⟨by omega, rfl, d, puF.tr hG17 F⟩⟩
                · refine ⟨hB9, Or.inr ⟨by omega, rfl, d, ?_⟩⟩
                  exact puF.tr hG17 F
            · have z16 : x1 ≠ (-1) := z16
              refine xc_lineE_s9 x0 x1 x2 x3 x4 x5 x6 _ hv6_15 hB15 ⟨by omega, by omega, by omega, by omega, by omega, by omega, by omega, trivial⟩ ⟨c15_0, c15_1, c15_2, trivial⟩ ?_
              · intro τ18 y18  hB18 hF18 f18 rr18 _ c18
                obtain ⟨f18_0, f18_1, f18_2, f18_3, f18_4, f18_5, f18_6, -⟩ := f18
                obtain ⟨c18_0, c18_1, c18_2, -⟩ := c18
                have hG18 : puF [(21, 0)] [] σ τ18 := puF.fq rfl hG15 hF18
                refine (xc_lineE2 x0 x1 x2 x3 x4 x5 x6 (0) (1) hB18 (by omega) (by omega) (by omega) (by omega) (by omega) (by omega) (by omega) (by omega) (by omega) c18_0 c18_1 c18_2 (fun z => by omega)).mono (fun r τ q => ?_)
                obtain ⟨hB9, ⟨q, rfl, d, F⟩ | ⟨q, rfl, d, F⟩⟩ := q
                · exact ⟨hB9, Or.inl ⟨by omega, rfl, d, puF.tr hG18 F⟩⟩
                · refine ⟨hB9, Or.inr ⟨by omega, rfl, d, ?_⟩⟩
                  exact puF.tr hG18 F
    · have hG10 : puF [(21, 0)] [] σ τ10 := puF.fq rfl hG9 hF10
      have e10_3_0 : (τ10.1 3 0).toInt = x4 := (congrArg Int32.toInt (show τ10.1 3 0 = τ9.1 3 0 from hF10 3 0 rfl)).trans c9_0
      have e10_7_0 : (τ10.1 7 0).toInt = x5 := (congrArg Int32.toInt (show τ10.1 7 0 = τ9.1 7 0 from hF10 7 0 rfl)).trans c9_1
      have e10_21_0 : (τ10.1 21 0).toInt = x6 := (congrArg Int32.toInt (show τ10.1 21 0 = τ9.1 21 0 from hF10 21 0 rfl)).trans c9_2
      refine xc_lineE_s10 x0 x1 x2 x3 x4 x5 x6 _ _ hv5_9 hv6_9 hB10 ⟨by omega, by omega, by omega, by omega, by omega, by omega, by omega, trivial⟩ ⟨e10_3_0, e10_7_0, e10_21_0, trivial⟩ ?_
      · intro τ19 y19  hB19 hF19 f19 rr19 _ c19
        obtain ⟨f19_0, f19_1, f19_2, f19_3, f19_4, f19_5, f19_6, -⟩ := f19
        obtain ⟨r19_0, -⟩ := rr19
        obtain ⟨c19_0, c19_1, c19_2, -⟩ := c19
        have hG19 : puF [(21, 0)] [] σ τ19 := puF.fq rfl hG10 hF19
        refine (xc_lineE2 x0 x1 x2 x3 x4 x5 x6 (1) (0) hB19 (by omega) (by omega) (by omega) (by omega) (by omega) (by omega) (by omega) (by omega) (by omega) c19_0 c19_1 c19_2 (fun z => by omega)).mono (fun r τ q => ?_)
        obtain ⟨hB9, ⟨q, rfl, d, F⟩ | ⟨q, rfl, d, F⟩⟩ := q
        · exact ⟨hB9, Or.inl ⟨by omega, rfl, d, puF.tr hG19 F⟩⟩
        · refine ⟨hB9, Or.inr ⟨by omega, rfl, d, ?_⟩⟩
          exact puF.tr hG19 F
set_option maxRecDepth 100000 in
theorem xm_lineE2_s0 {σ : pm_S} {Q : Option Value → pm_S → Prop} (x0 x1 x2 x3 x4 x5 x6 x7 x8 : Int)  (hB : an_GB pm_B σ) (eF : ((-2147483648) ≤ x0 ∧ x0 ≤ 2147483647) ∧ ((-2147483648) ≤ x1 ∧ x1 ≤ 2147483647) ∧ ((-2147483648) ≤ x2 ∧ x2 ≤ 2147483647) ∧ ((-2147483648) ≤ x3 ∧ x3 ≤ 2147483647) ∧ (0 ≤ x4 ∧ x4 ≤ 10) ∧ (0 ≤ x5 ∧ x5 ≤ 10) ∧ (0 ≤ x6 ∧ x6 ≤ 30) ∧ (0 ≤ x7 ∧ x7 ≤ 1) ∧ (0 ≤ x8 ∧ x8 ≤ 1) ∧ True) (eC : (σ.1 93 2).toInt = x4 ∧ (σ.1 93 5).toInt = x5 ∧ (σ.1 93 23).toInt = x6 ∧ True)
    (l0 : ∀ (τ : pm_S) (y : Nat → Int), an_GB pm_B τ → FQ [(93, 0), (93, 23)] σ τ → (((-2147483648) ≤ x0 ∧ x0 ≤ (-1)) ∧ ((-2147483648) ≤ x1 ∧ x1 ≤ 2147483647) ∧ ((-2147483648) ≤ x2 ∧ x2 ≤ 2147483647) ∧ ((-2147483648) ≤ x3 ∧ x3 ≤ 2147483647) ∧ (0 ≤ x4 ∧ x4 ≤ 10) ∧ (0 ≤ x5 ∧ x5 ≤ 10) ∧ (0 ≤ x6 ∧ x6 ≤ 30) ∧ (0 ≤ x7 ∧ x7 ≤ 1) ∧ (0 ≤ x8 ∧ x8 ≤ 1) ∧ True) → (True) → (True) → ((τ.1 93 2).toInt = x4 ∧ (τ.1 93 5).toInt = x5 ∧ (τ.1 93 23).toInt = x6 ∧ True) → Q (some (.int (Int32.ofInt (-1)))) τ)
    (l1 : ∀ (τ : pm_S) (y : Nat → Int), an_GB pm_B τ → FQ [(93, 0), (93, 23)] σ τ → ((10000 ≤ x0 ∧ x0 ≤ 2147483647) ∧ ((-2147483648) ≤ x1 ∧ x1 ≤ 2147483647) ∧ ((-2147483648) ≤ x2 ∧ x2 ≤ 2147483647) ∧ ((-2147483648) ≤ x3 ∧ x3 ≤ 2147483647) ∧ (0 ≤ x4 ∧ x4 ≤ 10) ∧ (0 ≤ x5 ∧ x5 ≤ 10) ∧ (0 ≤ x6 ∧ x6 ≤ 30) ∧ (0 ≤ x7 ∧ x7 ≤ 1) ∧ (0 ≤ x8 ∧ x8 ≤ 1) ∧ True) → (True) → (True) → ((τ.1 93 2).toInt = x4 ∧ (τ.1 93 5).toInt = x5 ∧ (τ.1 93 23).toInt = x6 ∧ True) → Q (some (.int (Int32.ofInt (-1)))) τ)
    (l2 : ∀ (τ : pm_S) (y : Nat → Int), an_GB pm_B τ → FQ [(93, 0), (93, 23)] σ τ → ((0 ≤ x0 ∧ x0 ≤ 9999) ∧ ((-2147483648) ≤ x1 ∧ x1 ≤ 2147483647) ∧ ((-2147483648) ≤ x2 ∧ x2 ≤ 2147483647) ∧ ((-2147483648) ≤ x3 ∧ x3 ≤ 2147483647) ∧ (0 ≤ x4 ∧ x4 ≤ 10) ∧ (0 ≤ x5 ∧ x5 ≤ 10) ∧ (0 ≤ x6 ∧ x6 ≤ 30) ∧ (0 ≤ x7 ∧ x7 ≤ 1) ∧ (0 ≤ x8 ∧ x8 ≤ 1) ∧ True) → (True) → (True) → ((τ.1 93 2).toInt = x4 ∧ (τ.1 93 5).toInt = x5 ∧ (τ.1 93 23).toInt = x6 ∧ True) → Ok 239 21 36 [.ref 93, .int (Int32.ofInt (x0)), .int (Int32.ofInt (x1)), .int (Int32.ofInt (x2)), .int (Int32.ofInt (x3)), .int (Int32.ofInt (x8)), .int (Int32.ofInt (x7))] [.int (Int32.ofInt (x1)), .ref 93] τ Q)
    : Ok 239 21 28 [.ref 93, .int (Int32.ofInt (x0)), .int (Int32.ofInt (x1)), .int (Int32.ofInt (x2)), .int (Int32.ofInt (x3)), .int (Int32.ofInt (x8)), .int (Int32.ofInt (x7))] [] σ Q := by
  refine an_seg (B := pm_B) (F := [(93, 0), (93, 23)]) (T := []) (S := []) (fun _ h => absurd h List.not_mem_nil) (k := 239) (d := 20) (cs := [36, 53, 59, 65, 71]) 19 28 9 [(0, (-2147483648), 2147483647), (1, (-2147483648), 2147483647), (2, (-2147483648), 2147483647), (3, (-2147483648), 2147483647), (4, 0, 10), (5, 0, 10), (6, 0, 30), (7, 0, 1), (8, 0, 1)] [(93, (1, 0, 2), (0, 4, 0)), (93, (1, 0, 5), (0, 5, 0)), (93, (1, 0, 23), (0, 6, 0))] [(2, 93, 0), (0, 0, 0), (0, 1, 0), (0, 2, 0), (0, 3, 0), (0, 8, 0), (0, 7, 0)] [] [(9999, [], [(1, 0, (-1))], [(0, (-2147483648), (-1)), (1, (-2147483648), 2147483647), (2, (-2147483648), 2147483647), (3, (-2147483648), 2147483647), (4, 0, 10), (5, 0, 10), (6, 0, 30), (7, 0, 1), (8, 0, 1)], [], [], [(93, (1, 0, 2), (0, 4, 0)), (93, (1, 0, 5), (0, 5, 0)), (93, (1, 0, 23), (0, 6, 0))]),
    (9999, [], [(1, 0, (-1))], [(0, 10000, 2147483647), (1, (-2147483648), 2147483647), (2, (-2147483648), 2147483647), (3, (-2147483648), 2147483647), (4, 0, 10), (5, 0, 10), (6, 0, 30), (7, 0, 1), (8, 0, 1)], [], [], [(93, (1, 0, 2), (0, 4, 0)), (93, (1, 0, 5), (0, 5, 0)), (93, (1, 0, 23), (0, 6, 0))]),
    (36, [(2, 93, 0), (0, 0, 0), (0, 1, 0), (0, 2, 0), (0, 3, 0), (0, 8, 0), (0, 7, 0)], [(0, 1, 0), (2, 93, 0)], [(0, 0, 9999), (1, (-2147483648), 2147483647), (2, (-2147483648), 2147483647), (3, (-2147483648), 2147483647), (4, 0, 10), (5, 0, 10), (6, 0, 30), (7, 0, 1), (8, 0, 1)], [], [], [(93, (1, 0, 2), (0, 4, 0)), (93, (1, 0, 5), (0, 5, 0)), (93, (1, 0, 23), (0, 6, 0))])] (by decide +kernel) (ρ0 := (fun s => [x0, x1, x2, x3, x4, x5, x6, x7, x8].getD s 0)) hB eF eC ⟨rfl, ⟨rfl, ⟨rfl, ⟨rfl, ⟨rfl, ⟨rfl, ⟨rfl, trivial⟩⟩⟩⟩⟩⟩⟩ trivial ?_
  refine List.forall_mem_cons.mpr ⟨?_, List.forall_mem_cons.mpr ⟨?_, List.forall_mem_cons.mpr ⟨?_, fun _ h => absurd h List.not_mem_nil⟩⟩⟩
  · intro ρ τ Lc stc hx g1 g2 g3 g4 g5 g6 g7 g8
    have e0 : ρ 0 = x0 := hx 0 (by decide)
    have e1 : ρ 1 = x1 := hx 1 (by decide)
    have e2 : ρ 2 = x2 := hx 2 (by decide)
    have e3 : ρ 3 = x3 := hx 3 (by decide)
    have e4 : ρ 4 = x4 := hx 4 (by decide)
    have e5 : ρ 5 = x5 := hx 5 (by decide)
    have e6 : ρ 6 = x6 := hx 6 (by decide)
    have e7 : ρ 7 = x7 := hx 7 (by decide)
    have e8 : ρ 8 = x8 := hx 8 (by decide)
    subst e0
    subst e1
    subst e2
    subst e3
    subst e4
    subst e5
    subst e6
    subst e7
    subst e8
    match stc, g8 with
    | [_], ⟨h, _⟩ => cases h; exact l0 τ ρ g1 g2 g3 g4 g5 g6
  · intro ρ τ Lc stc hx g1 g2 g3 g4 g5 g6 g7 g8
    have e0 : ρ 0 = x0 := hx 0 (by decide)
    have e1 : ρ 1 = x1 := hx 1 (by decide)
    have e2 : ρ 2 = x2 := hx 2 (by decide)
    have e3 : ρ 3 = x3 := hx 3 (by decide)
    have e4 : ρ 4 = x4 := hx 4 (by decide)
    have e5 : ρ 5 = x5 := hx 5 (by decide)
    have e6 : ρ 6 = x6 := hx 6 (by decide)
    have e7 : ρ 7 = x7 := hx 7 (by decide)
    have e8 : ρ 8 = x8 := hx 8 (by decide)
    subst e0
    subst e1
    subst e2
    subst e3
    subst e4
    subst e5
    subst e6
    subst e7
    subst e8
    match stc, g8 with
    | [_], ⟨h, _⟩ => cases h; exact l1 τ ρ g1 g2 g3 g4 g5 g6
  · intro ρ τ Lc stc hx g1 g2 g3 g4 g5 g6 g7 g8
    have e0 : ρ 0 = x0 := hx 0 (by decide)
    have e1 : ρ 1 = x1 := hx 1 (by decide)
    have e2 : ρ 2 = x2 := hx 2 (by decide)
    have e3 : ρ 3 = x3 := hx 3 (by decide)
    have e4 : ρ 4 = x4 := hx 4 (by decide)
    have e5 : ρ 5 = x5 := hx 5 (by decide)
    have e6 : ρ 6 = x6 := hx 6 (by decide)
    have e7 : ρ 7 = x7 := hx 7 (by decide)
    have e8 : ρ 8 = x8 := hx 8 (by decide)
    subst e0
    subst e1
    subst e2
    subst e3
    subst e4
    subst e5
    subst e6
    subst e7
    subst e8
    have g7 := g7 (by decide)
    match Lc, stc, g7, g8 with
    | [v0, v1, v2, v3, v4, v5, v6], [w0, w1], ⟨hv0, hv1, hv2, hv3, hv4, hv5, hv6, _⟩, ⟨hw0, hw1, _⟩ =>
      cases hv0
      cases hv1
      cases hv2
      cases hv3
      cases hv4
      cases hv5
      cases hv6
      cases hw0
      cases hw1
      exact l2 τ ρ  g1 g2 g3 g4 g5 g6
set_option maxRecDepth 100000 in
theorem xm_lineE2_s1 {σ : pm_S} {Q : Option Value → pm_S → Prop} (x0 x1 x2 x3 x4 x5 x6 x7 x8 : Int)  (hB : an_GB pm_B σ) (eF : (0 ≤ x0 ∧ x0 ≤ 9999) ∧ ((-2147483648) ≤ x1 ∧ x1 ≤ 2147483647) ∧ ((-2147483648) ≤ x2 ∧ x2 ≤ 2147483647) ∧ ((-2147483648) ≤ x3 ∧ x3 ≤ 2147483647) ∧ (0 ≤ x4 ∧ x4 ≤ 10) ∧ (0 ≤ x5 ∧ x5 ≤ 10) ∧ (0 ≤ x6 ∧ x6 ≤ 30) ∧ (0 ≤ x7 ∧ x7 ≤ 1) ∧ (0 ≤ x8 ∧ x8 ≤ 1) ∧ True) (eC : (σ.1 93 2).toInt = x4 ∧ (σ.1 93 5).toInt = x5 ∧ (σ.1 93 23).toInt = x6 ∧ True)
    (l0 : ∀ (τ : pm_S) (y : Nat → Int), an_GB pm_B τ → FQ [(93, 0), (93, 23)] σ τ → ((0 ≤ x0 ∧ x0 ≤ 9999) ∧ ((-2147483648) ≤ x1 ∧ x1 ≤ 2147483647) ∧ ((-2147483648) ≤ x2 ∧ x2 ≤ 2147483647) ∧ ((-2147483648) ≤ x3 ∧ x3 ≤ 2147483647) ∧ (0 ≤ x4 ∧ x4 ≤ 10) ∧ (0 ≤ x5 ∧ x5 ≤ 10) ∧ (0 ≤ x6 ∧ x6 ≤ 30) ∧ (0 ≤ x7 ∧ x7 ≤ 1) ∧ (0 ≤ x8 ∧ x8 ≤ 1) ∧ True) → (True) → (True) → ((τ.1 93 2).toInt = x4 ∧ (τ.1 93 5).toInt = x5 ∧ (τ.1 93 23).toInt = x6 ∧ True) → Q (some (.int (Int32.ofInt (-1)))) τ)
    : Ok 239 21 37 [.ref 93, .int (Int32.ofInt (x0)), .int (Int32.ofInt (x1)), .int (Int32.ofInt (x2)), .int (Int32.ofInt (x3)), .int (Int32.ofInt (x8)), .int (Int32.ofInt (x7))] [.int (Int32.ofInt 0)] σ Q := by
  refine an_seg (B := pm_B) (F := [(93, 0), (93, 23)]) (T := []) (S := []) (fun _ h => absurd h List.not_mem_nil) (k := 239) (d := 20) (cs := [36, 53, 59, 65, 71]) 5 37 9 [(0, 0, 9999), (1, (-2147483648), 2147483647), (2, (-2147483648), 2147483647), (3, (-2147483648), 2147483647), (4, 0, 10), (5, 0, 10), (6, 0, 30), (7, 0, 1), (8, 0, 1)] [(93, (1, 0, 2), (0, 4, 0)), (93, (1, 0, 5), (0, 5, 0)), (93, (1, 0, 23), (0, 6, 0))] [(2, 93, 0), (0, 0, 0), (0, 1, 0), (0, 2, 0), (0, 3, 0), (0, 8, 0), (0, 7, 0)] [(1, 0, 0)] [(9999, [], [(1, 0, (-1))], [(0, 0, 9999), (1, (-2147483648), 2147483647), (2, (-2147483648), 2147483647), (3, (-2147483648), 2147483647), (4, 0, 10), (5, 0, 10), (6, 0, 30), (7, 0, 1), (8, 0, 1)], [], [], [(93, (1, 0, 2), (0, 4, 0)), (93, (1, 0, 5), (0, 5, 0)), (93, (1, 0, 23), (0, 6, 0))])] (by decide +kernel) (ρ0 := (fun s => [x0, x1, x2, x3, x4, x5, x6, x7, x8].getD s 0)) hB eF eC ⟨rfl, ⟨rfl, ⟨rfl, ⟨rfl, ⟨rfl, ⟨rfl, ⟨rfl, trivial⟩⟩⟩⟩⟩⟩⟩ ⟨rfl, trivial⟩ ?_
  refine List.forall_mem_cons.mpr ⟨?_, fun _ h => absurd h List.not_mem_nil⟩
  · intro ρ τ Lc stc hx g1 g2 g3 g4 g5 g6 g7 g8
    have e0 : ρ 0 = x0 := hx 0 (by decide)
    have e1 : ρ 1 = x1 := hx 1 (by decide)
    have e2 : ρ 2 = x2 := hx 2 (by decide)
    have e3 : ρ 3 = x3 := hx 3 (by decide)
    have e4 : ρ 4 = x4 := hx 4 (by decide)
    have e5 : ρ 5 = x5 := hx 5 (by decide)
    have e6 : ρ 6 = x6 := hx 6 (by decide)
    have e7 : ρ 7 = x7 := hx 7 (by decide)
    have e8 : ρ 8 = x8 := hx 8 (by decide)
    subst e0
    subst e1
    subst e2
    subst e3
    subst e4
    subst e5
    subst e6
    subst e7
    subst e8
    match stc, g8 with
    | [_], ⟨h, _⟩ => cases h; exact l0 τ ρ g1 g2 g3 g4 g5 g6
set_option maxRecDepth 100000 in
theorem xm_lineE2_s2 {σ : pm_S} {Q : Option Value → pm_S → Prop} (x0 x1 x2 x3 x4 x5 x6 x7 x8 : Int)  (hB : an_GB pm_B σ) (eF : (0 ≤ x0 ∧ x0 ≤ 9999) ∧ (0 ≤ x1 ∧ x1 ≤ 9) ∧ ((-2147483648) ≤ x2 ∧ x2 ≤ 2147483647) ∧ ((-2147483648) ≤ x3 ∧ x3 ≤ 2147483647) ∧ (0 ≤ x4 ∧ x4 ≤ 10) ∧ (0 ≤ x5 ∧ x5 ≤ 10) ∧ (0 ≤ x6 ∧ x6 ≤ 30) ∧ (0 ≤ x7 ∧ x7 ≤ 1) ∧ (0 ≤ x8 ∧ x8 ≤ 1) ∧ True) (eC : (σ.1 93 2).toInt = x4 ∧ (σ.1 93 5).toInt = x5 ∧ (σ.1 93 23).toInt = x6 ∧ True)
    (l0 : ∀ (τ : pm_S) (y : Nat → Int), an_GB pm_B τ → FQ [(93, 0), (93, 23)] σ τ → ((0 ≤ x0 ∧ x0 ≤ 9999) ∧ (0 ≤ x1 ∧ x1 ≤ 9) ∧ ((-2147483648) ≤ x2 ∧ x2 ≤ 2147483647) ∧ ((-2147483648) ≤ x3 ∧ x3 ≤ 2147483647) ∧ (0 ≤ x4 ∧ x4 ≤ 10) ∧ (0 ≤ x5 ∧ x5 ≤ 10) ∧ (0 ≤ x6 ∧ x6 ≤ 29) ∧ (0 ≤ x7 ∧ x7 ≤ 1) ∧ (1 ≤ x8 ∧ x8 ≤ 1) ∧ True) → (True) → (True) → ((τ.1 93 2).toInt = x4 ∧ (τ.1 93 5).toInt = x5 ∧ (τ.1 93 23).toInt = x6 ∧ True) → Ok 239 21 53 [.ref 93, .int (Int32.ofInt (x0)), .int (Int32.ofInt (x1)), .int (Int32.ofInt (x2)), .int (Int32.ofInt (x3)), .int (Int32.ofInt (x8)), .int (Int32.ofInt (x7))] [.int (Int32.ofInt (x0)), .int (Int32.ofInt (x6)), .ref 109] τ Q)
    (l1 : ∀ (τ : pm_S) (y : Nat → Int), an_GB pm_B τ → FQ [(93, 0), (93, 23)] σ τ → ((0 ≤ x0 ∧ x0 ≤ 9999) ∧ (0 ≤ x1 ∧ x1 ≤ 9) ∧ ((-2147483648) ≤ x2 ∧ x2 ≤ 2147483647) ∧ ((-2147483648) ≤ x3 ∧ x3 ≤ 2147483647) ∧ (0 ≤ x4 ∧ x4 ≤ 10) ∧ (0 ≤ x5 ∧ x5 ≤ 10) ∧ (30 ≤ x6 ∧ x6 ≤ 30) ∧ (0 ≤ x7 ∧ x7 ≤ 1) ∧ (1 ≤ x8 ∧ x8 ≤ 1) ∧ True) → (True) → (True) → ((τ.1 93 2).toInt = x4 ∧ (τ.1 93 5).toInt = x5 ∧ (τ.1 93 23).toInt = x6 ∧ True) → Q (some (.int (Int32.ofInt (-1)))) τ)
    (l2 : ∀ (τ : pm_S) (y : Nat → Int), an_GB pm_B τ → FQ [(93, 0), (93, 23)] σ τ → ((0 ≤ x0 ∧ x0 ≤ 9999) ∧ (0 ≤ x1 ∧ x1 ≤ 9) ∧ ((-2147483648) ≤ x2 ∧ x2 ≤ 2147483647) ∧ ((-2147483648) ≤ x3 ∧ x3 ≤ 2147483647) ∧ (0 ≤ x4 ∧ x4 ≤ 10) ∧ (0 ≤ x5 ∧ x5 ≤ 10) ∧ (0 ≤ x6 ∧ x6 ≤ 30) ∧ (0 ≤ x7 ∧ x7 ≤ 0) ∧ (0 ≤ x8 ∧ x8 ≤ 0) ∧ True) → (True) → (True) → ((τ.1 93 2).toInt = x4 ∧ (τ.1 93 5).toInt = x5 ∧ (τ.1 93 23).toInt = x6 ∧ True) → Q (some (.int (Int32.ofInt (-1)))) τ)
    (l3 : ∀ (τ : pm_S) (y : Nat → Int), an_GB pm_B τ → FQ [(93, 0), (93, 23)] σ τ → ((0 ≤ x0 ∧ x0 ≤ 9999) ∧ (0 ≤ x1 ∧ x1 ≤ 9) ∧ ((-2147483648) ≤ x2 ∧ x2 ≤ 2147483647) ∧ ((-2147483648) ≤ x3 ∧ x3 ≤ 2147483647) ∧ (0 ≤ x4 ∧ x4 ≤ 10) ∧ (0 ≤ x5 ∧ x5 ≤ 10) ∧ (0 ≤ x6 ∧ x6 ≤ 29) ∧ (1 ≤ x7 ∧ x7 ≤ 1) ∧ (0 ≤ x8 ∧ x8 ≤ 0) ∧ True) → (True) → (True) → ((τ.1 93 2).toInt = x4 ∧ (τ.1 93 5).toInt = x5 ∧ (τ.1 93 23).toInt = x6 ∧ True) → Ok 239 21 53 [.ref 93, .int (Int32.ofInt (x0)), .int (Int32.ofInt (x1)), .int (Int32.ofInt (x2)), .int (Int32.ofInt (x3)), .int (Int32.ofInt (x8)), .int (Int32.ofInt (x7))] [.int (Int32.ofInt (x0)), .int (Int32.ofInt (x6)), .ref 109] τ Q)
    (l4 : ∀ (τ : pm_S) (y : Nat → Int), an_GB pm_B τ → FQ [(93, 0), (93, 23)] σ τ → ((0 ≤ x0 ∧ x0 ≤ 9999) ∧ (0 ≤ x1 ∧ x1 ≤ 9) ∧ ((-2147483648) ≤ x2 ∧ x2 ≤ 2147483647) ∧ ((-2147483648) ≤ x3 ∧ x3 ≤ 2147483647) ∧ (0 ≤ x4 ∧ x4 ≤ 10) ∧ (0 ≤ x5 ∧ x5 ≤ 10) ∧ (30 ≤ x6 ∧ x6 ≤ 30) ∧ (1 ≤ x7 ∧ x7 ≤ 1) ∧ (0 ≤ x8 ∧ x8 ≤ 0) ∧ True) → (True) → (True) → ((τ.1 93 2).toInt = x4 ∧ (τ.1 93 5).toInt = x5 ∧ (τ.1 93 23).toInt = x6 ∧ True) → Q (some (.int (Int32.ofInt (-1)))) τ)
    : Ok 239 21 37 [.ref 93, .int (Int32.ofInt (x0)), .int (Int32.ofInt (x1)), .int (Int32.ofInt (x2)), .int (Int32.ofInt (x3)), .int (Int32.ofInt (x8)), .int (Int32.ofInt (x7))] [.int (Int32.ofInt 1)] σ Q := by
  refine an_seg (B := pm_B) (F := [(93, 0), (93, 23)]) (T := []) (S := []) (fun _ h => absurd h List.not_mem_nil) (k := 239) (d := 20) (cs := [36, 53, 59, 65, 71]) 16 37 9 [(0, 0, 9999), (1, 0, 9), (2, (-2147483648), 2147483647), (3, (-2147483648), 2147483647), (4, 0, 10), (5, 0, 10), (6, 0, 30), (7, 0, 1), (8, 0, 1)] [(93, (1, 0, 2), (0, 4, 0)), (93, (1, 0, 5), (0, 5, 0)), (93, (1, 0, 23), (0, 6, 0))] [(2, 93, 0), (0, 0, 0), (0, 1, 0), (0, 2, 0), (0, 3, 0), (0, 8, 0), (0, 7, 0)] [(1, 0, 1)] [(53, [(2, 93, 0), (0, 0, 0), (0, 1, 0), (0, 2, 0), (0, 3, 0), (0, 8, 0), (0, 7, 0)], [(0, 0, 0), (0, 6, 0), (2, 109, 0)], [(0, 0, 9999), (1, 0, 9), (2, (-2147483648), 2147483647), (3, (-2147483648), 2147483647), (4, 0, 10), (5, 0, 10), (6, 0, 29), (7, 0, 1), (8, 1, 1)], [], [], [(93, (1, 0, 2), (0, 4, 0)), (93, (1, 0, 5), (0, 5, 0)), (93, (1, 0, 23), (0, 6, 0))]),
    (9999, [], [(1, 0, (-1))], [(0, 0, 9999), (1, 0, 9), (2, (-2147483648), 2147483647), (3, (-2147483648), 2147483647), (4, 0, 10), (5, 0, 10), (6, 30, 30), (7, 0, 1), (8, 1, 1)], [], [], [(93, (1, 0, 2), (0, 4, 0)), (93, (1, 0, 5), (0, 5, 0)), (93, (1, 0, 23), (0, 6, 0))]),
    (9999, [], [(1, 0, (-1))], [(0, 0, 9999), (1, 0, 9), (2, (-2147483648), 2147483647), (3, (-2147483648), 2147483647), (4, 0, 10), (5, 0, 10), (6, 0, 30), (7, 0, 0), (8, 0, 0)], [], [], [(93, (1, 0, 2), (0, 4, 0)), (93, (1, 0, 5), (0, 5, 0)), (93, (1, 0, 23), (0, 6, 0))]),
    (53, [(2, 93, 0), (0, 0, 0), (0, 1, 0), (0, 2, 0), (0, 3, 0), (0, 8, 0), (0, 7, 0)], [(0, 0, 0), (0, 6, 0), (2, 109, 0)], [(0, 0, 9999), (1, 0, 9), (2, (-2147483648), 2147483647), (3, (-2147483648), 2147483647), (4, 0, 10), (5, 0, 10), (6, 0, 29), (7, 1, 1), (8, 0, 0)], [], [], [(93, (1, 0, 2), (0, 4, 0)), (93, (1, 0, 5), (0, 5, 0)), (93, (1, 0, 23), (0, 6, 0))]),
    (9999, [], [(1, 0, (-1))], [(0, 0, 9999), (1, 0, 9), (2, (-2147483648), 2147483647), (3, (-2147483648), 2147483647), (4, 0, 10), (5, 0, 10), (6, 30, 30), (7, 1, 1), (8, 0, 0)], [], [], [(93, (1, 0, 2), (0, 4, 0)), (93, (1, 0, 5), (0, 5, 0)), (93, (1, 0, 23), (0, 6, 0))])] (by decide +kernel) (ρ0 := (fun s => [x0, x1, x2, x3, x4, x5, x6, x7, x8].getD s 0)) hB eF eC ⟨rfl, ⟨rfl, ⟨rfl, ⟨rfl, ⟨rfl, ⟨rfl, ⟨rfl, trivial⟩⟩⟩⟩⟩⟩⟩ ⟨rfl, trivial⟩ ?_
  refine List.forall_mem_cons.mpr ⟨?_, List.forall_mem_cons.mpr ⟨?_, List.forall_mem_cons.mpr ⟨?_, List.forall_mem_cons.mpr ⟨?_, List.forall_mem_cons.mpr ⟨?_, fun _ h => absurd h List.not_mem_nil⟩⟩⟩⟩⟩
  · intro ρ τ Lc stc hx g1 g2 g3 g4 g5 g6 g7 g8
    have e0 : ρ 0 = x0 := hx 0 (by decide)
    have e1 : ρ 1 = x1 := hx 1 (by decide)
    have e2 : ρ 2 = x2 := hx 2 (by decide)
    have e3 : ρ 3 = x3 := hx 3 (by decide)
    have e4 : ρ 4 = x4 := hx 4 (by decide)
    have e5 : ρ 5 = x5 := hx 5 (by decide)
    have e6 : ρ 6 = x6 := hx 6 (by decide)
    have e7 : ρ 7 = x7 := hx 7 (by decide)
    have e8 : ρ 8 = x8 := hx 8 (by decide)
    subst e0
    subst e1
    subst e2
    subst e3
    subst e4
    subst e5
    subst e6
    subst e7
    subst e8
    have g7 := g7 (by decide)
    match Lc, stc, g7, g8 with
    | [v0, v1, v2, v3, v4, v5, v6], [w0, w1, w2], ⟨hv0, hv1, hv2, hv3, hv4, hv5, hv6, _⟩, ⟨hw0, hw1, hw2, _⟩ =>
      cases hv0
      cases hv1
      cases hv2
      cases hv3
      cases hv4
      cases hv5
      cases hv6
      cases hw0
      cases hw1
      cases hw2
      exact l0 τ ρ  g1 g2 g3 g4 g5 g6
  · intro ρ τ Lc stc hx g1 g2 g3 g4 g5 g6 g7 g8
    have e0 : ρ 0 = x0 := hx 0 (by decide)
    have e1 : ρ 1 = x1 := hx 1 (by decide)
    have e2 : ρ 2 = x2 := hx 2 (by decide)
    have e3 : ρ 3 = x3 := hx 3 (by decide)
    have e4 : ρ 4 = x4 := hx 4 (by decide)
    have e5 : ρ 5 = x5 := hx 5 (by decide)
    have e6 : ρ 6 = x6 := hx 6 (by decide)
    have e7 : ρ 7 = x7 := hx 7 (by decide)
    have e8 : ρ 8 = x8 := hx 8 (by decide)
    subst e0
    subst e1
    subst e2
    subst e3
    subst e4
    subst e5
    subst e6
    subst e7
    subst e8
    match stc, g8 with
    | [_], ⟨h, _⟩ => cases h; exact l1 τ ρ g1 g2 g3 g4 g5 g6
  · intro ρ τ Lc stc hx g1 g2 g3 g4 g5 g6 g7 g8
    have e0 : ρ 0 = x0 := hx 0 (by decide)
    have e1 : ρ 1 = x1 := hx 1 (by decide)
    have e2 : ρ 2 = x2 := hx 2 (by decide)
    have e3 : ρ 3 = x3 := hx 3 (by decide)
    have e4 : ρ 4 = x4 := hx 4 (by decide)
    have e5 : ρ 5 = x5 := hx 5 (by decide)
    have e6 : ρ 6 = x6 := hx 6 (by decide)
    have e7 : ρ 7 = x7 := hx 7 (by decide)
    have e8 : ρ 8 = x8 := hx 8 (by decide)
    subst e0
    subst e1
    subst e2
    subst e3
    subst e4
    subst e5
    subst e6
    subst e7
    subst e8
    match stc, g8 with
    | [_], ⟨h, _⟩ => cases h; exact l2 τ ρ g1 g2 g3 g4 g5 g6
  · intro ρ τ Lc stc hx g1 g2 g3 g4 g5 g6 g7 g8
    have e0 : ρ 0 = x0 := hx 0 (by decide)
    have e1 : ρ 1 = x1 := hx 1 (by decide)
    have e2 : ρ 2 = x2 := hx 2 (by decide)
    have e3 : ρ 3 = x3 := hx 3 (by decide)
    have e4 : ρ 4 = x4 := hx 4 (by decide)
    have e5 : ρ 5 = x5 := hx 5 (by decide)
    have e6 : ρ 6 = x6 := hx 6 (by decide)
    have e7 : ρ 7 = x7 := hx 7 (by decide)
    have e8 : ρ 8 = x8 := hx 8 (by decide)
    subst e0
    subst e1
    subst e2
    subst e3
    subst e4
    subst e5
    subst e6
    subst e7
    subst e8
    have g7 := g7 (by decide)
    match Lc, stc, g7, g8 with
    | [v0, v1, v2, v3, v4, v5, v6], [w0, w1, w2], ⟨hv0, hv1, hv2, hv3, hv4, hv5, hv6, _⟩, ⟨hw0, hw1, hw2, _⟩ =>
      cases hv0
      cases hv1
      cases hv2
      cases hv3
      cases hv4
      cases hv5
      cases hv6
      cases hw0
      cases hw1
      cases hw2
      exact l3 τ ρ  g1 g2 g3 g4 g5 g6
  · intro ρ τ Lc stc hx g1 g2 g3 g4 g5 g6 g7 g8
    have e0 : ρ 0 = x0 := hx 0 (by decide)
    have e1 : ρ 1 = x1 := hx 1 (by decide)
    have e2 : ρ 2 = x2 := hx 2 (by decide)
    have e3 : ρ 3 = x3 := hx 3 (by decide)
    have e4 : ρ 4 = x4 := hx 4 (by decide)
    have e5 : ρ 5 = x5 := hx 5 (by decide)
    have e6 : ρ 6 = x6 := hx 6 (by decide)
    have e7 : ρ 7 = x7 := hx 7 (by decide)
    have e8 : ρ 8 = x8 := hx 8 (by decide)
    subst e0
    subst e1
    subst e2
    subst e3
    subst e4
    subst e5
    subst e6
    subst e7
    subst e8
    match stc, g8 with
    | [_], ⟨h, _⟩ => cases h; exact l4 τ ρ g1 g2 g3 g4 g5 g6
set_option maxRecDepth 100000 in
theorem xm_lineE2_s3 {σ : pm_S} {Q : Option Value → pm_S → Prop} (x0 x1 x2 x3 x4 x5 x6 x7 x8 : Int)  (hB : an_GB pm_B σ) (eF : (0 ≤ x0 ∧ x0 ≤ 9999) ∧ (0 ≤ x1 ∧ x1 ≤ 9) ∧ ((-2147483648) ≤ x2 ∧ x2 ≤ 2147483647) ∧ ((-2147483648) ≤ x3 ∧ x3 ≤ 2147483647) ∧ (0 ≤ x4 ∧ x4 ≤ 10) ∧ (0 ≤ x5 ∧ x5 ≤ 10) ∧ (0 ≤ x6 ∧ x6 ≤ 29) ∧ (0 ≤ x7 ∧ x7 ≤ 1) ∧ (1 ≤ x8 ∧ x8 ≤ 1) ∧ True) (eC : (σ.1 93 2).toInt = x4 ∧ (σ.1 93 5).toInt = x5 ∧ (σ.1 93 23).toInt = x6 ∧ True)
    (l0 : ∀ (τ : pm_S) (y : Nat → Int), an_GB pm_B τ → FQ [(93, 0), (93, 23)] σ τ → ((0 ≤ x0 ∧ x0 ≤ 9999) ∧ (0 ≤ x1 ∧ x1 ≤ 9) ∧ ((-2147483648) ≤ x2 ∧ x2 ≤ 2147483647) ∧ ((-2147483648) ≤ x3 ∧ x3 ≤ 2147483647) ∧ (0 ≤ x4 ∧ x4 ≤ 10) ∧ (0 ≤ x5 ∧ x5 ≤ 10) ∧ (0 ≤ x6 ∧ x6 ≤ 29) ∧ (0 ≤ x7 ∧ x7 ≤ 1) ∧ (1 ≤ x8 ∧ x8 ≤ 1) ∧ True) → (True) → (True) → ((τ.1 93 2).toInt = x4 ∧ (τ.1 93 5).toInt = x5 ∧ (τ.1 93 23).toInt = x6 ∧ True) → Ok 239 21 59 [.ref 93, .int (Int32.ofInt (x0)), .int (Int32.ofInt (x1)), .int (Int32.ofInt (x2)), .int (Int32.ofInt (x3)), .int (Int32.ofInt (x8)), .int (Int32.ofInt (x7))] [.int (Int32.ofInt (x1)), .int (Int32.ofInt (x6)), .ref 110] τ Q)
    : Ok 239 21 54 [.ref 93, .int (Int32.ofInt (x0)), .int (Int32.ofInt (x1)), .int (Int32.ofInt (x2)), .int (Int32.ofInt (x3)), .int (Int32.ofInt (x8)), .int (Int32.ofInt (x7))] [] σ Q := by
  refine an_seg (B := pm_B) (F := [(93, 0), (93, 23)]) (T := []) (S := []) (fun _ h => absurd h List.not_mem_nil) (k := 239) (d := 20) (cs := [36, 53, 59, 65, 71]) 7 54 9 [(0, 0, 9999), (1, 0, 9), (2, (-2147483648), 2147483647), (3, (-2147483648), 2147483647), (4, 0, 10), (5, 0, 10), (6, 0, 29), (7, 0, 1), (8, 1, 1)] [(93, (1, 0, 2), (0, 4, 0)), (93, (1, 0, 5), (0, 5, 0)), (93, (1, 0, 23), (0, 6, 0))] [(2, 93, 0), (0, 0, 0), (0, 1, 0), (0, 2, 0), (0, 3, 0), (0, 8, 0), (0, 7, 0)] [] [(59, [(2, 93, 0), (0, 0, 0), (0, 1, 0), (0, 2, 0), (0, 3, 0), (0, 8, 0), (0, 7, 0)], [(0, 1, 0), (0, 6, 0), (2, 110, 0)], [(0, 0, 9999), (1, 0, 9), (2, (-2147483648), 2147483647), (3, (-2147483648), 2147483647), (4, 0, 10), (5, 0, 10), (6, 0, 29), (7, 0, 1), (8, 1, 1)], [], [], [(93, (1, 0, 2), (0, 4, 0)), (93, (1, 0, 5), (0, 5, 0)), (93, (1, 0, 23), (0, 6, 0))])] (by decide +kernel) (ρ0 := (fun s => [x0, x1, x2, x3, x4, x5, x6, x7, x8].getD s 0)) hB eF eC ⟨rfl, ⟨rfl, ⟨rfl, ⟨rfl, ⟨rfl, ⟨rfl, ⟨rfl, trivial⟩⟩⟩⟩⟩⟩⟩ trivial ?_
  refine List.forall_mem_cons.mpr ⟨?_, fun _ h => absurd h List.not_mem_nil⟩
  · intro ρ τ Lc stc hx g1 g2 g3 g4 g5 g6 g7 g8
    have e0 : ρ 0 = x0 := hx 0 (by decide)
    have e1 : ρ 1 = x1 := hx 1 (by decide)
    have e2 : ρ 2 = x2 := hx 2 (by decide)
    have e3 : ρ 3 = x3 := hx 3 (by decide)
    have e4 : ρ 4 = x4 := hx 4 (by decide)
    have e5 : ρ 5 = x5 := hx 5 (by decide)
    have e6 : ρ 6 = x6 := hx 6 (by decide)
    have e7 : ρ 7 = x7 := hx 7 (by decide)
    have e8 : ρ 8 = x8 := hx 8 (by decide)
    subst e0
    subst e1
    subst e2
    subst e3
    subst e4
    subst e5
    subst e6
    subst e7
    subst e8
    have g7 := g7 (by decide)
    match Lc, stc, g7, g8 with
    | [v0, v1, v2, v3, v4, v5, v6], [w0, w1, w2], ⟨hv0, hv1, hv2, hv3, hv4, hv5, hv6, _⟩, ⟨hw0, hw1, hw2, _⟩ =>
      cases hv0
      cases hv1
      cases hv2
      cases hv3
      cases hv4
      cases hv5
      cases hv6
      cases hw0
      cases hw1
      cases hw2
      exact l0 τ ρ  g1 g2 g3 g4 g5 g6
set_option maxRecDepth 100000 in
theorem xm_lineE2_s4 {σ : pm_S} {Q : Option Value → pm_S → Prop} (x0 x1 x2 x3 x4 x5 x6 x7 x8 : Int)  (hB : an_GB pm_B σ) (eF : (0 ≤ x0 ∧ x0 ≤ 9999) ∧ (0 ≤ x1 ∧ x1 ≤ 9) ∧ ((-2147483648) ≤ x2 ∧ x2 ≤ 2147483647) ∧ ((-2147483648) ≤ x3 ∧ x3 ≤ 2147483647) ∧ (0 ≤ x4 ∧ x4 ≤ 10) ∧ (0 ≤ x5 ∧ x5 ≤ 10) ∧ (0 ≤ x6 ∧ x6 ≤ 29) ∧ (0 ≤ x7 ∧ x7 ≤ 1) ∧ (1 ≤ x8 ∧ x8 ≤ 1) ∧ True) (eC : (σ.1 93 2).toInt = x4 ∧ (σ.1 93 5).toInt = x5 ∧ (σ.1 93 23).toInt = x6 ∧ True)
    (l0 : ∀ (τ : pm_S) (y : Nat → Int), an_GB pm_B τ → FQ [(93, 0), (93, 23)] σ τ → ((0 ≤ x0 ∧ x0 ≤ 9999) ∧ (0 ≤ x1 ∧ x1 ≤ 9) ∧ ((-2147483648) ≤ x2 ∧ x2 ≤ 2147483647) ∧ ((-2147483648) ≤ x3 ∧ x3 ≤ 2147483647) ∧ (0 ≤ x4 ∧ x4 ≤ 10) ∧ (0 ≤ x5 ∧ x5 ≤ 10) ∧ (0 ≤ x6 ∧ x6 ≤ 29) ∧ (0 ≤ x7 ∧ x7 ≤ 1) ∧ (1 ≤ x8 ∧ x8 ≤ 1) ∧ True) → (True) → (True) → ((τ.1 93 2).toInt = x4 ∧ (τ.1 93 5).toInt = x5 ∧ (τ.1 93 23).toInt = x6 ∧ True) → Ok 239 21 65 [.ref 93, .int (Int32.ofInt (x0)), .int (Int32.ofInt (x1)), .int (Int32.ofInt (x2)), .int (Int32.ofInt (x3)), .int (Int32.ofInt (x8)), .int (Int32.ofInt (x7))] [.int (Int32.ofInt (x2)), .int (Int32.ofInt (x6)), .ref 111] τ Q)
    : Ok 239 21 60 [.ref 93, .int (Int32.ofInt (x0)), .int (Int32.ofInt (x1)), .int (Int32.ofInt (x2)), .int (Int32.ofInt (x3)), .int (Int32.ofInt (x8)), .int (Int32.ofInt (x7))] [] σ Q := by
  refine an_seg (B := pm_B) (F := [(93, 0), (93, 23)]) (T := []) (S := []) (fun _ h => absurd h List.not_mem_nil) (k := 239) (d := 20) (cs := [36, 53, 59, 65, 71]) 7 60 9 [(0, 0, 9999), (1, 0, 9), (2, (-2147483648), 2147483647), (3, (-2147483648), 2147483647), (4, 0, 10), (5, 0, 10), (6, 0, 29), (7, 0, 1), (8, 1, 1)] [(93, (1, 0, 2), (0, 4, 0)), (93, (1, 0, 5), (0, 5, 0)), (93, (1, 0, 23), (0, 6, 0))] [(2, 93, 0), (0, 0, 0), (0, 1, 0), (0, 2, 0), (0, 3, 0), (0, 8, 0), (0, 7, 0)] [] [(65, [(2, 93, 0), (0, 0, 0), (0, 1, 0), (0, 2, 0), (0, 3, 0), (0, 8, 0), (0, 7, 0)], [(0, 2, 0), (0, 6, 0), (2, 111, 0)], [(0, 0, 9999), (1, 0, 9), (2, (-2147483648), 2147483647), (3, (-2147483648), 2147483647), (4, 0, 10), (5, 0, 10), (6, 0, 29), (7, 0, 1), (8, 1, 1)], [], [], [(93, (1, 0, 2), (0, 4, 0)), (93, (1, 0, 5), (0, 5, 0)), (93, (1, 0, 23), (0, 6, 0))])] (by decide +kernel) (ρ0 := (fun s => [x0, x1, x2, x3, x4, x5, x6, x7, x8].getD s 0)) hB eF eC ⟨rfl, ⟨rfl, ⟨rfl, ⟨rfl, ⟨rfl, ⟨rfl, ⟨rfl, trivial⟩⟩⟩⟩⟩⟩⟩ trivial ?_
  refine List.forall_mem_cons.mpr ⟨?_, fun _ h => absurd h List.not_mem_nil⟩
  · intro ρ τ Lc stc hx g1 g2 g3 g4 g5 g6 g7 g8
    have e0 : ρ 0 = x0 := hx 0 (by decide)
    have e1 : ρ 1 = x1 := hx 1 (by decide)
    have e2 : ρ 2 = x2 := hx 2 (by decide)
    have e3 : ρ 3 = x3 := hx 3 (by decide)
    have e4 : ρ 4 = x4 := hx 4 (by decide)
    have e5 : ρ 5 = x5 := hx 5 (by decide)
    have e6 : ρ 6 = x6 := hx 6 (by decide)
    have e7 : ρ 7 = x7 := hx 7 (by decide)
    have e8 : ρ 8 = x8 := hx 8 (by decide)
    subst e0
    subst e1
    subst e2
    subst e3
    subst e4
    subst e5
    subst e6
    subst e7
    subst e8
    have g7 := g7 (by decide)
    match Lc, stc, g7, g8 with
    | [v0, v1, v2, v3, v4, v5, v6], [w0, w1, w2], ⟨hv0, hv1, hv2, hv3, hv4, hv5, hv6, _⟩, ⟨hw0, hw1, hw2, _⟩ =>
      cases hv0
      cases hv1
      cases hv2
      cases hv3
      cases hv4
      cases hv5
      cases hv6
      cases hw0
      cases hw1
      cases hw2
      exact l0 τ ρ  g1 g2 g3 g4 g5 g6
set_option maxRecDepth 100000 in
theorem xm_lineE2_s5 {σ : pm_S} {Q : Option Value → pm_S → Prop} (x0 x1 x2 x3 x4 x5 x6 x7 x8 : Int)  (hB : an_GB pm_B σ) (eF : (0 ≤ x0 ∧ x0 ≤ 9999) ∧ (0 ≤ x1 ∧ x1 ≤ 9) ∧ ((-2147483648) ≤ x2 ∧ x2 ≤ 2147483647) ∧ ((-2147483648) ≤ x3 ∧ x3 ≤ 2147483647) ∧ (0 ≤ x4 ∧ x4 ≤ 10) ∧ (0 ≤ x5 ∧ x5 ≤ 10) ∧ (0 ≤ x6 ∧ x6 ≤ 29) ∧ (0 ≤ x7 ∧ x7 ≤ 1) ∧ (1 ≤ x8 ∧ x8 ≤ 1) ∧ True) (eC : (σ.1 93 2).toInt = x4 ∧ (σ.1 93 5).toInt = x5 ∧ (σ.1 93 23).toInt = x6 ∧ True)
    (l0 : ∀ (τ : pm_S) (y : Nat → Int), an_GB pm_B τ → FQ [(93, 0), (93, 23)] σ τ → ((0 ≤ x0 ∧ x0 ≤ 9999) ∧ (0 ≤ x1 ∧ x1 ≤ 9) ∧ ((-2147483648) ≤ x2 ∧ x2 ≤ 2147483647) ∧ ((-2147483648) ≤ x3 ∧ x3 ≤ 2147483647) ∧ (0 ≤ x4 ∧ x4 ≤ 10) ∧ (0 ≤ x5 ∧ x5 ≤ 10) ∧ (0 ≤ x6 ∧ x6 ≤ 29) ∧ (0 ≤ x7 ∧ x7 ≤ 1) ∧ (1 ≤ x8 ∧ x8 ≤ 1) ∧ True) → (True) → (True) → ((τ.1 93 2).toInt = x4 ∧ (τ.1 93 5).toInt = x5 ∧ (τ.1 93 23).toInt = x6 ∧ True) → Ok 239 21 71 [.ref 93, .int (Int32.ofInt (x0)), .int (Int32.ofInt (x1)), .int (Int32.ofInt (x2)), .int (Int32.ofInt (x3)), .int (Int32.ofInt (x8)), .int (Int32.ofInt (x7))] [.int (Int32.ofInt (x3)), .int (Int32.ofInt (x6)), .ref 112] τ Q)
    : Ok 239 21 66 [.ref 93, .int (Int32.ofInt (x0)), .int (Int32.ofInt (x1)), .int (Int32.ofInt (x2)), .int (Int32.ofInt (x3)), .int (Int32.ofInt (x8)), .int (Int32.ofInt (x7))] [] σ Q := by
  refine an_seg (B := pm_B) (F := [(93, 0), (93, 23)]) (T := []) (S := []) (fun _ h => absurd h List.not_mem_nil) (k := 239) (d := 20) (cs := [36, 53, 59, 65, 71]) 7 66 9 [(0, 0, 9999), (1, 0, 9), (2, (-2147483648), 2147483647), (3, (-2147483648), 2147483647), (4, 0, 10), (5, 0, 10), (6, 0, 29), (7, 0, 1), (8, 1, 1)] [(93, (1, 0, 2), (0, 4, 0)), (93, (1, 0, 5), (0, 5, 0)), (93, (1, 0, 23), (0, 6, 0))] [(2, 93, 0), (0, 0, 0), (0, 1, 0), (0, 2, 0), (0, 3, 0), (0, 8, 0), (0, 7, 0)] [] [(71, [(2, 93, 0), (0, 0, 0), (0, 1, 0), (0, 2, 0), (0, 3, 0), (0, 8, 0), (0, 7, 0)], [(0, 3, 0), (0, 6, 0), (2, 112, 0)], [(0, 0, 9999), (1, 0, 9), (2, (-2147483648), 2147483647), (3, (-2147483648), 2147483647), (4, 0, 10), (5, 0, 10), (6, 0, 29), (7, 0, 1), (8, 1, 1)], [], [], [(93, (1, 0, 2), (0, 4, 0)), (93, (1, 0, 5), (0, 5, 0)), (93, (1, 0, 23), (0, 6, 0))])] (by decide +kernel) (ρ0 := (fun s => [x0, x1, x2, x3, x4, x5, x6, x7, x8].getD s 0)) hB eF eC ⟨rfl, ⟨rfl, ⟨rfl, ⟨rfl, ⟨rfl, ⟨rfl, ⟨rfl, trivial⟩⟩⟩⟩⟩⟩⟩ trivial ?_
  refine List.forall_mem_cons.mpr ⟨?_, fun _ h => absurd h List.not_mem_nil⟩
  · intro ρ τ Lc stc hx g1 g2 g3 g4 g5 g6 g7 g8
    have e0 : ρ 0 = x0 := hx 0 (by decide)
    have e1 : ρ 1 = x1 := hx 1 (by decide)
    have e2 : ρ 2 = x2 := hx 2 (by decide)
    have e3 : ρ 3 = x3 := hx 3 (by decide)
    have e4 : ρ 4 = x4 := hx 4 (by decide)
    have e5 : ρ 5 = x5 := hx 5 (by decide)
    have e6 : ρ 6 = x6 := hx 6 (by decide)
    have e7 : ρ 7 = x7 := hx 7 (by decide)
    have e8 : ρ 8 = x8 := hx 8 (by decide)
    subst e0
    subst e1
    subst e2
    subst e3
    subst e4
    subst e5
    subst e6
    subst e7
    subst e8
    have g7 := g7 (by decide)
    match Lc, stc, g7, g8 with
    | [v0, v1, v2, v3, v4, v5, v6], [w0, w1, w2], ⟨hv0, hv1, hv2, hv3, hv4, hv5, hv6, _⟩, ⟨hw0, hw1, hw2, _⟩ =>
      cases hv0
      cases hv1
      cases hv2
      cases hv3
      cases hv4
      cases hv5
      cases hv6
      cases hw0
      cases hw1
      cases hw2
      exact l0 τ ρ  g1 g2 g3 g4 g5 g6
set_option maxRecDepth 100000 in
theorem xm_lineE2_s6 {σ : pm_S} {Q : Option Value → pm_S → Prop} (x0 x1 x2 x3 x4 x5 x6 x7 x8 : Int)  (hB : an_GB pm_B σ) (eF : (0 ≤ x0 ∧ x0 ≤ 9999) ∧ (0 ≤ x1 ∧ x1 ≤ 9) ∧ ((-2147483648) ≤ x2 ∧ x2 ≤ 2147483647) ∧ ((-2147483648) ≤ x3 ∧ x3 ≤ 2147483647) ∧ (0 ≤ x4 ∧ x4 ≤ 10) ∧ (0 ≤ x5 ∧ x5 ≤ 10) ∧ (0 ≤ x6 ∧ x6 ≤ 29) ∧ (0 ≤ x7 ∧ x7 ≤ 1) ∧ (1 ≤ x8 ∧ x8 ≤ 1) ∧ True) (eC : (σ.1 93 2).toInt = x4 ∧ (σ.1 93 5).toInt = x5 ∧ (σ.1 93 23).toInt = x6 ∧ True)
    (l0 : ∀ (τ : pm_S) (y : Nat → Int), an_GB pm_B τ → FQ [(93, 0), (93, 23)] σ τ → ((0 ≤ x0 ∧ x0 ≤ 9999) ∧ (0 ≤ x1 ∧ x1 ≤ 9) ∧ ((-2147483648) ≤ x2 ∧ x2 ≤ 2147483647) ∧ ((-2147483648) ≤ x3 ∧ x3 ≤ 2147483647) ∧ (0 ≤ x4 ∧ x4 ≤ 10) ∧ (0 ≤ x5 ∧ x5 ≤ 10) ∧ (0 ≤ x6 ∧ x6 ≤ 29) ∧ (0 ≤ x7 ∧ x7 ≤ 1) ∧ (1 ≤ x8 ∧ x8 ≤ 1) ∧ True) → (True) → (True) → ((τ.1 93 2).toInt = x4 ∧ (τ.1 93 5).toInt = x5 ∧ (τ.1 93 23).toInt = x6 + 1 ∧ True) → Q (some (.int (Int32.ofInt (x6)))) τ)
    : Ok 239 21 72 [.ref 93, .int (Int32.ofInt (x0)), .int (Int32.ofInt (x1)), .int (Int32.ofInt (x2)), .int (Int32.ofInt (x3)), .int (Int32.ofInt (x8)), .int (Int32.ofInt (x7))] [] σ Q := by
  refine an_seg (B := pm_B) (F := [(93, 0), (93, 23)]) (T := []) (S := []) (fun _ h => absurd h List.not_mem_nil) (k := 239) (d := 20) (cs := [36, 53, 59, 65, 71]) 13 72 9 [(0, 0, 9999), (1, 0, 9), (2, (-2147483648), 2147483647), (3, (-2147483648), 2147483647), (4, 0, 10), (5, 0, 10), (6, 0, 29), (7, 0, 1), (8, 1, 1)] [(93, (1, 0, 2), (0, 4, 0)), (93, (1, 0, 5), (0, 5, 0)), (93, (1, 0, 23), (0, 6, 0))] [(2, 93, 0), (0, 0, 0), (0, 1, 0), (0, 2, 0), (0, 3, 0), (0, 8, 0), (0, 7, 0)] [] [(9999, [], [(0, 6, 0)], [(0, 0, 9999), (1, 0, 9), (2, (-2147483648), 2147483647), (3, (-2147483648), 2147483647), (4, 0, 10), (5, 0, 10), (6, 0, 29), (7, 0, 1), (8, 1, 1)], [], [], [(93, (1, 0, 2), (0, 4, 0)), (93, (1, 0, 5), (0, 5, 0)), (93, (1, 0, 23), (0, 6, 1))])] (by decide +kernel) (ρ0 := (fun s => [x0, x1, x2, x3, x4, x5, x6, x7, x8].getD s 0)) hB eF eC ⟨rfl, ⟨rfl, ⟨rfl, ⟨rfl, ⟨rfl, ⟨rfl, ⟨rfl, trivial⟩⟩⟩⟩⟩⟩⟩ trivial ?_
  refine List.forall_mem_cons.mpr ⟨?_, fun _ h => absurd h List.not_mem_nil⟩
  · intro ρ τ Lc stc hx g1 g2 g3 g4 g5 g6 g7 g8
    have e0 : ρ 0 = x0 := hx 0 (by decide)
    have e1 : ρ 1 = x1 := hx 1 (by decide)
    have e2 : ρ 2 = x2 := hx 2 (by decide)
    have e3 : ρ 3 = x3 := hx 3 (by decide)
    have e4 : ρ 4 = x4 := hx 4 (by decide)
    have e5 : ρ 5 = x5 := hx 5 (by decide)
    have e6 : ρ 6 = x6 := hx 6 (by decide)
    have e7 : ρ 7 = x7 := hx 7 (by decide)
    have e8 : ρ 8 = x8 := hx 8 (by decide)
    subst e0
    subst e1
    subst e2
    subst e3
    subst e4
    subst e5
    subst e6
    subst e7
    subst e8
    match stc, g8 with
    | [_], ⟨h, _⟩ => cases h; exact l0 τ ρ g1 g2 g3 g4 g5 g6
set_option maxRecDepth 100000 in
theorem xm_lineE2_s7 {σ : pm_S} {Q : Option Value → pm_S → Prop} (x0 x1 x2 x3 x4 x5 x6 x7 x8 : Int)  (hB : an_GB pm_B σ) (eF : (0 ≤ x0 ∧ x0 ≤ 9999) ∧ (0 ≤ x1 ∧ x1 ≤ 9) ∧ ((-2147483648) ≤ x2 ∧ x2 ≤ 2147483647) ∧ ((-2147483648) ≤ x3 ∧ x3 ≤ 2147483647) ∧ (0 ≤ x4 ∧ x4 ≤ 10) ∧ (0 ≤ x5 ∧ x5 ≤ 10) ∧ (0 ≤ x6 ∧ x6 ≤ 29) ∧ (1 ≤ x7 ∧ x7 ≤ 1) ∧ (0 ≤ x8 ∧ x8 ≤ 0) ∧ True) (eC : (σ.1 93 2).toInt = x4 ∧ (σ.1 93 5).toInt = x5 ∧ (σ.1 93 23).toInt = x6 ∧ True)
    (l0 : ∀ (τ : pm_S) (y : Nat → Int), an_GB pm_B τ → FQ [(93, 0), (93, 23)] σ τ → ((0 ≤ x0 ∧ x0 ≤ 9999) ∧ (0 ≤ x1 ∧ x1 ≤ 9) ∧ ((-2147483648) ≤ x2 ∧ x2 ≤ 2147483647) ∧ ((-2147483648) ≤ x3 ∧ x3 ≤ 2147483647) ∧ (0 ≤ x4 ∧ x4 ≤ 10) ∧ (0 ≤ x5 ∧ x5 ≤ 10) ∧ (0 ≤ x6 ∧ x6 ≤ 29) ∧ (1 ≤ x7 ∧ x7 ≤ 1) ∧ (0 ≤ x8 ∧ x8 ≤ 0) ∧ True) → (True) → (True) → ((τ.1 93 2).toInt = x4 ∧ (τ.1 93 5).toInt = x5 ∧ (τ.1 93 23).toInt = x6 ∧ True) → Ok 239 21 59 [.ref 93, .int (Int32.ofInt (x0)), .int (Int32.ofInt (x1)), .int (Int32.ofInt (x2)), .int (Int32.ofInt (x3)), .int (Int32.ofInt (x8)), .int (Int32.ofInt (x7))] [.int (Int32.ofInt (x1)), .int (Int32.ofInt (x6)), .ref 110] τ Q)
    : Ok 239 21 54 [.ref 93, .int (Int32.ofInt (x0)), .int (Int32.ofInt (x1)), .int (Int32.ofInt (x2)), .int (Int32.ofInt (x3)), .int (Int32.ofInt (x8)), .int (Int32.ofInt (x7))] [] σ Q := by
  refine an_seg (B := pm_B) (F := [(93, 0), (93, 23)]) (T := []) (S := []) (fun _ h => absurd h List.not_mem_nil) (k := 239) (d := 20) (cs := [36, 53, 59, 65, 71]) 7 54 9 [(0, 0, 9999), (1, 0, 9), (2, (-2147483648), 2147483647), (3, (-2147483648), 2147483647), (4, 0, 10), (5, 0, 10), (6, 0, 29), (7, 1, 1), (8, 0, 0)] [(93, (1, 0, 2), (0, 4, 0)), (93, (1, 0, 5), (0, 5, 0)), (93, (1, 0, 23), (0, 6, 0))] [(2, 93, 0), (0, 0, 0), (0, 1, 0), (0, 2, 0), (0, 3, 0), (0, 8, 0), (0, 7, 0)] [] [(59, [(2, 93, 0), (0, 0, 0), (0, 1, 0), (0, 2, 0), (0, 3, 0), (0, 8, 0), (0, 7, 0)], [(0, 1, 0), (0, 6, 0), (2, 110, 0)], [(0, 0, 9999), (1, 0, 9), (2, (-2147483648), 2147483647), (3, (-2147483648), 2147483647), (4, 0, 10), (5, 0, 10), (6, 0, 29), (7, 1, 1), (8, 0, 0)], [], [], [(93, (1, 0, 2), (0, 4, 0)), (93, (1, 0, 5), (0, 5, 0)), (93, (1, 0, 23), (0, 6, 0))])] (by decide +kernel) (ρ0 := (fun s => [x0, x1, x2, x3, x4, x5, x6, x7, x8].getD s 0)) hB eF eC ⟨rfl, ⟨rfl, ⟨rfl, ⟨rfl, ⟨rfl, ⟨rfl, ⟨rfl, trivial⟩⟩⟩⟩⟩⟩⟩ trivial ?_
  refine List.forall_mem_cons.mpr ⟨?_, fun _ h => absurd h List.not_mem_nil⟩
  · intro ρ τ Lc stc hx g1 g2 g3 g4 g5 g6 g7 g8
    have e0 : ρ 0 = x0 := hx 0 (by decide)
    have e1 : ρ 1 = x1 := hx 1 (by decide)
    have e2 : ρ 2 = x2 := hx 2 (by decide)
    have e3 : ρ 3 = x3 := hx 3 (by decide)
    have e4 : ρ 4 = x4 := hx 4 (by decide)
    have e5 : ρ 5 = x5 := hx 5 (by decide)
    have e6 : ρ 6 = x6 := hx 6 (by decide)
    have e7 : ρ 7 = x7 := hx 7 (by decide)
    have e8 : ρ 8 = x8 := hx 8 (by decide)
    subst e0
    subst e1
    subst e2
    subst e3
    subst e4
    subst e5
    subst e6
    subst e7
    subst e8
    have g7 := g7 (by decide)
    match Lc, stc, g7, g8 with
    | [v0, v1, v2, v3, v4, v5, v6], [w0, w1, w2], ⟨hv0, hv1, hv2, hv3, hv4, hv5, hv6, _⟩, ⟨hw0, hw1, hw2, _⟩ =>
      cases hv0
      cases hv1
      cases hv2
      cases hv3
      cases hv4
      cases hv5
      cases hv6
      cases hw0
      cases hw1
      cases hw2
      exact l0 τ ρ  g1 g2 g3 g4 g5 g6
set_option maxRecDepth 100000 in
theorem xm_lineE2_s8 {σ : pm_S} {Q : Option Value → pm_S → Prop} (x0 x1 x2 x3 x4 x5 x6 x7 x8 : Int)  (hB : an_GB pm_B σ) (eF : (0 ≤ x0 ∧ x0 ≤ 9999) ∧ (0 ≤ x1 ∧ x1 ≤ 9) ∧ ((-2147483648) ≤ x2 ∧ x2 ≤ 2147483647) ∧ ((-2147483648) ≤ x3 ∧ x3 ≤ 2147483647) ∧ (0 ≤ x4 ∧ x4 ≤ 10) ∧ (0 ≤ x5 ∧ x5 ≤ 10) ∧ (0 ≤ x6 ∧ x6 ≤ 29) ∧ (1 ≤ x7 ∧ x7 ≤ 1) ∧ (0 ≤ x8 ∧ x8 ≤ 0) ∧ True) (eC : (σ.1 93 2).toInt = x4 ∧ (σ.1 93 5).toInt = x5 ∧ (σ.1 93 23).toInt = x6 ∧ True)
    (l0 : ∀ (τ : pm_S) (y : Nat → Int), an_GB pm_B τ → FQ [(93, 0), (93, 23)] σ τ → ((0 ≤ x0 ∧ x0 ≤ 9999) ∧ (0 ≤ x1 ∧ x1 ≤ 9) ∧ ((-2147483648) ≤ x2 ∧ x2 ≤ 2147483647) ∧ ((-2147483648) ≤ x3 ∧ x3 ≤ 2147483647) ∧ (0 ≤ x4 ∧ x4 ≤ 10) ∧ (0 ≤ x5 ∧ x5 ≤ 10) ∧ (0 ≤ x6 ∧ x6 ≤ 29) ∧ (1 ≤ x7 ∧ x7 ≤ 1) ∧ (0 ≤ x8 ∧ x8 ≤ 0) ∧ True) → (True) → (True) → ((τ.1 93 2).toInt = x4 ∧ (τ.1 93 5).toInt = x5 ∧ (τ.1 93 23).toInt = x6 ∧ True) → Ok 239 21 65 [.ref 93, .int (Int32.ofInt (x0)), .int (Int32.ofInt (x1)), .int (Int32.ofInt (x2)), .int (Int32.ofInt (x3)), .int (Int32.ofInt (x8)), .int (Int32.ofInt (x7))] [.int (Int32.ofInt (x2)), .int (Int32.ofInt (x6)), .ref 111] τ Q)
    : Ok 239 21 60 [.ref 93, .int (Int32.ofInt (x0)), .int (Int32.ofInt (x1)), .int (Int32.ofInt (x2)), .int (Int32.ofInt (x3)), .int (Int32.ofInt (x8)), .int (Int32.ofInt (x7))] [] σ Q := by
  refine an_seg (B := pm_B) (F := [(93, 0), (93, 23)]) (T := []) (S := []) (fun _ h => absurd h List.not_mem_nil) (k := 239) (d := 20) (cs := [36, 53, 59, 65, 71]) 7 60 9 [(0, 0, 9999), (1, 0, 9), (2, (-2147483648), 2147483647), (3, (-2147483648), 2147483647), (4, 0, 10), (5, 0, 10), (6, 0, 29), (7, 1, 1), (8, 0, 0)] [(93, (1, 0, 2), (0, 4, 0)), (93, (1, 0, 5), (0, 5, 0)), (93, (1, 0, 23), (0, 6, 0))] [(2, 93, 0), (0, 0, 0), (0, 1, 0), (0, 2, 0), (0, 3, 0), (0, 8, 0), (0, 7, 0)] [] [(65, [(2, 93, 0), (0, 0, 0), (0, 1, 0), (0, 2, 0), (0, 3, 0), (0, 8, 0), (0, 7, 0)], [(0, 2, 0), (0, 6, 0), (2, 111, 0)], [(0, 0, 9999), (1, 0, 9), (2, (-2147483648), 2147483647), (3, (-2147483648), 2147483647), (4, 0, 10), (5, 0, 10), (6, 0, 29), (7, 1, 1), (8, 0, 0)], [], [], [(93, (1, 0, 2), (0, 4, 0)), (93, (1, 0, 5), (0, 5, 0)), (93, (1, 0, 23), (0, 6, 0))])] (by decide +kernel) (ρ0 := (fun s => [x0, x1, x2, x3, x4, x5, x6, x7, x8].getD s 0)) hB eF eC ⟨rfl, ⟨rfl, ⟨rfl, ⟨rfl, ⟨rfl, ⟨rfl, ⟨rfl, trivial⟩⟩⟩⟩⟩⟩⟩ trivial ?_
  refine List.forall_mem_cons.mpr ⟨?_, fun _ h => absurd h List.not_mem_nil⟩
  · intro ρ τ Lc stc hx g1 g2 g3 g4 g5 g6 g7 g8
    have e0 : ρ 0 = x0 := hx 0 (by decide)
    have e1 : ρ 1 = x1 := hx 1 (by decide)
    have e2 : ρ 2 = x2 := hx 2 (by decide)
    have e3 : ρ 3 = x3 := hx 3 (by decide)
    have e4 : ρ 4 = x4 := hx 4 (by decide)
    have e5 : ρ 5 = x5 := hx 5 (by decide)
    have e6 : ρ 6 = x6 := hx 6 (by decide)
    have e7 : ρ 7 = x7 := hx 7 (by decide)
    have e8 : ρ 8 = x8 := hx 8 (by decide)
    subst e0
    subst e1
    subst e2
    subst e3
    subst e4
    subst e5
    subst e6
    subst e7
    subst e8
    have g7 := g7 (by decide)
    match Lc, stc, g7, g8 with
    | [v0, v1, v2, v3, v4, v5, v6], [w0, w1, w2], ⟨hv0, hv1, hv2, hv3, hv4, hv5, hv6, _⟩, ⟨hw0, hw1, hw2, _⟩ =>
      cases hv0
      cases hv1
      cases hv2
      cases hv3
      cases hv4
      cases hv5
      cases hv6
      cases hw0
      cases hw1
      cases hw2
      exact l0 τ ρ  g1 g2 g3 g4 g5 g6
set_option maxRecDepth 100000 in
theorem xm_lineE2_s9 {σ : pm_S} {Q : Option Value → pm_S → Prop} (x0 x1 x2 x3 x4 x5 x6 x7 x8 : Int)  (hB : an_GB pm_B σ) (eF : (0 ≤ x0 ∧ x0 ≤ 9999) ∧ (0 ≤ x1 ∧ x1 ≤ 9) ∧ ((-2147483648) ≤ x2 ∧ x2 ≤ 2147483647) ∧ ((-2147483648) ≤ x3 ∧ x3 ≤ 2147483647) ∧ (0 ≤ x4 ∧ x4 ≤ 10) ∧ (0 ≤ x5 ∧ x5 ≤ 10) ∧ (0 ≤ x6 ∧ x6 ≤ 29) ∧ (1 ≤ x7 ∧ x7 ≤ 1) ∧ (0 ≤ x8 ∧ x8 ≤ 0) ∧ True) (eC : (σ.1 93 2).toInt = x4 ∧ (σ.1 93 5).toInt = x5 ∧ (σ.1 93 23).toInt = x6 ∧ True)
    (l0 : ∀ (τ : pm_S) (y : Nat → Int), an_GB pm_B τ → FQ [(93, 0), (93, 23)] σ τ → ((0 ≤ x0 ∧ x0 ≤ 9999) ∧ (0 ≤ x1 ∧ x1 ≤ 9) ∧ ((-2147483648) ≤ x2 ∧ x2 ≤ 2147483647) ∧ ((-2147483648) ≤ x3 ∧ x3 ≤ 2147483647) ∧ (0 ≤ x4 ∧ x4 ≤ 10) ∧ (0 ≤ x5 ∧ x5 ≤ 10) ∧ (0 ≤ x6 ∧ x6 ≤ 29) ∧ (1 ≤ x7 ∧ x7 ≤ 1) ∧ (0 ≤ x8 ∧ x8 ≤ 0) ∧ True) → (True) → (True) → ((τ.1 93 2).toInt = x4 ∧ (τ.1 93 5).toInt = x5 ∧ (τ.1 93 23).toInt = x6 ∧ True) → Ok 239 21 71 [.ref 93, .int (Int32.ofInt (x0)), .int (Int32.ofInt (x1)), .int (Int32.ofInt (x2)), .int (Int32.ofInt (x3)), .int (Int32.ofInt (x8)), .int (Int32.ofInt (x7))] [.int (Int32.ofInt (x3)), .int (Int32.ofInt (x6)), .ref 112] τ Q)
    : Ok 239 21 66 [.ref 93, .int (Int32.ofInt (x0)), .int (Int32.ofInt (x1)), .int (Int32.ofInt (x2)), .int (Int32.ofInt (x3)), .int (Int32.ofInt (x8)), .int (Int32.ofInt (x7))] [] σ Q := by
  refine an_seg (B := pm_B) (F := [(93, 0), (93, 23)]) (T := []) (S := []) (fun _ h => absurd h List.not_mem_nil) (k := 239) (d := 20) (cs := [36, 53, 59, 65, 71]) 7 66 9 [(0, 0, 9999), (1, 0, 9), (2, (-2147483648), 2147483647), (3, (-2147483648), 2147483647), (4, 0, 10), (5, 0, 10), (6, 0, 29), (7, 1, 1), (8, 0, 0)] [(93, (1, 0, 2), (0, 4, 0)), (93, (1, 0, 5), (0, 5, 0)), (93, (1, 0, 23), (0, 6, 0))] [(2, 93, 0), (0, 0, 0), (0, 1, 0), (0, 2, 0), (0, 3, 0), (0, 8, 0), (0, 7, 0)] [] [(71, [(2, 93, 0), (0, 0, 0), (0, 1, 0), (0, 2, 0), (0, 3, 0), (0, 8, 0), (0, 7, 0)], [(0, 3, 0), (0, 6, 0), (2, 112, 0)], [(0, 0, 9999), (1, 0, 9), (2, (-2147483648), 2147483647), (3, (-2147483648), 2147483647), (4, 0, 10), (5, 0, 10), (6, 0, 29), (7, 1, 1), (8, 0, 0)], [], [], [(93, (1, 0, 2), (0, 4, 0)), (93, (1, 0, 5), (0, 5, 0)), (93, (1, 0, 23), (0, 6, 0))])] (by decide +kernel) (ρ0 := (fun s => [x0, x1, x2, x3, x4, x5, x6, x7, x8].getD s 0)) hB eF eC ⟨rfl, ⟨rfl, ⟨rfl, ⟨rfl, ⟨rfl, ⟨rfl, ⟨rfl, trivial⟩⟩⟩⟩⟩⟩⟩ trivial ?_
  refine List.forall_mem_cons.mpr ⟨?_, fun _ h => absurd h List.not_mem_nil⟩
  · intro ρ τ Lc stc hx g1 g2 g3 g4 g5 g6 g7 g8
    have e0 : ρ 0 = x0 := hx 0 (by decide)
    have e1 : ρ 1 = x1 := hx 1 (by decide)
    have e2 : ρ 2 = x2 := hx 2 (by decide)
    have e3 : ρ 3 = x3 := hx 3 (by decide)
    have e4 : ρ 4 = x4 := hx 4 (by decide)
    have e5 : ρ 5 = x5 := hx 5 (by decide)
    have e6 : ρ 6 = x6 := hx 6 (by decide)
    have e7 : ρ 7 = x7 := hx 7 (by decide)
    have e8 : ρ 8 = x8 := hx 8 (by decide)
    subst e0
    subst e1
    subst e2
    subst e3
    subst e4
    subst e5
    subst e6
    subst e7
    subst e8
    have g7 := g7 (by decide)
    match Lc, stc, g7, g8 with
    | [v0, v1, v2, v3, v4, v5, v6], [w0, w1, w2], ⟨hv0, hv1, hv2, hv3, hv4, hv5, hv6, _⟩, ⟨hw0, hw1, hw2, _⟩ =>
      cases hv0
      cases hv1
      cases hv2
      cases hv3
      cases hv4
      cases hv5
      cases hv6
      cases hw0
      cases hw1
      cases hw2
      exact l0 τ ρ  g1 g2 g3 g4 g5 g6
set_option maxRecDepth 100000 in
theorem xm_lineE2_s10 {σ : pm_S} {Q : Option Value → pm_S → Prop} (x0 x1 x2 x3 x4 x5 x6 x7 x8 : Int)  (hB : an_GB pm_B σ) (eF : (0 ≤ x0 ∧ x0 ≤ 9999) ∧ (0 ≤ x1 ∧ x1 ≤ 9) ∧ ((-2147483648) ≤ x2 ∧ x2 ≤ 2147483647) ∧ ((-2147483648) ≤ x3 ∧ x3 ≤ 2147483647) ∧ (0 ≤ x4 ∧ x4 ≤ 10) ∧ (0 ≤ x5 ∧ x5 ≤ 10) ∧ (0 ≤ x6 ∧ x6 ≤ 29) ∧ (1 ≤ x7 ∧ x7 ≤ 1) ∧ (0 ≤ x8 ∧ x8 ≤ 0) ∧ True) (eC : (σ.1 93 2).toInt = x4 ∧ (σ.1 93 5).toInt = x5 ∧ (σ.1 93 23).toInt = x6 ∧ True)
    (l0 : ∀ (τ : pm_S) (y : Nat → Int), an_GB pm_B τ → FQ [(93, 0), (93, 23)] σ τ → ((0 ≤ x0 ∧ x0 ≤ 9999) ∧ (0 ≤ x1 ∧ x1 ≤ 9) ∧ ((-2147483648) ≤ x2 ∧ x2 ≤ 2147483647) ∧ ((-2147483648) ≤ x3 ∧ x3 ≤ 2147483647) ∧ (0 ≤ x4 ∧ x4 ≤ 10) ∧ (0 ≤ x5 ∧ x5 ≤ 10) ∧ (0 ≤ x6 ∧ x6 ≤ 29) ∧ (1 ≤ x7 ∧ x7 ≤ 1) ∧ (0 ≤ x8 ∧ x8 ≤ 0) ∧ True) → (True) → (True) → ((τ.1 93 2).toInt = x4 ∧ (τ.1 93 5).toInt = x5 ∧ (τ.1 93 23).toInt = x6 + 1 ∧ True) → Q (some (.int (Int32.ofInt (x6)))) τ)
    : Ok 239 21 72 [.ref 93, .int (Int32.ofInt (x0)), .int (Int32.ofInt (x1)), .int (Int32.ofInt (x2)), .int (Int32.ofInt (x3)), .int (Int32.ofInt (x8)), .int (Int32.ofInt (x7))] [] σ Q := by
  refine an_seg (B := pm_B) (F := [(93, 0), (93, 23)]) (T := []) (S := []) (fun _ h => absurd h List.not_mem_nil) (k := 239) (d := 20) (cs := [36, 53, 59, 65, 71]) 13 72 9 [(0, 0, 9999), (1, 0, 9), (2, (-2147483648), 2147483647), (3, (-2147483648), 2147483647), (4, 0, 10), (5, 0, 10), (6, 0, 29), (7, 1, 1), (8, 0, 0)] [(93, (1, 0, 2), (0, 4, 0)), (93, (1, 0, 5), (0, 5, 0)), (93, (1, 0, 23), (0, 6, 0))] [(2, 93, 0), (0, 0, 0), (0, 1, 0), (0, 2, 0), (0, 3, 0), (0, 8, 0), (0, 7, 0)] [] [(9999, [], [(0, 6, 0)], [(0, 0, 9999), (1, 0, 9), (2, (-2147483648), 2147483647), (3, (-2147483648), 2147483647), (4, 0, 10), (5, 0, 10), (6, 0, 29), (7, 1, 1), (8, 0, 0)], [], [], [(93, (1, 0, 2), (0, 4, 0)), (93, (1, 0, 5), (0, 5, 0)), (93, (1, 0, 23), (0, 6, 1))])] (by decide +kernel) (ρ0 := (fun s => [x0, x1, x2, x3, x4, x5, x6, x7, x8].getD s 0)) hB eF eC ⟨rfl, ⟨rfl, ⟨rfl, ⟨rfl, ⟨rfl, ⟨rfl, ⟨rfl, trivial⟩⟩⟩⟩⟩⟩⟩ trivial ?_
  refine List.forall_mem_cons.mpr ⟨?_, fun _ h => absurd h List.not_mem_nil⟩
  · intro ρ τ Lc stc hx g1 g2 g3 g4 g5 g6 g7 g8
    have e0 : ρ 0 = x0 := hx 0 (by decide)
    have e1 : ρ 1 = x1 := hx 1 (by decide)
    have e2 : ρ 2 = x2 := hx 2 (by decide)
    have e3 : ρ 3 = x3 := hx 3 (by decide)
    have e4 : ρ 4 = x4 := hx 4 (by decide)
    have e5 : ρ 5 = x5 := hx 5 (by decide)
    have e6 : ρ 6 = x6 := hx 6 (by decide)
    have e7 : ρ 7 = x7 := hx 7 (by decide)
    have e8 : ρ 8 = x8 := hx 8 (by decide)
    subst e0
    subst e1
    subst e2
    subst e3
    subst e4
    subst e5
    subst e6
    subst e7
    subst e8
    match stc, g8 with
    | [_], ⟨h, _⟩ => cases h; exact l0 τ ρ g1 g2 g3 g4 g5 g6
set_option maxRecDepth 20000 in
theorem xm_lineE2 {σ : pm_S} (x0 x1 x2 x3 x4 x5 x6 x7 x8 : Int) (hB : an_GB pm_B σ) (g0 : (-2147483648) ≤ x0 ∧ x0 ≤ 2147483647) (g1 : (-2147483648) ≤ x1 ∧ x1 ≤ 2147483647) (g2 : (-2147483648) ≤ x2 ∧ x2 ≤ 2147483647) (g3 : (-2147483648) ≤ x3 ∧ x3 ≤ 2147483647) (g4 : 0 ≤ x4 ∧ x4 ≤ 10) (g5 : 0 ≤ x5 ∧ x5 ≤ 10) (g6 : 0 ≤ x6 ∧ x6 ≤ 30) (g7 : 0 ≤ x7 ∧ x7 ≤ 1) (g8 : 0 ≤ x8 ∧ x8 ≤ 1) (e0 : (σ.1 93 2).toInt = x4) (e1 : (σ.1 93 5).toInt = x5) (e2 : (σ.1 93 23).toInt = x6) (hx : x7 = 1 ∨ x8 = 1 → ((-1) ≤ x2 ∧ x2 ≤ 9) ∧ ((-1) ≤ x3 ∧ x3 ≤ 9)) : Ok 239 21 28 [.ref 93, .int (Int32.ofInt (x0)), .int (Int32.ofInt (x1)), .int (Int32.ofInt (x2)), .int (Int32.ofInt (x3)), .int (Int32.ofInt (x8)), .int (Int32.ofInt (x7))] [] σ (fun r τ => an_GB pm_B τ ∧ ((¬ (0 ≤ x0 ∧ x0 ≤ 9999 ∧ 0 ≤ x1 ∧ x1 < x5 ∧ (x7 = 1 ∨ x8 = 1) ∧ x6 ≤ 29) ∧ r = some (.int (Int32.ofInt (-1))) ∧ (τ.1 93 23).toInt = x6 ∧ puF [(93, 0), (93, 23)] [] σ τ) ∨ ((0 ≤ x0 ∧ x0 ≤ 9999 ∧ 0 ≤ x1 ∧ x1 < x5 ∧ (x7 = 1 ∨ x8 = 1) ∧ x6 ≤ 29) ∧ r = some (.int (Int32.ofInt (x6))) ∧ (τ.1 93 23).toInt = x6 + 1 ∧ puF [(93, 0), (93, 23)] [(112, (x6).toNat, Int32.ofInt (x3)), (111, (x6).toNat, Int32.ofInt (x2)), (110, (x6).toNat, Int32.ofInt (x1)), (109, (x6).toNat, Int32.ofInt (x0))] σ τ))) := by
  refine xm_lineE2_s0 x0 x1 x2 x3 x4 x5 x6 x7 x8 hB ⟨by omega, by omega, by omega, by omega, by omega, by omega, by omega, by omega, by omega, trivial⟩ ⟨e0, e1, e2, trivial⟩ ?_ ?_ ?_
  · intro τ1 y1  hB1 hF1 f1 rr1 _ c1
    obtain ⟨f1_0, f1_1, f1_2, f1_3, f1_4, f1_5, f1_6, f1_7, f1_8, -⟩ := f1
    obtain ⟨c1_0, c1_1, c1_2, -⟩ := c1
    have hG1 : puF [(93, 0), (93, 23)] [] σ τ1 := puF.fq rfl (puF.rf _ _) hF1
    exact ⟨hB1, Or.inl ⟨by omega, rfl, c1_2, hG1⟩⟩
  · intro τ2 y2  hB2 hF2 f2 rr2 _ c2
    obtain ⟨f2_0, f2_1, f2_2, f2_3, f2_4, f2_5, f2_6, f2_7, f2_8, -⟩ := f2
    obtain ⟨c2_0, c2_1, c2_2, -⟩ := c2
    have hG2 : puF [(93, 0), (93, 23)] [] σ τ2 := puF.fq rfl (puF.rf _ _) hF2
    exact ⟨hB2, Or.inl ⟨by omega, rfl, c2_2, hG2⟩⟩
  · intro τ3 y3  hB3 hF3 f3 rr3 _ c3
    obtain ⟨f3_0, f3_1, f3_2, f3_3, f3_4, f3_5, f3_6, f3_7, f3_8, -⟩ := f3
    obtain ⟨c3_0, c3_1, c3_2, -⟩ := c3
    have hG3 : puF [(93, 0), (93, 23)] [] σ τ3 := puF.fq rfl (puF.rf _ _) hF3
    refine Ok.cv rfl rfl rfl rfl rfl rfl rfl ?_
    refine (x_h164 (x1) (x5) hB3 (by omega) c3_1).use (by decide) (fun r4 τ4 q4 => ?_)
    obtain ⟨hB4, hF4, ⟨q4, rfl, d4⟩ | ⟨q4, rfl, d4⟩⟩ := q4
    · have hG4 : puF [(93, 0), (93, 23)] [] σ τ4 := puF.fq rfl hG3 hF4
      have e4_93_2 : (τ4.1 93 2).toInt = x4 := (congrArg Int32.toInt (show τ4.1 93 2 = τ3.1 93 2 from hF4 93 2 rfl)).trans c3_0
      have e4_93_5 : (τ4.1 93 5).toInt = x5 := (congrArg Int32.toInt (show τ4.1 93 5 = τ3.1 93 5 from hF4 93 5 rfl)).trans c3_1
      have e4_93_23 : (τ4.1 93 23).toInt = x6 := (congrArg Int32.toInt (show τ4.1 93 23 = τ3.1 93 23 from hF4 93 23 rfl)).trans c3_2
      refine xm_lineE2_s1 x0 x1 x2 x3 x4 x5 x6 x7 x8 hB4 ⟨by omega, by omega, by omega, by omega, by omega, by omega, by omega, by omega, by omega, trivial⟩ ⟨e4_93_2, e4_93_5, e4_93_23, trivial⟩ ?_
      · intro τ5 y5  hB5 hF5 f5 rr5 _ c5
        obtain ⟨f5_0, f5_1, f5_2, f5_3, f5_4, f5_5, f5_6, f5_7, f5_8, -⟩ := f5
        obtain ⟨c5_0, c5_1, c5_2, -⟩ := c5
        have hG5 : puF [(93, 0), (93, 23)] [] σ τ5 := puF.fq rfl hG4 hF5
        exact ⟨hB5, Or.inl ⟨by omega, rfl, c5_2, hG5⟩⟩
    · have hG4 : puF [(93, 0), (93, 23)] [] σ τ4 := puF.fq rfl hG3 hF4
      have e4_93_2 : (τ4.1 93 2).toInt = x4 := (congrArg Int32.toInt (show τ4.1 93 2 = τ3.1 93 2 from hF4 93 2 rfl)).trans c3_0
      have e4_93_5 : (τ4.1 93 5).toInt = x5 := (congrArg Int32.toInt (show τ4.1 93 5 = τ3.1 93 5 from hF4 93 5 rfl)).trans c3_1
      have e4_93_23 : (τ4.1 93 23).toInt = x6 := (congrArg Int32.toInt (show τ4.1 93 23 = τ3.1 93 23 from hF4 93 23 rfl)).trans c3_2
      refine xm_lineE2_s2 x0 x1 x2 x3 x4 x5 x6 x7 x8 hB4 ⟨by omega, by omega, by omega, by omega, by omega, by omega, by omega, by omega, by omega, trivial⟩ ⟨e4_93_2, e4_93_5, e4_93_23, trivial⟩ ?_ ?_ ?_ ?_ ?_
      · intro τ6 y6  hB6 hF6 f6 rr6 _ c6
        obtain ⟨f6_0, f6_1, f6_2, f6_3, f6_4, f6_5, f6_6, f6_7, f6_8, -⟩ := f6
        obtain ⟨c6_0, c6_1, c6_2, -⟩ := c6
        have hG6 : puF [(93, 0), (93, 23)] [] σ τ6 := puF.fq rfl hG4 hF6
        refine Ok.ast (n := 30) rfl rfl rfl (by decide) (by omega) (by omega) ?_
        have hG7 : puF [(93, 0), (93, 23)] [(109, (x6).toNat, Int32.ofInt (x0))] σ (put τ6 109 (x6).toNat (Int32.ofInt (x0))) := puF.put hG6
        have hB7 : an_GB pm_B (put τ6 109 (x6).toNat (Int32.ofInt (x0))) := put_GB hB6 (by
          show ((-2147483648) : Int) ≤ (Int32.ofInt (x0)).toInt ∧ (Int32.ofInt (x0)).toInt ≤ 2147483647
          rw [ti_of (by omega) (by omega)]
          omega)
        have e7_93_2 : ((put τ6 109 (x6).toNat (Int32.ofInt (x0))).1 93 2).toInt = x4 := (congrArg Int32.toInt (put_nr (by decide))).trans c6_0
        have e7_93_5 : ((put τ6 109 (x6).toNat (Int32.ofInt (x0))).1 93 5).toInt = x5 := (congrArg Int32.toInt (put_nr (by decide))).trans c6_1
        have e7_93_23 : ((put τ6 109 (x6).toNat (Int32.ofInt (x0))).1 93 23).toInt = x6 := (congrArg Int32.toInt (put_nr (by decide))).trans c6_2
        refine xm_lineE2_s3 x0 x1 x2 x3 x4 x5 x6 x7 x8 hB7 ⟨by omega, by omega, by omega, by omega, by omega, by omega, by omega, by omega, by omega, trivial⟩ ⟨e7_93_2, e7_93_5, e7_93_23, trivial⟩ ?_
        · intro τ8 y8  hB8 hF8 f8 rr8 _ c8
          obtain ⟨f8_0, f8_1, f8_2, f8_3, f8_4, f8_5, f8_6, f8_7, f8_8, -⟩ := f8
          obtain ⟨c8_0, c8_1, c8_2, -⟩ := c8
          have hG8 : puF [(93, 0), (93, 23)] [(109, (x6).toNat, Int32.ofInt (x0))] σ τ8 := puF.fq rfl hG7 hF8
          refine Ok.ast (n := 30) rfl rfl rfl (by decide) (by omega) (by omega) ?_
          have hG9 : puF [(93, 0), (93, 23)] [(110, (x6).toNat, Int32.ofInt (x1)), (109, (x6).toNat, Int32.ofInt (x0))] σ (put τ8 110 (x6).toNat (Int32.ofInt (x1))) := puF.put hG8
          have hB9 : an_GB pm_B (put τ8 110 (x6).toNat (Int32.ofInt (x1))) := put_GB hB8 (by
            show (0 : Int) ≤ (Int32.ofInt (x1)).toInt ∧ (Int32.ofInt (x1)).toInt ≤ 9
            rw [ti_of (by omega) (by omega)]
            omega)
          have e9_93_2 : ((put τ8 110 (x6).toNat (Int32.ofInt (x1))).1 93 2).toInt = x4 := (congrArg Int32.toInt (put_nr (by decide))).trans c8_0
          have e9_93_5 : ((put τ8 110 (x6).toNat (Int32.ofInt (x1))).1 93 5).toInt = x5 := (congrArg Int32.toInt (put_nr (by decide))).trans c8_1
          have e9_93_23 : ((put τ8 110 (x6).toNat (Int32.ofInt (x1))).1 93 23).toInt = x6 := (congrArg Int32.toInt (put_nr (by decide))).trans c8_2
          refine xm_lineE2_s4 x0 x1 x2 x3 x4 x5 x6 x7 x8 hB9 ⟨by omega, by omega, by omega, by omega, by omega, by omega, by omega, by omega, by omega, trivial⟩ ⟨e9_93_2, e9_93_5, e9_93_23, trivial⟩ ?_
          · intro τ10 y10  hB10 hF10 f10 rr10 _ c10
            obtain ⟨f10_0, f10_1, f10_2, f10_3, f10_4, f10_5, f10_6, f10_7, f10_8, -⟩ := f10
            obtain ⟨c10_0, c10_1, c10_2, -⟩ := c10
            have hG10 : puF [(93, 0), (93, 23)] [(110, (x6).toNat, Int32.ofInt (x1)), (109, (x6).toNat, Int32.ofInt (x0))] σ τ10 := puF.fq rfl hG9 hF10
            refine Ok.ast (n := 30) rfl rfl rfl (by decide) (by omega) (by omega) ?_
            have hG11 : puF [(93, 0), (93, 23)] [(111, (x6).toNat, Int32.ofInt (x2)), (110, (x6).toNat, Int32.ofInt (x1)), (109, (x6).toNat, Int32.ofInt (x0))] σ (put τ10 111 (x6).toNat (Int32.ofInt (x2))) := puF.put hG10
            have hB11 : an_GB pm_B (put τ10 111 (x6).toNat (Int32.ofInt (x2))) := put_GB hB10 (by
              show ((-1) : Int) ≤ (Int32.ofInt (x2)).toInt ∧ (Int32.ofInt (x2)).toInt ≤ 9
              rw [ti_of (by omega) (by omega)]
              omega)
            have e11_93_2 : ((put τ10 111 (x6).toNat (Int32.ofInt (x2))).1 93 2).toInt = x4 := (congrArg Int32.toInt (put_nr (by decide))).trans c10_0
            have e11_93_5 : ((put τ10 111 (x6).toNat (Int32.ofInt (x2))).1 93 5).toInt = x5 := (congrArg Int32.toInt (put_nr (by decide))).trans c10_1
            have e11_93_23 : ((put τ10 111 (x6).toNat (Int32.ofInt (x2))).1 93 23).toInt = x6 := (congrArg Int32.toInt (put_nr (by decide))).trans c10_2
            refine xm_lineE2_s5 x0 x1 x2 x3 x4 x5 x6 x7 x8 hB11 ⟨by omega, by omega, by omega, by omega, by omega, by omega, by omega, by omega, by omega, trivial⟩ ⟨e11_93_2, e11_93_5, e11_93_23, trivial⟩ ?_
            · intro τ12 y12  hB12 hF12 f12 rr12 _ c12
              obtain ⟨f12_0, f12_1, f12_2, f12_3, f12_4, f12_5, f12_6, f12_7, f12_8, -⟩ := f12
              obtain ⟨c12_0, c12_1, c12_2, -⟩ := c12
              have hG12 : puF [(93, 0), (93, 23)] [(111, (x6).toNat, Int32.ofInt (x2)), (110, (x6).toNat, Int32.ofInt (x1)), (109, (x6).toNat, Int32.ofInt (x0))] σ τ12 := puF.fq rfl hG11 hF12
              refine Ok.ast (n := 30) rfl rfl rfl (by decide) (by omega) (by omega) ?_
              have hG13 : puF [(93, 0), (93, 23)] [(112, (x6).toNat, Int32.ofInt (x3)), (111, (x6).toNat, Int32.ofInt (x2)), (110, (x6).toNat, Int32.ofInt (x1)), (109, (x6).toNat, Int32.ofInt (x0))] σ (put τ12 112 (x6).toNat (Int32.ofInt (x3))) := puF.put hG12
              have hB13 : an_GB pm_B (put τ12 112 (x6).toNat (Int32.ofInt (x3))) := put_GB hB12 (by
                show ((-1) : Int) ≤ (Int32.ofInt (x3)).toInt ∧ (Int32.ofInt (x3)).toInt ≤ 9
                rw [ti_of (by omega) (by omega)]
                omega)
              have e13_93_2 : ((put τ12 112 (x6).toNat (Int32.ofInt (x3))).1 93 2).toInt = x4 := (congrArg Int32.toInt (put_nr (by decide))).trans c12_0
              have e13_93_5 : ((put τ12 112 (x6).toNat (Int32.ofInt (x3))).1 93 5).toInt = x5 := (congrArg Int32.toInt (put_nr (by decide))).trans c12_1
              have e13_93_23 : ((put τ12 112 (x6).toNat (Int32.ofInt (x3))).1 93 23).toInt = x6 := (congrArg Int32.toInt (put_nr (by decide))).trans c12_2
              refine xm_lineE2_s6 x0 x1 x2 x3 x4 x5 x6 x7 x8 hB13 ⟨by omega, by omega, by omega, by omega, by omega, by omega, by omega, by omega, by omega, trivial⟩ ⟨e13_93_2, e13_93_5, e13_93_23, trivial⟩ ?_
              · intro τ14 y14  hB14 hF14 f14 rr14 _ c14
                obtain ⟨f14_0, f14_1, f14_2, f14_3, f14_4, f14_5, f14_6, f14_7, f14_8, -⟩ := f14
                obtain ⟨c14_0, c14_1, c14_2, -⟩ := c14
                have hG14 : puF [(93, 0), (93, 23)] [(112, (x6).toNat, Int32.ofInt (x3)), (111, (x6).toNat, Int32.ofInt (x2)), (110, (x6).toNat, Int32.ofInt (x1)), (109, (x6).toNat, Int32.ofInt (x0))] σ τ14 := puF.fq rfl hG13 hF14
                exact ⟨hB14, Or.inr ⟨by omega, rfl, c14_2, hG14⟩⟩
      · intro τ15 y15  hB15 hF15 f15 rr15 _ c15
        obtain ⟨f15_0, f15_1, f15_2, f15_3, f15_4, f15_5, f15_6, f15_7, f15_8, -⟩ := f15
        obtain ⟨c15_0, c15_1, c15_2, -⟩ := c15
        have hG15 : puF [(93, 0), (93, 23)] [] σ τ15 := puF.fq rfl hG4 hF15
        exact ⟨hB15, Or.inl ⟨by omega, rfl, c15_2, hG15⟩⟩
      · intro τ16 y16  hB16 hF16 f16 rr16 _ c16
        obtain ⟨f16_0, f16_1, f16_2, f16_3, f16_4, f16_5, f16_6, f16_7, f16_8, -⟩ := f16
        obtain ⟨c16_0, c16_1, c16_2, -⟩ := c16
        have hG16 : puF [(93, 0), (93, 23)] [] σ τ16 := puF.fq rfl hG4 hF16
        exact ⟨hB16, Or.inl ⟨by omega, rfl, c16_2, hG16⟩⟩
      · intro τ17 y17  hB17 hF17 f17 rr17 _ c17
        obtain ⟨f17_0, f17_1, f17_2, f17_3, f17_4, f17_5, f17_6, f17_7, f17_8, -⟩ := f17
        obtain ⟨c17_0, c17_1, c17_2, -⟩ := c17
        have hG17 : puF [(93, 0), (93, 23)] [] σ τ17 := puF.fq rfl hG4 hF17
        refine Ok.ast (n := 30) rfl rfl rfl (by decide) (by omega) (by omega) ?_
        have hG18 : puF [(93, 0), (93, 23)] [(109, (x6).toNat, Int32.ofInt (x0))] σ (put τ17 109 (x6).toNat (Int32.ofInt (x0))) := puF.put hG17
        have hB18 : an_GB pm_B (put τ17 109 (x6).toNat (Int32.ofInt (x0))) := put_GB hB17 (by
          show ((-2147483648) : Int) ≤ (Int32.ofInt (x0)).toInt ∧ (Int32.ofInt (x0)).toInt ≤ 2147483647
          rw [ti_of (by omega) (by omega)]
          omega)
        have e18_93_2 : ((put τ17 109 (x6).toNat (Int32.ofInt (x0))).1 93 2).toInt = x4 := (congrArg Int32.toInt (put_nr (by decide))).trans c17_0
        have e18_93_5 : ((put τ17 109 (x6).toNat (Int32.ofInt (x0))).1 93 5).toInt = x5 := (congrArg Int32.toInt (put_nr (by decide))).trans c17_1
        have e18_93_23 : ((put τ17 109 (x6).toNat (Int32.ofInt (x0))).1 93 23).toInt = x6 := (congrArg Int32.toInt (put_nr (by decide))).trans c17_2
        refine xm_lineE2_s7 x0 x1 x2 x3 x4 x5 x6 x7 x8 hB18 ⟨by omega, by omega, by omega, by omega, by omega, by omega, by omega, by omega, by omega, trivial⟩ ⟨e18_93_2, e18_93_5, e18_93_23, trivial⟩ ?_
        · intro τ19 y19  hB19 hF19 f19 rr19 _ c19
          obtain ⟨f19_0, f19_1, f19_2, f19_3, f19_4, f19_5, f19_6, f19_7, f19_8, -⟩ := f19
          obtain ⟨c19_0, c19_1, c19_2, -⟩ := c19
          have hG19 : puF [(93, 0), (93, 23)] [(109, (x6).toNat, Int32.ofInt (x0))] σ τ19 := puF.fq rfl hG18 hF19
          refine Ok.ast (n := 30) rfl rfl rfl (by decide) (by omega) (by omega) ?_
          have hG20 : puF [(93, 0), (93, 23)] [(110, (x6).toNat, Int32.ofInt (x1)), (109, (x6).toNat, Int32.ofInt (x0))] σ (put τ19 110 (x6).toNat (Int32.ofInt (x1))) := puF.put hG19
          have hB20 : an_GB pm_B (put τ19 110 (x6).toNat (Int32.ofInt (x1))) := put_GB hB19 (by
            show (0 : Int) ≤ (Int32.ofInt (x1)).toInt ∧ (Int32.ofInt (x1)).toInt ≤ 9
            rw [ti_of (by omega) (by omega)]
            omega)
          have e20_93_2 : ((put τ19 110 (x6).toNat (Int32.ofInt (x1))).1 93 2).toInt = x4 := (congrArg Int32.toInt (put_nr (by decide))).trans c19_0
          have e20_93_5 : ((put τ19 110 (x6).toNat (Int32.ofInt (x1))).1 93 5).toInt = x5 := (congrArg Int32.toInt (put_nr (by decide))).trans c19_1
          have e20_93_23 : ((put τ19 110 (x6).toNat (Int32.ofInt (x1))).1 93 23).toInt = x6 := (congrArg Int32.toInt (put_nr (by decide))).trans c19_2
          refine xm_lineE2_s8 x0 x1 x2 x3 x4 x5 x6 x7 x8 hB20 ⟨by omega, by omega, by omega, by omega, by omega, by omega, by omega, by omega, by omega, trivial⟩ ⟨e20_93_2, e20_93_5, e20_93_23, trivial⟩ ?_
          · intro τ21 y21  hB21 hF21 f21 rr21 _ c21
            obtain ⟨f21_0, f21_1, f21_2, f21_3, f21_4, f21_5, f21_6, f21_7, f21_8, -⟩ := f21
            obtain ⟨c21_0, c21_1, c21_2, -⟩ := c21
            have hG21 : puF [(93, 0), (93, 23)] [(110, (x6).toNat, Int32.ofInt (x1)), (109, (x6).toNat, Int32.ofInt (x0))] σ τ21 := puF.fq rfl hG20 hF21
            refine Ok.ast (n := 30) rfl rfl rfl (by decide) (by omega) (by omega) ?_
            have hG22 : puF [(93, 0), (93, 23)] [(111, (x6).toNat, Int32.ofInt (x2)), (110, (x6).toNat, Int32.ofInt (x1)), (109, (x6).toNat, Int32.ofInt (x0))] σ (put τ21 111 (x6).toNat (Int32.ofInt (x2))) := puF.put hG21
            have hB22 : an_GB pm_B (put τ21 111 (x6).toNat (Int32.ofInt (x2))) := put_GB hB21 (by
              show ((-1) : Int) ≤ (Int32.ofInt (x2)).toInt ∧ (Int32.ofInt (x2)).toInt ≤ 9
              rw [ti_of (by omega) (by omega)]
              omega)
            have e22_93_2 : ((put τ21 111 (x6).toNat (Int32.ofInt (x2))).1 93 2).toInt = x4 := (congrArg Int32.toInt (put_nr (by decide))).trans c21_0
            have e22_93_5 : ((put τ21 111 (x6).toNat (Int32.ofInt (x2))).1 93 5).toInt = x5 := (congrArg Int32.toInt (put_nr (by decide))).trans c21_1
            have e22_93_23 : ((put τ21 111 (x6).toNat (Int32.ofInt (x2))).1 93 23).toInt = x6 := (congrArg Int32.toInt (put_nr (by decide))).trans c21_2
            refine xm_lineE2_s9 x0 x1 x2 x3 x4 x5 x6 x7 x8 hB22 ⟨by omega, by omega, by omega, by omega, by omega, by omega, by omega, by omega, by omega, trivial⟩ ⟨e22_93_2, e22_93_5, e22_93_23, trivial⟩ ?_
            · intro τ23 y23  hB23 hF23 f23 rr23 _ c23
              obtain ⟨f23_0, f23_1, f23_2, f23_3, f23_4, f23_5, f23_6, f23_7, f23_8, -⟩ := f23
              obtain ⟨c23_0, c23_1, c23_2, -⟩ := c23
              have hG23 : puF [(93, 0), (93, 23)] [(111, (x6).toNat, Int32.ofInt (x2)), (110, (x6).toNat, Int32.ofInt (x1)), (109, (x6).toNat, Int32.ofInt (x0))] σ τ23 := puF.fq rfl hG22 hF23
              refine Ok.ast (n := 30) rfl rfl rfl (by decide) (by omega) (by omega) ?_
              have hG24 : puF [(93, 0), (93, 23)] [(112, (x6).toNat, Int32.ofInt (x3)), (111, (x6).toNat, Int32.ofInt (x2)), (110, (x6).toNat, Int32.ofInt (x1)), (109, (x6).toNat, Int32.ofInt (x0))] σ (put τ23 112 (x6).toNat (Int32.ofInt (x3))) := puF.put hG23
              have hB24 : an_GB pm_B (put τ23 112 (x6).toNat (Int32.ofInt (x3))) := put_GB hB23 (by
                show ((-1) : Int) ≤ (Int32.ofInt (x3)).toInt ∧ (Int32.ofInt (x3)).toInt ≤ 9
                rw [ti_of (by omega) (by omega)]
                omega)
              have e24_93_2 : ((put τ23 112 (x6).toNat (Int32.ofInt (x3))).1 93 2).toInt = x4 := (congrArg Int32.toInt (put_nr (by decide))).trans c23_0
              have e24_93_5 : ((put τ23 112 (x6).toNat (Int32.ofInt (x3))).1 93 5).toInt = x5 := (congrArg Int32.toInt (put_nr (by decide))).trans c23_1
              have e24_93_23 : ((put τ23 112 (x6).toNat (Int32.ofInt (x3))).1 93 23).toInt = x6 := (congrArg Int32.toInt (put_nr (by decide))).trans c23_2
              refine xm_lineE2_s10 x0 x1 x2 x3 x4 x5 x6 x7 x8 hB24 ⟨by omega, by omega, by omega, by omega, by omega, by omega, by omega, by omega, by omega, trivial⟩ ⟨e24_93_2, e24_93_5, e24_93_23, trivial⟩ ?_
              · intro τ25 y25  hB25 hF25 f25 rr25 _ c25
                obtain ⟨f25_0, f25_1, f25_2, f25_3, f25_4, f25_5, f25_6, f25_7, f25_8, -⟩ := f25
                obtain ⟨c25_0, c25_1, c25_2, -⟩ := c25
                have hG25 : puF [(93, 0), (93, 23)] [(112, (x6).toNat, Int32.ofInt (x3)), (111, (x6).toNat, Int32.ofInt (x2)), (110, (x6).toNat, Int32.ofInt (x1)), (109, (x6).toNat, Int32.ofInt (x0))] σ τ25 := puF.fq rfl hG24 hF25
                exact ⟨hB25, Or.inr ⟨by omega, rfl, c25_2, hG25⟩⟩
      · intro τ26 y26  hB26 hF26 f26 rr26 _ c26
        obtain ⟨f26_0, f26_1, f26_2, f26_3, f26_4, f26_5, f26_6, f26_7, f26_8, -⟩ := f26
        obtain ⟨c26_0, c26_1, c26_2, -⟩ := c26
        have hG26 : puF [(93, 0), (93, 23)] [] σ τ26 := puF.fq rfl hG4 hF26
        exact ⟨hB26, Or.inl ⟨by omega, rfl, c26_2, hG26⟩⟩
set_option maxRecDepth 100000 in
theorem xm_lineE_s0 {σ : pm_S} {Q : Option Value → pm_S → Prop} (x0 x1 x2 x3 x4 x5 x6 : Int) (v5 : Value) (v6 : Value) (hv5 : v5.category = 1) (hv6 : v6.category = 1) (hB : an_GB pm_B σ) (eF : ((-2147483648) ≤ x0 ∧ x0 ≤ 2147483647) ∧ ((-2147483648) ≤ x1 ∧ x1 ≤ 2147483647) ∧ ((-2147483648) ≤ x2 ∧ x2 ≤ 2147483647) ∧ ((-2147483648) ≤ x3 ∧ x3 ≤ 2147483647) ∧ (0 ≤ x4 ∧ x4 ≤ 10) ∧ (0 ≤ x5 ∧ x5 ≤ 10) ∧ (0 ≤ x6 ∧ x6 ≤ 30) ∧ True) (eC : (σ.1 93 2).toInt = x4 ∧ (σ.1 93 5).toInt = x5 ∧ (σ.1 93 23).toInt = x6 ∧ True)
    (l0 : ∀ (τ : pm_S) (y : Nat → Int), an_GB pm_B τ → FQ [(93, 0), (93, 23)] σ τ → (((-2147483648) ≤ x0 ∧ x0 ≤ 2147483647) ∧ ((-2147483648) ≤ x1 ∧ x1 ≤ 2147483647) ∧ ((-2147483648) ≤ x2 ∧ x2 ≤ 2147483647) ∧ ((-2147483648) ≤ x3 ∧ x3 ≤ 2147483647) ∧ (0 ≤ x4 ∧ x4 ≤ 10) ∧ (0 ≤ x5 ∧ x5 ≤ 10) ∧ (0 ≤ x6 ∧ x6 ≤ 30) ∧ True) → (x2 ≠ (-1) ∧ x3 ≠ (-1) ∧ True) → (True) → ((τ.1 93 2).toInt = x4 ∧ (τ.1 93 5).toInt = x5 ∧ (τ.1 93 23).toInt = x6 ∧ True) → Ok 239 21 28 [.ref 93, .int (Int32.ofInt (x0)), .int (Int32.ofInt (x1)), .int (Int32.ofInt (x2)), .int (Int32.ofInt (x3)), .int (Int32.ofInt 0), .int (Int32.ofInt 0)] [] τ Q)
    (l1 : ∀ (τ : pm_S) (y : Nat → Int) (v6 : Value), v6.category = 1 → an_GB pm_B τ → FQ [(93, 0), (93, 23)] σ τ → (((-2147483648) ≤ x0 ∧ x0 ≤ 2147483647) ∧ ((-2147483648) ≤ x1 ∧ x1 ≤ 2147483647) ∧ ((-1) ≤ x2 ∧ x2 ≤ (-1)) ∧ ((-2147483648) ≤ x3 ∧ x3 ≤ 2147483647) ∧ (0 ≤ x4 ∧ x4 ≤ 10) ∧ (0 ≤ x5 ∧ x5 ≤ 10) ∧ (0 ≤ x6 ∧ x6 ≤ 30) ∧ True) → (x3 ≠ (-1) ∧ True) → (True) → ((τ.1 93 2).toInt = x4 ∧ (τ.1 93 5).toInt = x5 ∧ (τ.1 93 23).toInt = x6 ∧ True) → Ok 239 21 22 [.ref 93, .int (Int32.ofInt (x0)), .int (Int32.ofInt (x1)), .int (Int32.ofInt (x2)), .int (Int32.ofInt (x3)), .int (Int32.ofInt 0), v6] [.int (Int32.ofInt (x3)), .ref 93] τ Q)
    (l2 : ∀ (τ : pm_S) (y : Nat → Int) (v5 : Value) (v6 : Value), v5.category = 1 → v6.category = 1 → an_GB pm_B τ → FQ [(93, 0), (93, 23)] σ τ → (((-2147483648) ≤ x0 ∧ x0 ≤ 2147483647) ∧ ((-2147483648) ≤ x1 ∧ x1 ≤ 2147483647) ∧ ((-2147483648) ≤ x2 ∧ x2 ≤ 2147483647) ∧ ((-1) ≤ x3 ∧ x3 ≤ (-1)) ∧ (0 ≤ x4 ∧ x4 ≤ 10) ∧ (0 ≤ x5 ∧ x5 ≤ 10) ∧ (0 ≤ x6 ∧ x6 ≤ 30) ∧ True) → (True) → (True) → ((τ.1 93 2).toInt = x4 ∧ (τ.1 93 5).toInt = x5 ∧ (τ.1 93 23).toInt = x6 ∧ True) → Ok 239 21 8 [.ref 93, .int (Int32.ofInt (x0)), .int (Int32.ofInt (x1)), .int (Int32.ofInt (x2)), .int (Int32.ofInt (x3)), v5, v6] [.int (Int32.ofInt (x2)), .ref 93] τ Q)
    : Ok 239 21 0 [.ref 93, .int (Int32.ofInt (x0)), .int (Int32.ofInt (x1)), .int (Int32.ofInt (x2)), .int (Int32.ofInt (x3)), v5, v6] [] σ Q := by
  refine an_seg (B := pm_B) (F := [(93, 0), (93, 23)]) (T := []) (S := []) (fun _ h => absurd h List.not_mem_nil) (k := 239) (d := 20) (cs := [8, 12, 22, 28]) 15 0 7 [(0, (-2147483648), 2147483647), (1, (-2147483648), 2147483647), (2, (-2147483648), 2147483647), (3, (-2147483648), 2147483647), (4, 0, 10), (5, 0, 10), (6, 0, 30)] [(93, (1, 0, 2), (0, 4, 0)), (93, (1, 0, 5), (0, 5, 0)), (93, (1, 0, 23), (0, 6, 0))] [(2, 93, 0), (0, 0, 0), (0, 1, 0), (0, 2, 0), (0, 3, 0), (5, 0, 0), (5, 0, 0)] [] [(28, [(2, 93, 0), (0, 0, 0), (0, 1, 0), (0, 2, 0), (0, 3, 0), (1, 0, 0), (1, 0, 0)], [], [(0, (-2147483648), 2147483647), (1, (-2147483648), 2147483647), (2, (-2147483648), 2147483647), (3, (-2147483648), 2147483647), (4, 0, 10), (5, 0, 10), (6, 0, 30)], [(3, 2, 2, (-1)), (3, 3, 3, (-1))], [], [(93, (1, 0, 2), (0, 4, 0)), (93, (1, 0, 5), (0, 5, 0)), (93, (1, 0, 23), (0, 6, 0))]),
    (22, [(2, 93, 0), (0, 0, 0), (0, 1, 0), (0, 2, 0), (0, 3, 0), (1, 0, 0), (5, 0, 0)], [(0, 3, 0), (2, 93, 0)], [(0, (-2147483648), 2147483647), (1, (-2147483648), 2147483647), (2, (-1), (-1)), (3, (-2147483648), 2147483647), (4, 0, 10), (5, 0, 10), (6, 0, 30)], [(3, 3, 3, (-1))], [], [(93, (1, 0, 2), (0, 4, 0)), (93, (1, 0, 5), (0, 5, 0)), (93, (1, 0, 23), (0, 6, 0))]),
    (8, [(2, 93, 0), (0, 0, 0), (0, 1, 0), (0, 2, 0), (0, 3, 0), (5, 0, 0), (5, 0, 0)], [(0, 2, 0), (2, 93, 0)], [(0, (-2147483648), 2147483647), (1, (-2147483648), 2147483647), (2, (-2147483648), 2147483647), (3, (-1), (-1)), (4, 0, 10), (5, 0, 10), (6, 0, 30)], [], [], [(93, (1, 0, 2), (0, 4, 0)), (93, (1, 0, 5), (0, 5, 0)), (93, (1, 0, 23), (0, 6, 0))])] (by decide +kernel) (ρ0 := (fun s => [x0, x1, x2, x3, x4, x5, x6].getD s 0)) hB eF eC ⟨rfl, ⟨rfl, ⟨rfl, ⟨rfl, ⟨rfl, ⟨hv5, ⟨hv6, trivial⟩⟩⟩⟩⟩⟩⟩ trivial ?_
  refine List.forall_mem_cons.mpr ⟨?_, List.forall_mem_cons.mpr ⟨?_, List.forall_mem_cons.mpr ⟨?_, fun _ h => absurd h List.not_mem_nil⟩⟩⟩
  · intro ρ τ Lc stc hx g1 g2 g3 g4 g5 g6 g7 g8
    have e0 : ρ 0 = x0 := hx 0 (by decide)
    have e1 : ρ 1 = x1 := hx 1 (by decide)
    have e2 : ρ 2 = x2 := hx 2 (by decide)
    have e3 : ρ 3 = x3 := hx 3 (by decide)
    have e4 : ρ 4 = x4 := hx 4 (by decide)
    have e5 : ρ 5 = x5 := hx 5 (by decide)
    have e6 : ρ 6 = x6 := hx 6 (by decide)
    subst e0
    subst e1
    subst e2
    subst e3
    subst e4
    subst e5
    subst e6
    have g7 := g7 (by decide)
    match Lc, stc, g7, g8 with
    | [v0, v1, v2, v3, v4, v5, v6], [], ⟨hv0, hv1, hv2, hv3, hv4, hv5, hv6, _⟩, _ =>
      cases hv0
      cases hv1
      cases hv2
      cases hv3
      cases hv4
      cases hv5
      cases hv6
      exact l0 τ ρ  g1 g2 g3 g4 g5 g6
  · intro ρ τ Lc stc hx g1 g2 g3 g4 g5 g6 g7 g8
    have e0 : ρ 0 = x0 := hx 0 (by decide)
    have e1 : ρ 1 = x1 := hx 1 (by decide)
    have e2 : ρ 2 = x2 := hx 2 (by decide)
    have e3 : ρ 3 = x3 := hx 3 (by decide)
    have e4 : ρ 4 = x4 := hx 4 (by decide)
    have e5 : ρ 5 = x5 := hx 5 (by decide)
    have e6 : ρ 6 = x6 := hx 6 (by decide)
    subst e0
    subst e1
    subst e2
    subst e3
    subst e4
    subst e5
    subst e6
    have g7 := g7 (by decide)
    match Lc, stc, g7, g8 with
    | [v0, v1, v2, v3, v4, v5, v6], [w0, w1], ⟨hv0, hv1, hv2, hv3, hv4, hv5, hv6, _⟩, ⟨hw0, hw1, _⟩ =>
      cases hv0
      cases hv1
      cases hv2
      cases hv3
      cases hv4
      cases hv5
      cases hw0
      cases hw1
      exact l1 τ ρ v6 hv6 g1 g2 g3 g4 g5 g6
  · intro ρ τ Lc stc hx g1 g2 g3 g4 g5 g6 g7 g8
    have e0 : ρ 0 = x0 := hx 0 (by decide)
    have e1 : ρ 1 = x1 := hx 1 (by decide)
    have e2 : ρ 2 = x2 := hx 2 (by decide)
    have e3 : ρ 3 = x3 := hx 3 (by decide)
    have e4 : ρ 4 = x4 := hx 4 (by decide)
    have e5 : ρ 5 = x5 := hx 5 (by decide)
    have e6 : ρ 6 = x6 := hx 6 (by decide)
    subst e0
    subst e1
    subst e2
    subst e3
    subst e4
    subst e5
    subst e6
    have g7 := g7 (by decide)
    match Lc, stc, g7, g8 with
    | [v0, v1, v2, v3, v4, v5, v6], [w0, w1], ⟨hv0, hv1, hv2, hv3, hv4, hv5, hv6, _⟩, ⟨hw0, hw1, _⟩ =>
      cases hv0
      cases hv1
      cases hv2
      cases hv3
      cases hv4
      cases hw0
      cases hw1
      exact l2 τ ρ v5 v6 hv5 hv6 g1 g2 g3 g4 g5 g6
set_option maxRecDepth 100000 in
theorem xm_lineE_s1 {σ : pm_S} {Q : Option Value → pm_S → Prop} (x0 x1 x2 x3 x4 x5 x6 : Int) (v6 : Value) (hv6 : v6.category = 1) (hB : an_GB pm_B σ) (eF : ((-2147483648) ≤ x0 ∧ x0 ≤ 2147483647) ∧ ((-2147483648) ≤ x1 ∧ x1 ≤ 2147483647) ∧ ((-1) ≤ x2 ∧ x2 ≤ (-1)) ∧ ((-2147483648) ≤ x3 ∧ x3 ≤ 2147483647) ∧ (0 ≤ x4 ∧ x4 ≤ 10) ∧ (0 ≤ x5 ∧ x5 ≤ 10) ∧ (0 ≤ x6 ∧ x6 ≤ 30) ∧ True) (eC : (σ.1 93 2).toInt = x4 ∧ (σ.1 93 5).toInt = x5 ∧ (σ.1 93 23).toInt = x6 ∧ True)
    (l0 : ∀ (τ : pm_S) (y : Nat → Int), an_GB pm_B τ → FQ [(93, 0), (93, 23)] σ τ → (((-2147483648) ≤ x0 ∧ x0 ≤ 2147483647) ∧ ((-2147483648) ≤ x1 ∧ x1 ≤ 2147483647) ∧ ((-1) ≤ x2 ∧ x2 ≤ (-1)) ∧ ((-2147483648) ≤ x3 ∧ x3 ≤ 2147483647) ∧ (0 ≤ x4 ∧ x4 ≤ 10) ∧ (0 ≤ x5 ∧ x5 ≤ 10) ∧ (0 ≤ x6 ∧ x6 ≤ 30) ∧ True) → (True) → (True) → ((τ.1 93 2).toInt = x4 ∧ (τ.1 93 5).toInt = x5 ∧ (τ.1 93 23).toInt = x6 ∧ True) → Ok 239 21 28 [.ref 93, .int (Int32.ofInt (x0)), .int (Int32.ofInt (x1)), .int (Int32.ofInt (x2)), .int (Int32.ofInt (x3)), .int (Int32.ofInt 0), .int (Int32.ofInt 0)] [] τ Q)
    : Ok 239 21 23 [.ref 93, .int (Int32.ofInt (x0)), .int (Int32.ofInt (x1)), .int (Int32.ofInt (x2)), .int (Int32.ofInt (x3)), .int (Int32.ofInt 0), v6] [.int (Int32.ofInt 0)] σ Q := by
  refine an_seg (B := pm_B) (F := [(93, 0), (93, 23)]) (T := []) (S := []) (fun _ h => absurd h List.not_mem_nil) (k := 239) (d := 20) (cs := [8, 12, 22, 28]) 5 23 7 [(0, (-2147483648), 2147483647), (1, (-2147483648), 2147483647), (2, (-1), (-1)), (3, (-2147483648), 2147483647), (4, 0, 10), (5, 0, 10), (6, 0, 30)] [(93, (1, 0, 2), (0, 4, 0)), (93, (1, 0, 5), (0, 5, 0)), (93, (1, 0, 23), (0, 6, 0))] [(2, 93, 0), (0, 0, 0), (0, 1, 0), (0, 2, 0), (0, 3, 0), (1, 0, 0), (5, 0, 0)] [(1, 0, 0)] [(28, [(2, 93, 0), (0, 0, 0), (0, 1, 0), (0, 2, 0), (0, 3, 0), (1, 0, 0), (1, 0, 0)], [], [(0, (-2147483648), 2147483647), (1, (-2147483648), 2147483647), (2, (-1), (-1)), (3, (-2147483648), 2147483647), (4, 0, 10), (5, 0, 10), (6, 0, 30)], [], [], [(93, (1, 0, 2), (0, 4, 0)), (93, (1, 0, 5), (0, 5, 0)), (93, (1, 0, 23), (0, 6, 0))])] (by decide +kernel) (ρ0 := (fun s => [x0, x1, x2, x3, x4, x5, x6].getD s 0)) hB eF eC ⟨rfl, ⟨rfl, ⟨rfl, ⟨rfl, ⟨rfl, ⟨rfl, ⟨hv6, trivial⟩⟩⟩⟩⟩⟩⟩ ⟨rfl, trivial⟩ ?_
  refine List.forall_mem_cons.mpr ⟨?_, fun _ h => absurd h List.not_mem_nil⟩
  · intro ρ τ Lc stc hx g1 g2 g3 g4 g5 g6 g7 g8
    have e0 : ρ 0 = x0 := hx 0 (by decide)
    have e1 : ρ 1 = x1 := hx 1 (by decide)
    have e2 : ρ 2 = x2 := hx 2 (by decide)
    have e3 : ρ 3 = x3 := hx 3 (by decide)
    have e4 : ρ 4 = x4 := hx 4 (by decide)
    have e5 : ρ 5 = x5 := hx 5 (by decide)
    have e6 : ρ 6 = x6 := hx 6 (by decide)
    subst e0
    subst e1
    subst e2
    subst e3
    subst e4
    subst e5
    subst e6
    have g7 := g7 (by decide)
    match Lc, stc, g7, g8 with
    | [v0, v1, v2, v3, v4, v5, v6], [], ⟨hv0, hv1, hv2, hv3, hv4, hv5, hv6, _⟩, _ =>
      cases hv0
      cases hv1
      cases hv2
      cases hv3
      cases hv4
      cases hv5
      cases hv6
      exact l0 τ ρ  g1 g2 g3 g4 g5 g6
set_option maxRecDepth 100000 in
theorem xm_lineE_s2 {σ : pm_S} {Q : Option Value → pm_S → Prop} (x0 x1 x2 x3 x4 x5 x6 : Int) (v6 : Value) (hv6 : v6.category = 1) (hB : an_GB pm_B σ) (eF : ((-2147483648) ≤ x0 ∧ x0 ≤ 2147483647) ∧ ((-2147483648) ≤ x1 ∧ x1 ≤ 2147483647) ∧ ((-1) ≤ x2 ∧ x2 ≤ (-1)) ∧ (0 ≤ x3 ∧ x3 ≤ 9) ∧ (0 ≤ x4 ∧ x4 ≤ 10) ∧ (0 ≤ x5 ∧ x5 ≤ 10) ∧ (0 ≤ x6 ∧ x6 ≤ 30) ∧ True) (eC : (σ.1 93 2).toInt = x4 ∧ (σ.1 93 5).toInt = x5 ∧ (σ.1 93 23).toInt = x6 ∧ True)
    (l0 : ∀ (τ : pm_S) (y : Nat → Int), an_GB pm_B τ → FQ [(93, 0), (93, 23)] σ τ → (((-2147483648) ≤ x0 ∧ x0 ≤ 2147483647) ∧ ((-2147483648) ≤ x1 ∧ x1 ≤ 2147483647) ∧ ((-1) ≤ x2 ∧ x2 ≤ (-1)) ∧ (0 ≤ x3 ∧ x3 ≤ 9) ∧ (0 ≤ x4 ∧ x4 ≤ 10) ∧ (0 ≤ x5 ∧ x5 ≤ 10) ∧ (0 ≤ x6 ∧ x6 ≤ 30) ∧ True) → (True) → (True) → ((τ.1 93 2).toInt = x4 ∧ (τ.1 93 5).toInt = x5 ∧ (τ.1 93 23).toInt = x6 ∧ True) → Ok 239 21 28 [.ref 93, .int (Int32.ofInt (x0)), .int (Int32.ofInt (x1)), .int (Int32.ofInt (x2)), .int (Int32.ofInt (x3)), .int (Int32.ofInt 0), .int (Int32.ofInt 1)] [] τ Q)
    : Ok 239 21 23 [.ref 93, .int (Int32.ofInt (x0)), .int (Int32.ofInt (x1)), .int (Int32.ofInt (x2)), .int (Int32.ofInt (x3)), .int (Int32.ofInt 0), v6] [.int (Int32.ofInt 1)] σ Q := by
  refine an_seg (B := pm_B) (F := [(93, 0), (93, 23)]) (T := []) (S := []) (fun _ h => absurd h List.not_mem_nil) (k := 239) (d := 20) (cs := [8, 12, 22, 28]) 6 23 7 [(0, (-2147483648), 2147483647), (1, (-2147483648), 2147483647), (2, (-1), (-1)), (3, 0, 9), (4, 0, 10), (5, 0, 10), (6, 0, 30)] [(93, (1, 0, 2), (0, 4, 0)), (93, (1, 0, 5), (0, 5, 0)), (93, (1, 0, 23), (0, 6, 0))] [(2, 93, 0), (0, 0, 0), (0, 1, 0), (0, 2, 0), (0, 3, 0), (1, 0, 0), (5, 0, 0)] [(1, 0, 1)] [(28, [(2, 93, 0), (0, 0, 0), (0, 1, 0), (0, 2, 0), (0, 3, 0), (1, 0, 0), (1, 0, 1)], [], [(0, (-2147483648), 2147483647), (1, (-2147483648), 2147483647), (2, (-1), (-1)), (3, 0, 9), (4, 0, 10), (5, 0, 10), (6, 0, 30)], [], [], [(93, (1, 0, 2), (0, 4, 0)), (93, (1, 0, 5), (0, 5, 0)), (93, (1, 0, 23), (0, 6, 0))])] (by decide +kernel) (ρ0 := (fun s => [x0, x1, x2, x3, x4, x5, x6].getD s 0)) hB eF eC ⟨rfl, ⟨rfl, ⟨rfl, ⟨rfl, ⟨rfl, ⟨rfl, ⟨hv6, trivial⟩⟩⟩⟩⟩⟩⟩ ⟨rfl, trivial⟩ ?_
  refine List.forall_mem_cons.mpr ⟨?_, fun _ h => absurd h List.not_mem_nil⟩
  · intro ρ τ Lc stc hx g1 g2 g3 g4 g5 g6 g7 g8
    have e0 : ρ 0 = x0 := hx 0 (by decide)
    have e1 : ρ 1 = x1 := hx 1 (by decide)
    have e2 : ρ 2 = x2 := hx 2 (by decide)
    have e3 : ρ 3 = x3 := hx 3 (by decide)
    have e4 : ρ 4 = x4 := hx 4 (by decide)
    have e5 : ρ 5 = x5 := hx 5 (by decide)
    have e6 : ρ 6 = x6 := hx 6 (by decide)
    subst e0
    subst e1
    subst e2
    subst e3
    subst e4
    subst e5
    subst e6
    have g7 := g7 (by decide)
    match Lc, stc, g7, g8 with
    | [v0, v1, v2, v3, v4, v5, v6], [], ⟨hv0, hv1, hv2, hv3, hv4, hv5, hv6, _⟩, _ =>
      cases hv0
      cases hv1
      cases hv2
      cases hv3
      cases hv4
      cases hv5
      cases hv6
      exact l0 τ ρ  g1 g2 g3 g4 g5 g6
set_option maxRecDepth 100000 in
theorem xm_lineE_s3 {σ : pm_S} {Q : Option Value → pm_S → Prop} (x0 x1 x2 x3 x4 x5 x6 : Int) (v5 : Value) (v6 : Value) (hv5 : v5.category = 1) (hv6 : v6.category = 1) (hB : an_GB pm_B σ) (eF : ((-2147483648) ≤ x0 ∧ x0 ≤ 2147483647) ∧ ((-2147483648) ≤ x1 ∧ x1 ≤ 2147483647) ∧ ((-2147483648) ≤ x2 ∧ x2 ≤ 2147483647) ∧ ((-1) ≤ x3 ∧ x3 ≤ (-1)) ∧ (0 ≤ x4 ∧ x4 ≤ 10) ∧ (0 ≤ x5 ∧ x5 ≤ 10) ∧ (0 ≤ x6 ∧ x6 ≤ 30) ∧ True) (eC : (σ.1 93 2).toInt = x4 ∧ (σ.1 93 5).toInt = x5 ∧ (σ.1 93 23).toInt = x6 ∧ True)
    (l0 : ∀ (τ : pm_S) (y : Nat → Int), an_GB pm_B τ → FQ [(93, 0), (93, 23)] σ τ → (((-2147483648) ≤ x0 ∧ x0 ≤ 2147483647) ∧ ((-2147483648) ≤ x1 ∧ x1 ≤ 2147483647) ∧ ((-2147483648) ≤ x2 ∧ x2 ≤ 2147483647) ∧ ((-1) ≤ x3 ∧ x3 ≤ (-1)) ∧ (0 ≤ x4 ∧ x4 ≤ 10) ∧ (0 ≤ x5 ∧ x5 ≤ 10) ∧ (0 ≤ x6 ∧ x6 ≤ 30) ∧ True) → (x2 ≠ (-1) ∧ True) → (True) → ((τ.1 93 2).toInt = x4 ∧ (τ.1 93 5).toInt = x5 ∧ (τ.1 93 23).toInt = x6 ∧ True) → Ok 239 21 28 [.ref 93, .int (Int32.ofInt (x0)), .int (Int32.ofInt (x1)), .int (Int32.ofInt (x2)), .int (Int32.ofInt (x3)), .int (Int32.ofInt 0), .int (Int32.ofInt 0)] [] τ Q)
    (l1 : ∀ (τ : pm_S) (y : Nat → Int) (v6 : Value), v6.category = 1 → an_GB pm_B τ → FQ [(93, 0), (93, 23)] σ τ → (((-2147483648) ≤ x0 ∧ x0 ≤ 2147483647) ∧ ((-2147483648) ≤ x1 ∧ x1 ≤ 2147483647) ∧ ((-1) ≤ x2 ∧ x2 ≤ (-1)) ∧ ((-1) ≤ x3 ∧ x3 ≤ (-1)) ∧ (0 ≤ x4 ∧ x4 ≤ 10) ∧ (0 ≤ x5 ∧ x5 ≤ 10) ∧ (0 ≤ x6 ∧ x6 ≤ 30) ∧ True) → (True) → (True) → ((τ.1 93 2).toInt = x4 ∧ (τ.1 93 5).toInt = x5 ∧ (τ.1 93 23).toInt = x6 ∧ True) → Ok 239 21 22 [.ref 93, .int (Int32.ofInt (x0)), .int (Int32.ofInt (x1)), .int (Int32.ofInt (x2)), .int (Int32.ofInt (x3)), .int (Int32.ofInt 0), v6] [.int (Int32.ofInt (-1)), .ref 93] τ Q)
    : Ok 239 21 9 [.ref 93, .int (Int32.ofInt (x0)), .int (Int32.ofInt (x1)), .int (Int32.ofInt (x2)), .int (Int32.ofInt (x3)), v5, v6] [.int (Int32.ofInt 0)] σ Q := by
  refine an_seg (B := pm_B) (F := [(93, 0), (93, 23)]) (T := []) (S := []) (fun _ h => absurd h List.not_mem_nil) (k := 239) (d := 20) (cs := [8, 12, 22, 28]) 10 9 7 [(0, (-2147483648), 2147483647), (1, (-2147483648), 2147483647), (2, (-2147483648), 2147483647), (3, (-1), (-1)), (4, 0, 10), (5, 0, 10), (6, 0, 30)] [(93, (1, 0, 2), (0, 4, 0)), (93, (1, 0, 5), (0, 5, 0)), (93, (1, 0, 23), (0, 6, 0))] [(2, 93, 0), (0, 0, 0), (0, 1, 0), (0, 2, 0), (0, 3, 0), (5, 0, 0), (5, 0, 0)] [(1, 0, 0)] [(28, [(2, 93, 0), (0, 0, 0), (0, 1, 0), (0, 2, 0), (0, 3, 0), (1, 0, 0), (1, 0, 0)], [], [(0, (-2147483648), 2147483647), (1, (-2147483648), 2147483647), (2, (-2147483648), 2147483647), (3, (-1), (-1)), (4, 0, 10), (5, 0, 10), (6, 0, 30)], [(3, 2, 2, (-1))], [], [(93, (1, 0, 2), (0, 4, 0)), (93, (1, 0, 5), (0, 5, 0)), (93, (1, 0, 23), (0, 6, 0))]),
    (22, [(2, 93, 0), (0, 0, 0), (0, 1, 0), (0, 2, 0), (0, 3, 0), (1, 0, 0), (5, 0, 0)], [(1, 0, (-1)), (2, 93, 0)], [(0, (-2147483648), 2147483647), (1, (-2147483648), 2147483647), (2, (-1), (-1)), (3, (-1), (-1)), (4, 0, 10), (5, 0, 10), (6, 0, 30)], [], [], [(93, (1, 0, 2), (0, 4, 0)), (93, (1, 0, 5), (0, 5, 0)), (93, (1, 0, 23), (0, 6, 0))])] (by decide +kernel) (ρ0 := (fun s => [x0, x1, x2, x3, x4, x5, x6].getD s 0)) hB eF eC ⟨rfl, ⟨rfl, ⟨rfl, ⟨rfl, ⟨rfl, ⟨hv5, ⟨hv6, trivial⟩⟩⟩⟩⟩⟩⟩ ⟨rfl, trivial⟩ ?_
  refine List.forall_mem_cons.mpr ⟨?_, List.forall_mem_cons.mpr ⟨?_, fun _ h => absurd h List.not_mem_nil⟩⟩
  · intro ρ τ Lc stc hx g1 g2 g3 g4 g5 g6 g7 g8
    have e0 : ρ 0 = x0 := hx 0 (by decide)
    have e1 : ρ 1 = x1 := hx 1 (by decide)
    have e2 : ρ 2 = x2 := hx 2 (by decide)
    have e3 : ρ 3 = x3 := hx 3 (by decide)
    have e4 : ρ 4 = x4 := hx 4 (by decide)
    have e5 : ρ 5 = x5 := hx 5 (by decide)
    have e6 : ρ 6 = x6 := hx 6 (by decide)
    subst e0
    subst e1
    subst e2
    subst e3
    subst e4
    subst e5
    subst e6
    have g7 := g7 (by decide)
    match Lc, stc, g7, g8 with
    | [v0, v1, v2, v3, v4, v5, v6], [], ⟨hv0, hv1, hv2, hv3, hv4, hv5, hv6, _⟩, _ =>
      cases hv0
      cases hv1
      cases hv2
      cases hv3
      cases hv4
      cases hv5
      cases hv6
      exact l0 τ ρ  g1 g2 g3 g4 g5 g6
  · intro ρ τ Lc stc hx g1 g2 g3 g4 g5 g6 g7 g8
    have e0 : ρ 0 = x0 := hx 0 (by decide)
    have e1 : ρ 1 = x1 := hx 1 (by decide)
    have e2 : ρ 2 = x2 := hx 2 (by decide)
    have e3 : ρ 3 = x3 := hx 3 (by decide)
    have e4 : ρ 4 = x4 := hx 4 (by decide)
    have e5 : ρ 5 = x5 := hx 5 (by decide)
    have e6 : ρ 6 = x6 := hx 6 (by decide)
    subst e0
    subst e1
    subst e2
    subst e3
    subst e4
    subst e5
    subst e6
    have g7 := g7 (by decide)
    match Lc, stc, g7, g8 with
    | [v0, v1, v2, v3, v4, v5, v6], [w0, w1], ⟨hv0, hv1, hv2, hv3, hv4, hv5, hv6, _⟩, ⟨hw0, hw1, _⟩ =>
      cases hv0
      cases hv1
      cases hv2
      cases hv3
      cases hv4
      cases hv5
      cases hw0
      cases hw1
      exact l1 τ ρ v6 hv6 g1 g2 g3 g4 g5 g6
set_option maxRecDepth 100000 in
theorem xm_lineE_s4 {σ : pm_S} {Q : Option Value → pm_S → Prop} (x0 x1 x2 x3 x4 x5 x6 : Int) (v6 : Value) (hv6 : v6.category = 1) (hB : an_GB pm_B σ) (eF : ((-2147483648) ≤ x0 ∧ x0 ≤ 2147483647) ∧ ((-2147483648) ≤ x1 ∧ x1 ≤ 2147483647) ∧ ((-1) ≤ x2 ∧ x2 ≤ (-1)) ∧ ((-1) ≤ x3 ∧ x3 ≤ (-1)) ∧ (0 ≤ x4 ∧ x4 ≤ 10) ∧ (0 ≤ x5 ∧ x5 ≤ 10) ∧ (0 ≤ x6 ∧ x6 ≤ 30) ∧ True) (eC : (σ.1 93 2).toInt = x4 ∧ (σ.1 93 5).toInt = x5 ∧ (σ.1 93 23).toInt = x6 ∧ True)
    (l0 : ∀ (τ : pm_S) (y : Nat → Int), an_GB pm_B τ → FQ [(93, 0), (93, 23)] σ τ → (((-2147483648) ≤ x0 ∧ x0 ≤ 2147483647) ∧ ((-2147483648) ≤ x1 ∧ x1 ≤ 2147483647) ∧ ((-1) ≤ x2 ∧ x2 ≤ (-1)) ∧ ((-1) ≤ x3 ∧ x3 ≤ (-1)) ∧ (0 ≤ x4 ∧ x4 ≤ 10) ∧ (0 ≤ x5 ∧ x5 ≤ 10) ∧ (0 ≤ x6 ∧ x6 ≤ 30) ∧ True) → (True) → (True) → ((τ.1 93 2).toInt = x4 ∧ (τ.1 93 5).toInt = x5 ∧ (τ.1 93 23).toInt = x6 ∧ True) → Ok 239 21 28 [.ref 93, .int (Int32.ofInt (x0)), .int (Int32.ofInt (x1)), .int (Int32.ofInt (x2)), .int (Int32.ofInt (x3)), .int (Int32.ofInt 0), .int (Int32.ofInt 0)] [] τ Q)
    : Ok 239 21 23 [.ref 93, .int (Int32.ofInt (x0)), .int (Int32.ofInt (x1)), .int (Int32.ofInt (x2)), .int (Int32.ofInt (x3)), .int (Int32.ofInt 0), v6] [.int (Int32.ofInt 0)] σ Q := by
  refine an_seg (B := pm_B) (F := [(93, 0), (93, 23)]) (T := []) (S := []) (fun _ h => absurd h List.not_mem_nil) (k := 239) (d := 20) (cs := [8, 12, 22, 28]) 5 23 7 [(0, (-2147483648), 2147483647), (1, (-2147483648), 2147483647), (2, (-1), (-1)), (3, (-1), (-1)), (4, 0, 10), (5, 0, 10), (6, 0, 30)] [(93, (1, 0, 2), (0, 4, 0)), (93, (1, 0, 5), (0, 5, 0)), (93, (1, 0, 23), (0, 6, 0))] [(2, 93, 0), (0, 0, 0), (0, 1, 0), (0, 2, 0), (0, 3, 0), (1, 0, 0), (5, 0, 0)] [(1, 0, 0)] [(28, [(2, 93, 0), (0, 0, 0), (0, 1, 0), (0, 2, 0), (0, 3, 0), (1, 0, 0), (1, 0, 0)], [], [(0, (-2147483648), 2147483647), (1, (-2147483648), 2147483647), (2, (-1), (-1)), (3, (-1), (-1)), (4, 0, 10), (5, 0, 10), (6, 0, 30)], [], [], [(93, (1, 0, 2), (0, 4, 0)), (93, (1, 0, 5), (0, 5, 0)), (93, (1, 0, 23), (0, 6, 0))])] (by decide +kernel) (ρ0 := (fun s => [x0, x1, x2, x3, x4, x5, x6].getD s 0)) hB eF eC ⟨rfl, ⟨rfl, ⟨rfl, ⟨rfl, ⟨rfl, ⟨rfl, ⟨hv6, trivial⟩⟩⟩⟩⟩⟩⟩ ⟨rfl, trivial⟩ ?_
  refine List.forall_mem_cons.mpr ⟨?_, fun _ h => absurd h List.not_mem_nil⟩
  · intro ρ τ Lc stc hx g1 g2 g3 g4 g5 g6 g7 g8
    have e0 : ρ 0 = x0 := hx 0 (by decide)
    have e1 : ρ 1 = x1 := hx 1 (by decide)
    have e2 : ρ 2 = x2 := hx 2 (by decide)
    have e3 : ρ 3 = x3 := hx 3 (by decide)
    have e4 : ρ 4 = x4 := hx 4 (by decide)
    have e5 : ρ 5 = x5 := hx 5 (by decide)
    have e6 : ρ 6 = x6 := hx 6 (by decide)
    subst e0
    subst e1
    subst e2
    subst e3
    subst e4
    subst e5
    subst e6
    have g7 := g7 (by decide)
    match Lc, stc, g7, g8 with
    | [v0, v1, v2, v3, v4, v5, v6], [], ⟨hv0, hv1, hv2, hv3, hv4, hv5, hv6, _⟩, _ =>
      cases hv0
      cases hv1
      cases hv2
      cases hv3
      cases hv4
      cases hv5
      cases hv6
      exact l0 τ ρ  g1 g2 g3 g4 g5 g6
set_option maxRecDepth 100000 in
theorem xm_lineE_s5 {σ : pm_S} {Q : Option Value → pm_S → Prop} (x0 x1 x2 x3 x4 x5 x6 : Int) (v6 : Value) (hv6 : v6.category = 1) (hB : an_GB pm_B σ) (eF : ((-2147483648) ≤ x0 ∧ x0 ≤ 2147483647) ∧ ((-2147483648) ≤ x1 ∧ x1 ≤ 2147483647) ∧ ((-1) ≤ x2 ∧ x2 ≤ (-1)) ∧ ((-1) ≤ x3 ∧ x3 ≤ (-1)) ∧ (0 ≤ x4 ∧ x4 ≤ 10) ∧ (0 ≤ x5 ∧ x5 ≤ 10) ∧ (0 ≤ x6 ∧ x6 ≤ 30) ∧ True) (eC : (σ.1 93 2).toInt = x4 ∧ (σ.1 93 5).toInt = x5 ∧ (σ.1 93 23).toInt = x6 ∧ True)
    (l0 : ∀ (τ : pm_S) (y : Nat → Int), an_GB pm_B τ → FQ [(93, 0), (93, 23)] σ τ → (((-2147483648) ≤ x0 ∧ x0 ≤ 2147483647) ∧ ((-2147483648) ≤ x1 ∧ x1 ≤ 2147483647) ∧ ((-1) ≤ x2 ∧ x2 ≤ (-1)) ∧ ((-1) ≤ x3 ∧ x3 ≤ (-1)) ∧ (0 ≤ x4 ∧ x4 ≤ 10) ∧ (0 ≤ x5 ∧ x5 ≤ 10) ∧ (0 ≤ x6 ∧ x6 ≤ 30) ∧ True) → (True) → (True) → ((τ.1 93 2).toInt = x4 ∧ (τ.1 93 5).toInt = x5 ∧ (τ.1 93 23).toInt = x6 ∧ True) → Ok 239 21 28 [.ref 93, .int (Int32.ofInt (x0)), .int (Int32.ofInt (x1)), .int (Int32.ofInt (x2)), .int (Int32.ofInt (x3)), .int (Int32.ofInt 0), .int (Int32.ofInt 1)] [] τ Q)
    : Ok 239 21 23 [.ref 93, .int (Int32.ofInt (x0)), .int (Int32.ofInt (x1)), .int (Int32.ofInt (x2)), .int (Int32.ofInt (x3)), .int (Int32.ofInt 0), v6] [.int (Int32.ofInt 1)] σ Q := by
  refine an_seg (B := pm_B) (F := [(93, 0), (93, 23)]) (T := []) (S := []) (fun _ h => absurd h List.not_mem_nil) (k := 239) (d := 20) (cs := [8, 12, 22, 28]) 6 23 7 [(0, (-2147483648), 2147483647), (1, (-2147483648), 2147483647), (2, (-1), (-1)), (3, (-1), (-1)), (4, 0, 10), (5, 0, 10), (6, 0, 30)] [(93, (1, 0, 2), (0, 4, 0)), (93, (1, 0, 5), (0, 5, 0)), (93, (1, 0, 23), (0, 6, 0))] [(2, 93, 0), (0, 0, 0), (0, 1, 0), (0, 2, 0), (0, 3, 0), (1, 0, 0), (5, 0, 0)] [(1, 0, 1)] [(28, [(2, 93, 0), (0, 0, 0), (0, 1, 0), (0, 2, 0), (0, 3, 0), (1, 0, 0), (1, 0, 1)], [], [(0, (-2147483648), 2147483647), (1, (-2147483648), 2147483647), (2, (-1), (-1)), (3, (-1), (-1)), (4, 0, 10), (5, 0, 10), (6, 0, 30)], [], [], [(93, (1, 0, 2), (0, 4, 0)), (93, (1, 0, 5), (0, 5, 0)), (93, (1, 0, 23), (0, 6, 0))])] (by decide +kernel) (ρ0 := (fun s => [x0, x1, x2, x3, x4, x5, x6].getD s 0)) hB eF eC ⟨rfl, ⟨rfl, ⟨rfl, ⟨rfl, ⟨rfl, ⟨rfl, ⟨hv6, trivial⟩⟩⟩⟩⟩⟩⟩ ⟨rfl, trivial⟩ ?_
  refine List.forall_mem_cons.mpr ⟨?_, fun _ h => absurd h List.not_mem_nil⟩
  · intro ρ τ Lc stc hx g1 g2 g3 g4 g5 g6 g7 g8
    have e0 : ρ 0 = x0 := hx 0 (by decide)
    have e1 : ρ 1 = x1 := hx 1 (by decide)
    have e2 : ρ 2 = x2 := hx 2 (by decide)
    have e3 : ρ 3 = x3 := hx 3 (by decide)
    have e4 : ρ 4 = x4 := hx 4 (by decide)
    have e5 : ρ 5 = x5 := hx 5 (by decide)
    have e6 : ρ 6 = x6 := hx 6 (by decide)
    subst e0
    subst e1
    subst e2
    subst e3
    subst e4
    subst e5
    subst e6
    have g7 := g7 (by decide)
    match Lc, stc, g7, g8 with
    | [v0, v1, v2, v3, v4, v5, v6], [], ⟨hv0, hv1, hv2, hv3, hv4, hv5, hv6, _⟩, _ =>
      cases hv0
      cases hv1
      cases hv2
      cases hv3
      cases hv4
      cases hv5
      cases hv6
      exact l0 τ ρ  g1 g2 g3 g4 g5 g6
set_option maxRecDepth 100000 in
theorem xm_lineE_s6 {σ : pm_S} {Q : Option Value → pm_S → Prop} (x0 x1 x2 x3 x4 x5 x6 : Int) (v5 : Value) (v6 : Value) (hv5 : v5.category = 1) (hv6 : v6.category = 1) (hB : an_GB pm_B σ) (eF : ((-2147483648) ≤ x0 ∧ x0 ≤ 2147483647) ∧ ((-2147483648) ≤ x1 ∧ x1 ≤ 2147483647) ∧ (0 ≤ x2 ∧ x2 ≤ 9) ∧ ((-1) ≤ x3 ∧ x3 ≤ (-1)) ∧ (0 ≤ x4 ∧ x4 ≤ 10) ∧ (0 ≤ x5 ∧ x5 ≤ 10) ∧ (0 ≤ x6 ∧ x6 ≤ 30) ∧ True) (eC : (σ.1 93 2).toInt = x4 ∧ (σ.1 93 5).toInt = x5 ∧ (σ.1 93 23).toInt = x6 ∧ True)
    (l0 : ∀ (τ : pm_S) (y : Nat → Int) (v5 : Value) (v6 : Value), v5.category = 1 → v6.category = 1 → an_GB pm_B τ → FQ [(93, 0), (93, 23)] σ τ → (((-2147483648) ≤ x0 ∧ x0 ≤ 2147483647) ∧ ((-2147483648) ≤ x1 ∧ x1 ≤ 2147483647) ∧ (0 ≤ x2 ∧ x2 ≤ 9) ∧ ((-1) ≤ x3 ∧ x3 ≤ (-1)) ∧ (0 ≤ x4 ∧ x4 ≤ 10) ∧ (0 ≤ x5 ∧ x5 ≤ 10) ∧ (0 ≤ x6 ∧ x6 ≤ 30) ∧ True) → (True) → (True) → ((τ.1 93 2).toInt = x4 ∧ (τ.1 93 5).toInt = x5 ∧ (τ.1 93 23).toInt = x6 ∧ True) → Ok 239 21 12 [.ref 93, .int (Int32.ofInt (x0)), .int (Int32.ofInt (x1)), .int (Int32.ofInt (x2)), .int (Int32.ofInt (x3)), v5, v6] [.int (Int32.ofInt (x2)), .int (Int32.ofInt (x1))] τ Q)
    : Ok 239 21 9 [.ref 93, .int (Int32.ofInt (x0)), .int (Int32.ofInt (x1)), .int (Int32.ofInt (x2)), .int (Int32.ofInt (x3)), v5, v6] [.int (Int32.ofInt 1)] σ Q := by
  refine an_seg (B := pm_B) (F := [(93, 0), (93, 23)]) (T := []) (S := []) (fun _ h => absurd h List.not_mem_nil) (k := 239) (d := 20) (cs := [8, 12, 22, 28]) 5 9 7 [(0, (-2147483648), 2147483647), (1, (-2147483648), 2147483647), (2, 0, 9), (3, (-1), (-1)), (4, 0, 10), (5, 0, 10), (6, 0, 30)] [(93, (1, 0, 2), (0, 4, 0)), (93, (1, 0, 5), (0, 5, 0)), (93, (1, 0, 23), (0, 6, 0))] [(2, 93, 0), (0, 0, 0), (0, 1, 0), (0, 2, 0), (0, 3, 0), (5, 0, 0), (5, 0, 0)] [(1, 0, 1)] [(12, [(2, 93, 0), (0, 0, 0), (0, 1, 0), (0, 2, 0), (0, 3, 0), (5, 0, 0), (5, 0, 0)], [(0, 2, 0), (0, 1, 0)], [(0, (-2147483648), 2147483647), (1, (-2147483648), 2147483647), (2, 0, 9), (3, (-1), (-1)), (4, 0, 10), (5, 0, 10), (6, 0, 30)], [], [], [(93, (1, 0, 2), (0, 4, 0)), (93, (1, 0, 5), (0, 5, 0)), (93, (1, 0, 23), (0, 6, 0))])] (by decide +kernel) (ρ0 := (fun s => [x0, x1, x2, x3, x4, x5, x6].getD s 0)) hB eF eC ⟨rfl, ⟨rfl, ⟨rfl, ⟨rfl, ⟨rfl, ⟨hv5, ⟨hv6, trivial⟩⟩⟩⟩⟩⟩⟩ ⟨rfl, trivial⟩ ?_
  refine List.forall_mem_cons.mpr ⟨?_, fun _ h => absurd h List.not_mem_nil⟩
  · intro ρ τ Lc stc hx g1 g2 g3 g4 g5 g6 g7 g8
    have e0 : ρ 0 = x0 := hx 0 (by decide)
    have e1 : ρ 1 = x1 := hx 1 (by decide)
    have e2 : ρ 2 = x2 := hx 2 (by decide)
    have e3 : ρ 3 = x3 := hx 3 (by decide)
    have e4 : ρ 4 = x4 := hx 4 (by decide)
    have e5 : ρ 5 = x5 := hx 5 (by decide)
    have e6 : ρ 6 = x6 := hx 6 (by decide)
    subst e0
    subst e1
    subst e2
    subst e3
    subst e4
    subst e5
    subst e6
    have g7 := g7 (by decide)
    match Lc, stc, g7, g8 with
    | [v0, v1, v2, v3, v4, v5, v6], [w0, w1], ⟨hv0, hv1, hv2, hv3, hv4, hv5, hv6, _⟩, ⟨hw0, hw1, _⟩ =>
      cases hv0
      cases hv1
      cases hv2
      cases hv3
      cases hv4
      cases hw0
      cases hw1
      exact l0 τ ρ v5 v6 hv5 hv6 g1 g2 g3 g4 g5 g6
set_option maxRecDepth 100000 in
theorem xm_lineE_s7 {σ : pm_S} {Q : Option Value → pm_S → Prop} (x0 x1 x2 x3 x4 x5 x6 : Int) (v5 : Value) (v6 : Value) (hv5 : v5.category = 1) (hv6 : v6.category = 1) (hB : an_GB pm_B σ) (eF : ((-2147483648) ≤ x0 ∧ x0 ≤ 2147483647) ∧ ((-2147483648) ≤ x1 ∧ x1 ≤ 2147483647) ∧ (0 ≤ x2 ∧ x2 ≤ 9) ∧ ((-1) ≤ x3 ∧ x3 ≤ (-1)) ∧ (0 ≤ x4 ∧ x4 ≤ 10) ∧ (0 ≤ x5 ∧ x5 ≤ 10) ∧ (0 ≤ x6 ∧ x6 ≤ 30) ∧ True) (eC : (σ.1 93 2).toInt = x4 ∧ (σ.1 93 5).toInt = x5 ∧ (σ.1 93 23).toInt = x6 ∧ True)
    (l0 : ∀ (τ : pm_S) (y : Nat → Int), an_GB pm_B τ → FQ [(93, 0), (93, 23)] σ τ → (((-2147483648) ≤ x0 ∧ x0 ≤ 2147483647) ∧ ((-2147483648) ≤ x1 ∧ x1 ≤ 2147483647) ∧ (0 ≤ x2 ∧ x2 ≤ 9) ∧ ((-1) ≤ x3 ∧ x3 ≤ (-1)) ∧ (0 ≤ x4 ∧ x4 ≤ 10) ∧ (0 ≤ x5 ∧ x5 ≤ 10) ∧ (0 ≤ x6 ∧ x6 ≤ 30) ∧ True) → (x2 ≠ (-1) ∧ True) → (True) → ((τ.1 93 2).toInt = x4 ∧ (τ.1 93 5).toInt = x5 ∧ (τ.1 93 23).toInt = x6 ∧ True) → Ok 239 21 28 [.ref 93, .int (Int32.ofInt (x0)), .int (Int32.ofInt (x1)), .int (Int32.ofInt (x2)), .int (Int32.ofInt (x3)), .int (Int32.ofInt 0), .int (Int32.ofInt 0)] [] τ Q)
    : Ok 239 21 15 [.ref 93, .int (Int32.ofInt (x0)), .int (Int32.ofInt (x1)), .int (Int32.ofInt (x2)), .int (Int32.ofInt (x3)), v5, v6] [] σ Q := by
  refine an_seg (B := pm_B) (F := [(93, 0), (93, 23)]) (T := []) (S := []) (fun _ h => absurd h List.not_mem_nil) (k := 239) (d := 20) (cs := [8, 12, 22, 28]) 9 15 7 [(0, (-2147483648), 2147483647), (1, (-2147483648), 2147483647), (2, 0, 9), (3, (-1), (-1)), (4, 0, 10), (5, 0, 10), (6, 0, 30)] [(93, (1, 0, 2), (0, 4, 0)), (93, (1, 0, 5), (0, 5, 0)), (93, (1, 0, 23), (0, 6, 0))] [(2, 93, 0), (0, 0, 0), (0, 1, 0), (0, 2, 0), (0, 3, 0), (5, 0, 0), (5, 0, 0)] [] [(28, [(2, 93, 0), (0, 0, 0), (0, 1, 0), (0, 2, 0), (0, 3, 0), (1, 0, 0), (1, 0, 0)], [], [(0, (-2147483648), 2147483647), (1, (-2147483648), 2147483647), (2, 0, 9), (3, (-1), (-1)), (4, 0, 10), (5, 0, 10), (6, 0, 30)], [(3, 2, 2, (-1))], [], [(93, (1, 0, 2), (0, 4, 0)), (93, (1, 0, 5), (0, 5, 0)), (93, (1, 0, 23), (0, 6, 0))])] (by decide +kernel) (ρ0 := (fun s => [x0, x1, x2, x3, x4, x5, x6].getD s 0)) hB eF eC ⟨rfl, ⟨rfl, ⟨rfl, ⟨rfl, ⟨rfl, ⟨hv5, ⟨hv6, trivial⟩⟩⟩⟩⟩⟩⟩ trivial ?_
  refine List.forall_mem_cons.mpr ⟨?_, fun _ h => absurd h List.not_mem_nil⟩
  · intro ρ τ Lc stc hx g1 g2 g3 g4 g5 g6 g7 g8
    have e0 : ρ 0 = x0 := hx 0 (by decide)
    have e1 : ρ 1 = x1 := hx 1 (by decide)
    have e2 : ρ 2 = x2 := hx 2 (by decide)
    have e3 : ρ 3 = x3 := hx 3 (by decide)
    have e4 : ρ 4 = x4 := hx 4 (by decide)
    have e5 : ρ 5 = x5 := hx 5 (by decide)
    have e6 : ρ 6 = x6 := hx 6 (by decide)
    subst e0
    subst e1
    subst e2
    subst e3
    subst e4
    subst e5
    subst e6
    have g7 := g7 (by decide)
    match Lc, stc, g7, g8 with
    | [v0, v1, v2, v3, v4, v5, v6], [], ⟨hv0, hv1, hv2, hv3, hv4, hv5, hv6, _⟩, _ =>
      cases hv0
      cases hv1
      cases hv2
      cases hv3
      cases hv4
      cases hv5
      cases hv6
      exact l0 τ ρ  g1 g2 g3 g4 g5 g6
set_option maxRecDepth 100000 in
theorem xm_lineE_s8 {σ : pm_S} {Q : Option Value → pm_S → Prop} (x0 x1 x2 x3 x4 x5 x6 : Int) (v5 : Value) (v6 : Value) (hv5 : v5.category = 1) (hv6 : v6.category = 1) (hB : an_GB pm_B σ) (eF : ((-2147483648) ≤ x0 ∧ x0 ≤ 2147483647) ∧ ((-2147483648) ≤ x1 ∧ x1 ≤ 2147483647) ∧ (0 ≤ x2 ∧ x2 ≤ 9) ∧ ((-1) ≤ x3 ∧ x3 ≤ (-1)) ∧ (0 ≤ x4 ∧ x4 ≤ 10) ∧ (0 ≤ x5 ∧ x5 ≤ 10) ∧ (0 ≤ x6 ∧ x6 ≤ 30) ∧ True) (eC : (σ.1 93 2).toInt = x4 ∧ (σ.1 93 5).toInt = x5 ∧ (σ.1 93 23).toInt = x6 ∧ True)
    (l0 : ∀ (τ : pm_S) (y : Nat → Int), an_GB pm_B τ → FQ [(93, 0), (93, 23)] σ τ → (((-2147483648) ≤ x0 ∧ x0 ≤ 2147483647) ∧ ((-2147483648) ≤ x1 ∧ x1 ≤ 2147483647) ∧ (0 ≤ x2 ∧ x2 ≤ 9) ∧ ((-1) ≤ x3 ∧ x3 ≤ (-1)) ∧ (0 ≤ x4 ∧ x4 ≤ 10) ∧ (0 ≤ x5 ∧ x5 ≤ 10) ∧ (0 ≤ x6 ∧ x6 ≤ 30) ∧ True) → (x2 ≠ (-1) ∧ True) → (True) → ((τ.1 93 2).toInt = x4 ∧ (τ.1 93 5).toInt = x5 ∧ (τ.1 93 23).toInt = x6 ∧ True) → Ok 239 21 28 [.ref 93, .int (Int32.ofInt (x0)), .int (Int32.ofInt (x1)), .int (Int32.ofInt (x2)), .int (Int32.ofInt (x3)), .int (Int32.ofInt 1), .int (Int32.ofInt 0)] [] τ Q)
    : Ok 239 21 13 [.ref 93, .int (Int32.ofInt (x0)), .int (Int32.ofInt (x1)), .int (Int32.ofInt (x2)), .int (Int32.ofInt (x3)), v5, v6] [] σ Q := by
  refine an_seg (B := pm_B) (F := [(93, 0), (93, 23)]) (T := []) (S := []) (fun _ h => absurd h List.not_mem_nil) (k := 239) (d := 20) (cs := [8, 12, 22, 28]) 10 13 7 [(0, (-2147483648), 2147483647), (1, (-2147483648), 2147483647), (2, 0, 9), (3, (-1), (-1)), (4, 0, 10), (5, 0, 10), (6, 0, 30)] [(93, (1, 0, 2), (0, 4, 0)), (93, (1, 0, 5), (0, 5, 0)), (93, (1, 0, 23), (0, 6, 0))] [(2, 93, 0), (0, 0, 0), (0, 1, 0), (0, 2, 0), (0, 3, 0), (5, 0, 0), (5, 0, 0)] [] [(28, [(2, 93, 0), (0, 0, 0), (0, 1, 0), (0, 2, 0), (0, 3, 0), (1, 0, 1), (1, 0, 0)], [], [(0, (-2147483648), 2147483647), (1, (-2147483648), 2147483647), (2, 0, 9), (3, (-1), (-1)), (4, 0, 10), (5, 0, 10), (6, 0, 30)], [(3, 2, 2, (-1))], [], [(93, (1, 0, 2), (0, 4, 0)), (93, (1, 0, 5), (0, 5, 0)), (93, (1, 0, 23), (0, 6, 0))])] (by decide +kernel) (ρ0 := (fun s => [x0, x1, x2, x3, x4, x5, x6].getD s 0)) hB eF eC ⟨rfl, ⟨rfl, ⟨rfl, ⟨rfl, ⟨rfl, ⟨hv5, ⟨hv6, trivial⟩⟩⟩⟩⟩⟩⟩ trivial ?_
  refine List.forall_mem_cons.mpr ⟨?_, fun _ h => absurd h List.not_mem_nil⟩
  · intro ρ τ Lc stc hx g1 g2 g3 g4 g5 g6 g7 g8
    have e0 : ρ 0 = x0 := hx 0 (by decide)
    have e1 : ρ 1 = x1 := hx 1 (by decide)
    have e2 : ρ 2 = x2 := hx 2 (by decide)
    have e3 : ρ 3 = x3 := hx 3 (by decide)
    have e4 : ρ 4 = x4 := hx 4 (by decide)
    have e5 : ρ 5 = x5 := hx 5 (by decide)
    have e6 : ρ 6 = x6 := hx 6 (by decide)
    subst e0
    subst e1
    subst e2
    subst e3
    subst e4
    subst e5
    subst e6
    have g7 := g7 (by decide)
    match Lc, stc, g7, g8 with
    | [v0, v1, v2, v3, v4, v5, v6], [], ⟨hv0, hv1, hv2, hv3, hv4, hv5, hv6, _⟩, _ =>
      cases hv0
      cases hv1
      cases hv2
      cases hv3
      cases hv4
      cases hv5
      cases hv6
      exact l0 τ ρ  g1 g2 g3 g4 g5 g6
set_option maxRecDepth 20000 in
theorem xm_lineE {σ : pm_S} (x0 x1 x2 x3 x4 x5 x6 : Int) (hB : an_GB pm_B σ) (g0 : (-2147483648) ≤ x0 ∧ x0 ≤ 2147483647) (g1 : (-2147483648) ≤ x1 ∧ x1 ≤ 2147483647) (g2 : (-2147483648) ≤ x2 ∧ x2 ≤ 2147483647) (g3 : (-2147483648) ≤ x3 ∧ x3 ≤ 2147483647) (g4 : 0 ≤ x4 ∧ x4 ≤ 10) (g5 : 0 ≤ x5 ∧ x5 ≤ 10) (g6 : 0 ≤ x6 ∧ x6 ≤ 30) (e0 : (σ.1 93 2).toInt = x4) (e1 : (σ.1 93 5).toInt = x5) (e2 : (σ.1 93 23).toInt = x6) : Sp 239 21 [.ref 93, .int (Int32.ofInt (x0)), .int (Int32.ofInt (x1)), .int (Int32.ofInt (x2)), .int (Int32.ofInt (x3))] σ (fun r τ => an_GB pm_B τ ∧ ((¬ (0 ≤ x0 ∧ x0 ≤ 9999 ∧ 0 ≤ x1 ∧ x1 < x5 ∧ ((x2 = -1 ∧ 0 ≤ x3 ∧ x3 < x4) ∨ (x3 = -1 ∧ 0 ≤ x2 ∧ x2 < x5 ∧ x1 ≠ x2)) ∧ x6 ≤ 29) ∧ r = some (.int (Int32.ofInt (-1))) ∧ (τ.1 93 23).toInt = x6 ∧ puF [(93, 0), (93, 23)] [] σ τ) ∨ ((0 ≤ x0 ∧ x0 ≤ 9999 ∧ 0 ≤ x1 ∧ x1 < x5 ∧ ((x2 = -1 ∧ 0 ≤ x3 ∧ x3 < x4) ∨ (x3 = -1 ∧ 0 ≤ x2 ∧ x2 < x5 ∧ x1 ≠ x2)) ∧ x6 ≤ 29) ∧ r = some (.int (Int32.ofInt (x6))) ∧ (τ.1 93 23).toInt = x6 + 1 ∧ puF [(93, 0), (93, 23)] [(112, (x6).toNat, Int32.ofInt (x3)), (111, (x6).toNat, Int32.ofInt (x2)), (110, (x6).toNat, Int32.ofInt (x1)), (109, (x6).toNat, Int32.ofInt (x0))] σ τ))) := by
  refine Sp.at rfl rfl ?_
  refine xm_lineE_s0 x0 x1 x2 x3 x4 x5 x6 _ _ rfl rfl hB ⟨by omega, by omega, by omega, by omega, by omega, by omega, by omega, trivial⟩ ⟨e0, e1, e2, trivial⟩ ?_ ?_ ?_
  · intro τ1 y1  hB1 hF1 f1 rr1 _ c1
    obtain ⟨f1_0, f1_1, f1_2, f1_3, f1_4, f1_5, f1_6, -⟩ := f1
    obtain ⟨r1_0, r1_1, -⟩ := rr1
    obtain ⟨c1_0, c1_1, c1_2, -⟩ := c1
    have hG1 : puF [(93, 0), (93, 23)] [] σ τ1 := puF.fq rfl (puF.rf _ _) hF1
    refine (xm_lineE2 x0 x1 x2 x3 x4 x5 x6 (0) (0) hB1 (by omega) (by omega) (by omega) (by omega) (by omega) (by omega) (by omega) (by omega) (by omega) c1_0 c1_1 c1_2 (fun z => by omega)).mono (fun r τ q => ?_)
    obtain ⟨hB9, ⟨q, rfl, d, F⟩ | ⟨q, rfl, d, F⟩⟩ := q
    · exact ⟨hB9, Or.inl ⟨by omega, rfl, d, puF.tr hG1 F⟩⟩
    · refine ⟨hB9, Or.inr ⟨by omega, rfl, d, ?_⟩⟩
      exact puF.tr hG1 F
  · intro τ2 y2 v6_2 hv6_2 hB2 hF2 f2 rr2 _ c2
    obtain ⟨f2_0, f2_1, f2_2, f2_3, f2_4, f2_5, f2_6, -⟩ := f2
    obtain ⟨r2_0, -⟩ := rr2
    obtain ⟨c2_0, c2_1, c2_2, -⟩ := c2
    have hG2 : puF [(93, 0), (93, 23)] [] σ τ2 := puF.fq rfl (puF.rf _ _) hF2
    refine Ok.cv rfl rfl rfl rfl rfl rfl rfl ?_
    refine (x_h163 (x3) (x4) hB2 (by omega) c2_0).use (by decide) (fun r3 τ3 q3 => ?_)
    obtain ⟨hB3, hF3, ⟨q3, rfl, d3⟩ | ⟨q3, rfl, d3⟩⟩ := q3
    · have hG3 : puF [(93, 0), (93, 23)] [] σ τ3 := puF.fq rfl hG2 hF3
      have e3_93_2 : (τ3.1 93 2).toInt = x4 := (congrArg Int32.toInt (show τ3.1 93 2 = τ2.1 93 2 from hF3 93 2 rfl)).trans c2_0
      have e3_93_5 : (τ3.1 93 5).toInt = x5 := (congrArg Int32.toInt (show τ3.1 93 5 = τ2.1 93 5 from hF3 93 5 rfl)).trans c2_1
      have e3_93_23 : (τ3.1 93 23).toInt = x6 := (congrArg Int32.toInt (show τ3.1 93 23 = τ2.1 93 23 from hF3 93 23 rfl)).trans c2_2
      refine xm_lineE_s1 x0 x1 x2 x3 x4 x5 x6 _ hv6_2 hB3 ⟨by omega, by omega, by omega, by omega, by omega, by omega, by omega, trivial⟩ ⟨e3_93_2, e3_93_5, e3_93_23, trivial⟩ ?_
      · intro τ4 y4  hB4 hF4 f4 rr4 _ c4
        obtain ⟨f4_0, f4_1, f4_2, f4_3, f4_4, f4_5, f4_6, -⟩ := f4
        obtain ⟨c4_0, c4_1, c4_2, -⟩ := c4
        have hG4 : puF [(93, 0), (93, 23)] [] σ τ4 := puF.fq rfl hG3 hF4
        refine (xm_lineE2 x0 x1 x2 x3 x4 x5 x6 (0) (0) hB4 (by omega) (by omega) (by omega) (by omega) (by omega) (by omega) (by omega) (by omega) (by omega) c4_0 c4_1 c4_2 (fun z => by omega)).mono (fun r τ q => ?_)
        obtain ⟨hB9, ⟨q, rfl, d, F⟩ | ⟨q, rfl, d, F⟩⟩ := q
        · exact ⟨hB9, Or.inl ⟨by omega, rfl, d, puF.tr hG4 F⟩⟩
        · refine ⟨hB9, Or.inr ⟨by omega, rfl, d, ?_⟩⟩
          exact puF.tr hG4 F
    · have hG3 : puF [(93, 0), (93, 23)] [] σ τ3 := puF.fq rfl hG2 hF3
      have e3_93_2 : (τ3.1 93 2).toInt = x4 := (congrArg Int32.toInt (show τ3.1 93 2 = τ2.1 93 2 from hF3 93 2 rfl)).trans c2_0
      have e3_93_5 : (τ3.1 93 5).toInt = x5 := (congrArg Int32.toInt (show τ3.1 93 5 = τ2.1 93 5 from hF3 93 5 rfl)).trans c2_1
      have e3_93_23 : (τ3.1 93 23).toInt = x6 := (congrArg Int32.toInt (show τ3.1 93 23 = τ2.1 93 23 from hF3 93 23 rfl)).trans c2_2
      refine xm_lineE_s2 x0 x1 x2 x3 x4 x5 x6 _ hv6_2 hB3 ⟨by omega, by omega, by omega, by omega, by omega, by omega, by omega, trivial⟩ ⟨e3_93_2, e3_93_5, e3_93_23, trivial⟩ ?_
      · intro τ5 y5  hB5 hF5 f5 rr5 _ c5
        obtain ⟨f5_0, f5_1, f5_2, f5_3, f5_4, f5_5, f5_6, -⟩ := f5
        obtain ⟨c5_0, c5_1, c5_2, -⟩ := c5
        have hG5 : puF [(93, 0), (93, 23)] [] σ τ5 := puF.fq rfl hG3 hF5
        refine (xm_lineE2 x0 x1 x2 x3 x4 x5 x6 (1) (0) hB5 (by omega) (by omega) (by omega) (by omega) (by omega) (by omega) (by omega) (by omega) (by omega) c5_0 c5_1 c5_2 (fun z => by omega)).mono (fun r τ q => ?_)
        obtain ⟨hB9, ⟨q, rfl, d, F⟩ | ⟨q, rfl, d, F⟩⟩ := q
        · exact ⟨hB9, Or.inl ⟨by omega, rfl, d, puF.tr hG5 F⟩⟩
        · refine ⟨hB9, Or.inr ⟨by omega, rfl, d, ?_⟩⟩
          exact puF.tr hG5 F
  · intro τ6 y6 v5_6 v6_6 hv5_6 hv6_6 hB6 hF6 f6 rr6 _ c6
    obtain ⟨f6_0, f6_1, f6_2, f6_3, f6_4, f6_5, f6_6, -⟩ := f6
    obtain ⟨c6_0, c6_1, c6_2, -⟩ := c6
    have hG6 : puF [(93, 0), (93, 23)] [] σ τ6 := puF.fq rfl (puF.rf _ _) hF6
    refine Ok.cv rfl rfl rfl rfl rfl rfl rfl ?_
    refine (x_h164 (x2) (x5) hB6 (by omega) c6_1).use (by decide) (fun r7 τ7 q7 => ?_)
    obtain ⟨hB7, hF7, ⟨q7, rfl, d7⟩ | ⟨q7, rfl, d7⟩⟩ := q7
    · have hG7 : puF [(93, 0), (93, 23)] [] σ τ7 := puF.fq rfl hG6 hF7
      have e7_93_2 : (τ7.1 93 2).toInt = x4 := (congrArg Int32.toInt (show τ7.1 93 2 = τ6.1 93 2 from hF7 93 2 rfl)).trans c6_0
      have e7_93_5 : (τ7.1 93 5).toInt = x5 := (congrArg Int32.toInt (show τ7.1 93 5 = τ6.1 93 5 from hF7 93 5 rfl)).trans c6_1
      have e7_93_23 : (τ7.1 93 23).toInt = x6 := (congrArg Int32.toInt (show τ7.1 93 23 = τ6.1 93 23 from hF7 93 23 rfl)).trans c6_2
      refine xm_lineE_s3 x0 x1 x2 x3 x4 x5 x6 _ _ hv5_6 hv6_6 hB7 ⟨by omega, by omega, by omega, by omega, by omega, by omega, by omega, trivial⟩ ⟨e7_93_2, e7_93_5, e7_93_23, trivial⟩ ?_ ?_
      · intro τ8 y8  hB8 hF8 f8 rr8 _ c8
        obtain ⟨f8_0, f8_1, f8_2, f8_3, f8_4, f8_5, f8_6, -⟩ := f8
        obtain ⟨r8_0, -⟩ := rr8
        obtain ⟨c8_0, c8_1, c8_2, -⟩ := c8
        have hG8 : puF [(93, 0), (93, 23)] [] σ τ8 := puF.fq rfl hG7 hF8
        refine (xm_lineE2 x0 x1 x2 x3 x4 x5 x6 (0) (0) hB8 (by omega) (by omega) (by omega) (by omega) (by omega) (by omega) (by omega) (by omega) (by omega) c8_0 c8_1 c8_2 (fun z => by omega)).mono (fun r τ q => ?_)
        obtain ⟨hB9, ⟨q, rfl, d, F⟩ | ⟨q, rfl, d, F⟩⟩ := q
        · exact ⟨hB9, Or.inl ⟨by omega, rfl, d, puF.tr hG8 F⟩⟩
        · refine ⟨hB9, Or.inr ⟨by omega, rfl, d, ?_⟩⟩
          exact puF.tr hG8 F
      · intro τ9 y9 v6_9 hv6_9 hB9 hF9 f9 rr9 _ c9
        obtain ⟨f9_0, f9_1, f9_2, f9_3, f9_4, f9_5, f9_6, -⟩ := f9
        obtain ⟨c9_0, c9_1, c9_2, -⟩ := c9
        have hG9 : puF [(93, 0), (93, 23)] [] σ τ9 := puF.fq rfl hG7 hF9
        refine Ok.cv rfl rfl rfl rfl rfl rfl rfl ?_
        refine (x_h163 ((-1)) (x4) hB9 (by omega) c9_0).use (by decide) (fun r10 τ10 q10 => ?_)
        obtain ⟨hB10, hF10, ⟨q10, rfl, d10⟩ | ⟨q10, rfl, d10⟩⟩ := q10
        · have hG10 : puF [(93, 0), (93, 23)] [] σ τ10 := puF.fq rfl hG9 hF10
          have e10_93_2 : (τ10.1 93 2).toInt = x4 := (congrArg Int32.toInt (show τ10.1 93 2 = τ9.1 93 2 from hF10 93 2 rfl)).trans c9_0
          have e10_93_5 : (τ10.1 93 5).toInt = x5 := (congrArg Int32.toInt (show τ10.1 93 5 = τ9.1 93 5 from hF10 93 5 rfl)).trans c9_1
          have e10_93_23 : (τ10.1 93 23).toInt = x6 := (congrArg Int32.toInt (show τ10.1 93 23 = τ9.1 93 23 from hF10 93 23 rfl)).trans c9_2
          refine xm_lineE_s4 x0 x1 x2 x3 x4 x5 x6 _ hv6_9 hB10 ⟨by omega, by omega, by omega, by omega, by omega, by omega, by omega, trivial⟩ ⟨e10_93_2, e10_93_5, e10_93_23, trivial⟩ ?_
          · intro τ11 y11  hB11 hF11 f11 rr11 _ c11
            obtain ⟨f11_0, f11_1, f11_2, f11_3, f11_4, f11_5, f11_6, -⟩ := f11
            obtain ⟨c11_0, c11_1, c11_2, -⟩ := c11
            have hG11 : puF [(93, 0), (93, 23)] [] σ τ11 := puF.fq rfl hG10 hF11
            refine (xm_lineE2 x0 x1 x2 x3 x4 x5 x6 (0) (0) hB11 (by omega) (by omega) (by omega) (by omega) (by omega) (by omega) (by omega) (by omega) (by omega) c11_0 c11_1 c11_2 (fun z => by omega)).mono (fun r τ q => ?_)
            obtain ⟨hB9, ⟨q, rfl, d, F⟩ | ⟨q, rfl, d, F⟩⟩ := q
            · exact ⟨hB9, Or.inl ⟨by omega, rfl, d, puF.tr hG11 F⟩⟩
            · refine ⟨hB9, Or.inr ⟨by omega, rfl, d, ?_⟩⟩
              exact puF.tr hG11 F
        · have hG10 : puF [(93, 0), (93, 23)] [] σ τ10 := puF.fq rfl hG9 hF10
          have e10_93_2 : (τ10.1 93 2).toInt = x4 := (congrArg Int32.toInt (show τ10.1 93 2 = τ9.1 93 2 from hF10 93 2 rfl)).trans c9_0
          have e10_93_5 : (τ10.1 93 5).toInt = x5 := (congrArg Int32.toInt (show τ10.1 93 5 = τ9.1 93 5 from hF10 93 5 rfl)).trans c9_1
          have e10_93_23 : (τ10.1 93 23).toInt = x6 := (congrArg Int32.toInt (show τ10.1 93 23 = τ9.1 93 23 from hF10 93 23 rfl)).trans c9_2
          refine xm_lineE_s5 x0 x1 x2 x3 x4 x5 x6 _ hv6_9 hB10 ⟨by omega, by omega, by omega, by omega, by omega, by omega, by omega, trivial⟩ ⟨e10_93_2, e10_93_5, e10_93_23, trivial⟩ ?_
          · intro τ12 y12  hB12 hF12 f12 rr12 _ c12
            obtain ⟨f12_0, f12_1, f12_2, f12_3, f12_4, f12_5, f12_6, -⟩ := f12
            obtain ⟨c12_0, c12_1, c12_2, -⟩ := c12
            have hG12 : puF [(93, 0), (93, 23)] [] σ τ12 := puF.fq rfl hG10 hF12
            refine (xm_lineE2 x0 x1 x2 x3 x4 x5 x6 (1) (0) hB12 (by omega) (by omega) (by omega) (by omega) (by omega) (by omega) (by omega) (by omega) (by omega) c12_0 c12_1 c12_2 (fun z => by omega)).mono (fun r τ q => ?_)
            obtain ⟨hB9, ⟨q, rfl, d, F⟩ | ⟨q, rfl, d, F⟩⟩ := q
            · exact ⟨hB9, Or.inl ⟨by omega, rfl, d, puF.tr hG12 F⟩⟩
            · refine ⟨hB9, Or.inr ⟨by omega, rfl, d, ?_⟩⟩
              exact puF.tr hG12 F
    · have hG7 : puF [(93, 0), (93, 23)] [] σ τ7 := puF.fq rfl hG6 hF7
      have e7_93_2 : (τ7.1 93 2).toInt = x4 := (congrArg Int32.toInt (show τ7.1 93 2 = τ6.1 93 2 from hF7 93 2 rfl)).trans c6_0
      have e7_93_5 : (τ7.1 93 5).toInt = x5 := (congrArg Int32.toInt (show τ7.1 93 5 = τ6.1 93 5 from hF7 93 5 rfl)).trans c6_1
      have e7_93_23 : (τ7.1 93 23).toInt = x6 := (congrArg Int32.toInt (show τ7.1 93 23 = τ6.1 93 23 from hF7 93 23 rfl)).trans c6_2
      refine xm_lineE_s6 x0 x1 x2 x3 x4 x5 x6 _ _ hv5_6 hv6_6 hB7 ⟨by omega, by omega, by omega, by omega, by omega, by omega, by omega, trivial⟩ ⟨e7_93_2, e7_93_5, e7_93_23, trivial⟩ ?_
      · intro τ13 y13 v5_13 v6_13 hv5_13 hv6_13 hB13 hF13 f13 rr13 _ c13
        obtain ⟨f13_0, f13_1, f13_2, f13_3, f13_4, f13_5, f13_6, -⟩ := f13
        obtain ⟨c13_0, c13_1, c13_2, -⟩ := c13
        have hG13 : puF [(93, 0), (93, 23)] [] σ τ13 := puF.fq rfl hG7 hF13
        refine Ok.ic rfl rfl (by omega) (by omega) (by omega) (by omega) (fun z14 => ?_) (fun z14 => ?_)
        · have z14 : x1 = x2 := z14
          refine xm_lineE_s7 x0 x1 x2 x3 x4 x5 x6 _ _ hv5_13 hv6_13 hB13 ⟨by omega, by omega, by omega, by omega, by omega, by omega, by omega, trivial⟩ ⟨c13_0, c13_1, c13_2, trivial⟩ ?_
          · intro τ15 y15  hB15 hF15 f15 rr15 _ c15
            obtain ⟨f15_0, f15_1, f15_2, f15_3, f15_4, f15_5, f15_6, -⟩ := f15
            obtain ⟨r15_0, -⟩ := rr15
            obtain ⟨c15_0, c15_1, c15_2, -⟩ := c15
            have hG15 : puF [(93, 0), (93, 23)] [] σ τ15 := puF.fq rfl hG13 hF15
            refine (xm_lineE2 x0 x1 x2 x3 x4 x5 x6 (0) (0) hB15 (by omega) (by omega) (by omega) (by omega) (by omega) (by omega) (by omega) (by omega) (by omega) c15_0 c15_1 c15_2 (fun z => by omega)).mono (fun r τ q => ?_)
            obtain ⟨hB9, ⟨q, rfl, d, F⟩ | ⟨q, rfl, d, F⟩⟩ := q
            · exact ⟨hB9, Or.inl ⟨by omega, rfl, d, puF.tr hG15 F⟩⟩
            · refine ⟨hB9, Or.inr ⟨by omega, rfl, d, ?_⟩⟩
              exact puF.tr hG15 F
        · have z14 : x1 ≠ x2 := z14
          refine xm_lineE_s8 x0 x1 x2 x3 x4 x5 x6 _ _ hv5_13 hv6_13 hB13 ⟨by omega, by omega, by omega, by omega, by omega, by omega, by omega, trivial⟩ ⟨c13_0, c13_1, c13_2, trivial⟩ ?_
          · intro τ16 y16  hB16 hF16 f16 rr16 _ c16
            obtain ⟨f16_0, f16_1, f16_2, f16_3, f16_4, f16_5, f16_6, -⟩ := f16
            obtain ⟨r16_0, -⟩ := rr16
            obtain ⟨c16_0, c16_1, c16_2, -⟩ := c16
            have hG16 : puF [(93, 0), (93, 23)] [] σ τ16 := puF.fq rfl hG13 hF16
            refine (xm_lineE2 x0 x1 x2 x3 x4 x5 x6 (0) (1) hB16 (by omega) (by omega) (by omega) (by omega) (by omega) (by omega) (by omega) (by omega) (by omega) c16_0 c16_1 c16_2 (fun z => by omega)).mono (fun r τ q => ?_)
            obtain ⟨hB9, ⟨q, rfl, d, F⟩ | ⟨q, rfl, d, F⟩⟩ := q
            · exact ⟨hB9, Or.inl ⟨by omega, rfl, d, puF.tr hG16 F⟩⟩
            · refine ⟨hB9, Or.inr ⟨by omega, rfl, d, ?_⟩⟩
              exact puF.tr hG16 F
