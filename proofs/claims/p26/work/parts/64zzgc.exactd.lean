/-! debt exactly -/
set_option maxRecDepth 100000 in
theorem zxm_debt_s0 {σ : pm_S} {Q : Option Value → pm_S → Prop} (x0 x1 x2 x3 x4 x5 x6 x7 : Int)  (hB : an_GB pm_B σ) (eF : ((-2147483648) ≤ x0 ∧ x0 ≤ 2147483647) ∧ ((-2147483648) ≤ x1 ∧ x1 ≤ 2147483647) ∧ ((-2147483648) ≤ x2 ∧ x2 ≤ 2147483647) ∧ ((-2147483648) ≤ x3 ∧ x3 ≤ 2147483647) ∧ (0 ≤ x4 ∧ x4 ≤ 10) ∧ (0 ≤ x5 ∧ x5 ≤ 10) ∧ (0 ≤ x6 ∧ x6 ≤ 30) ∧ ((-2147483648) ≤ x7 ∧ x7 ≤ 2147483647) ∧ True) (eC : (σ.1 93 2).toInt = x4 ∧ (σ.1 93 5).toInt = x5 ∧ (σ.1 93 11).toInt = x6 ∧ (σ.1 93 19).toInt = x7 ∧ True)
    (l0 : ∀ (τ : pm_S) (y : Nat → Int), an_GB pm_B τ → FQ [(93, 0), (93, 11)] σ τ → (((-2147483648) ≤ x0 ∧ x0 ≤ 2147483647) ∧ ((-2147483648) ≤ x1 ∧ x1 ≤ 2147483647) ∧ ((-2147483648) ≤ x2 ∧ x2 ≤ 2147483647) ∧ ((-2147483648) ≤ x3 ∧ x3 ≤ 2147483647) ∧ (0 ≤ x4 ∧ x4 ≤ 10) ∧ (0 ≤ x5 ∧ x5 ≤ 10) ∧ (0 ≤ x6 ∧ x6 ≤ 30) ∧ ((-2147483648) ≤ x7 ∧ x7 ≤ 2147483647) ∧ True) → (True) → (True) → ((τ.1 93 2).toInt = x4 ∧ (τ.1 93 5).toInt = x5 ∧ (τ.1 93 11).toInt = x6 ∧ (τ.1 93 19).toInt = x7 ∧ True) → Ok 169 21 5 [.ref 93, .int (Int32.ofInt (x0)), .int (Int32.ofInt (x1)), .int (Int32.ofInt (x2)), .int (Int32.ofInt (x3))] [.int (Int32.ofInt (x0)), .ref 93] τ Q)
    : Ok 169 21 0 [.ref 93, .int (Int32.ofInt (x0)), .int (Int32.ofInt (x1)), .int (Int32.ofInt (x2)), .int (Int32.ofInt (x3))] [] σ Q := by
  refine an_seg (B := pm_B) (F := [(93, 0), (93, 11)]) (T := []) (S := []) (fun _ h => absurd h List.not_mem_nil) (k := 169) (d := 20) (cs := [5, 9, 13, 22, 35, 41, 47, 53, 60, 66, 72]) 7 0 8 [(0, (-2147483648), 2147483647), (1, (-2147483648), 2147483647), (2, (-2147483648), 2147483647), (3, (-2147483648), 2147483647), (4, 0, 10), (5, 0, 10), (6, 0, 30), (7, (-2147483648), 2147483647)] [(93, (1, 0, 2), (0, 4, 0)), (93, (1, 0, 5), (0, 5, 0)), (93, (1, 0, 11), (0, 6, 0)), (93, (1, 0, 19), (0, 7, 0))] [(2, 93, 0), (0, 0, 0), (0, 1, 0), (0, 2, 0), (0, 3, 0)] [] [(5, [(2, 93, 0), (0, 0, 0), (0, 1, 0), (0, 2, 0), (0, 3, 0)], [(0, 0, 0), (2, 93, 0)], [(0, (-2147483648), 2147483647), (1, (-2147483648), 2147483647), (2, (-2147483648), 2147483647), (3, (-2147483648), 2147483647), (4, 0, 10), (5, 0, 10), (6, 0, 30), (7, (-2147483648), 2147483647)], [], [], [(93, (1, 0, 2), (0, 4, 0)), (93, (1, 0, 5), (0, 5, 0)), (93, (1, 0, 11), (0, 6, 0)), (93, (1, 0, 19), (0, 7, 0))])] (by decide +kernel) (ρ0 := (fun s => [x0, x1, x2, x3, x4, x5, x6, x7].getD s 0)) hB eF eC ⟨rfl, ⟨rfl, ⟨rfl, ⟨rfl, ⟨rfl, trivial⟩⟩⟩⟩⟩ trivial ?_
  refine List.forall_mem_cons.mpr ⟨?_, fun _ h => absurd h List.not_mem_nil⟩
  · intro ρ τ Lc stc hx g1 g2 g3 g4 g5 g6 g7 g8
    have e0 : ρ 0 = x0 := hx 0 (by decide)
    have e1 : ρ 1 = x1 := hx 1 (by decide)
    have e2 : ρ 2 = x2 := hx 2 (by decide)
    have e3 : ρ 3 = x3 := hx 3 (by decide)
    have e4 : ρ 4 = x4 := hx 4 (by decide)
    have e5 : ρ 5 = x5 := hx 5 (by decide)
    have e6 : ρ 6 = x6 := hx 6 (by decide)
    have e7 : ρ 7 = x7 := hx 7 (by decide)
    subst e0
    subst e1
    subst e2
    subst e3
    subst e4
    subst e5
    subst e6
    subst e7
    have g7 := g7 (by decide)
    match Lc, stc, g7, g8 with
    | [v0, v1, v2, v3, v4], [w0, w1], ⟨hv0, hv1, hv2, hv3, hv4, _⟩, ⟨hw0, hw1, _⟩ =>
      cases hv0
      cases hv1
      cases hv2
      cases hv3
      cases hv4
      cases hw0
      cases hw1
      exact l0 τ ρ  g1 g2 g3 g4 g5 g6
set_option maxRecDepth 100000 in
theorem zxm_debt_s1 {σ : pm_S} {Q : Option Value → pm_S → Prop} (x0 x1 x2 x3 x4 x5 x6 x7 : Int)  (hB : an_GB pm_B σ) (eF : ((-2147483648) ≤ x0 ∧ x0 ≤ 2147483647) ∧ ((-2147483648) ≤ x1 ∧ x1 ≤ 2147483647) ∧ ((-2147483648) ≤ x2 ∧ x2 ≤ 2147483647) ∧ ((-2147483648) ≤ x3 ∧ x3 ≤ 2147483647) ∧ (0 ≤ x4 ∧ x4 ≤ 10) ∧ (0 ≤ x5 ∧ x5 ≤ 10) ∧ (0 ≤ x6 ∧ x6 ≤ 30) ∧ ((-2147483648) ≤ x7 ∧ x7 ≤ 2147483647) ∧ True) (eC : (σ.1 93 2).toInt = x4 ∧ (σ.1 93 5).toInt = x5 ∧ (σ.1 93 11).toInt = x6 ∧ (σ.1 93 19).toInt = x7 ∧ True)
    (l0 : ∀ (τ : pm_S) (y : Nat → Int), an_GB pm_B τ → FQ [(93, 0), (93, 11)] σ τ → (((-2147483648) ≤ x0 ∧ x0 ≤ 2147483647) ∧ ((-2147483648) ≤ x1 ∧ x1 ≤ 2147483647) ∧ ((-2147483648) ≤ x2 ∧ x2 ≤ 2147483647) ∧ ((-2147483648) ≤ x3 ∧ x3 ≤ 2147483647) ∧ (0 ≤ x4 ∧ x4 ≤ 10) ∧ (0 ≤ x5 ∧ x5 ≤ 10) ∧ (0 ≤ x6 ∧ x6 ≤ 30) ∧ ((-2147483648) ≤ x7 ∧ x7 ≤ 2147483647) ∧ True) → (True) → (True) → ((τ.1 93 2).toInt = x4 ∧ (τ.1 93 5).toInt = x5 ∧ (τ.1 93 11).toInt = x6 ∧ (τ.1 93 19).toInt = x7 ∧ True) → Q (some (.int (Int32.ofInt (-1)))) τ)
    : Ok 169 21 6 [.ref 93, .int (Int32.ofInt (x0)), .int (Int32.ofInt (x1)), .int (Int32.ofInt (x2)), .int (Int32.ofInt (x3))] [.int (Int32.ofInt 0)] σ Q := by
  refine an_seg (B := pm_B) (F := [(93, 0), (93, 11)]) (T := []) (S := []) (fun _ h => absurd h List.not_mem_nil) (k := 169) (d := 20) (cs := [5, 9, 13, 22, 35, 41, 47, 53, 60, 66, 72]) 5 6 8 [(0, (-2147483648), 2147483647), (1, (-2147483648), 2147483647), (2, (-2147483648), 2147483647), (3, (-2147483648), 2147483647), (4, 0, 10), (5, 0, 10), (6, 0, 30), (7, (-2147483648), 2147483647)] [(93, (1, 0, 2), (0, 4, 0)), (93, (1, 0, 5), (0, 5, 0)), (93, (1, 0, 11), (0, 6, 0)), (93, (1, 0, 19), (0, 7, 0))] [(2, 93, 0), (0, 0, 0), (0, 1, 0), (0, 2, 0), (0, 3, 0)] [(1, 0, 0)] [(9999, [], [(1, 0, (-1))], [(0, (-2147483648), 2147483647), (1, (-2147483648), 2147483647), (2, (-2147483648), 2147483647), (3, (-2147483648), 2147483647), (4, 0, 10), (5, 0, 10), (6, 0, 30), (7, (-2147483648), 2147483647)], [], [], [(93, (1, 0, 2), (0, 4, 0)), (93, (1, 0, 5), (0, 5, 0)), (93, (1, 0, 11), (0, 6, 0)), (93, (1, 0, 19), (0, 7, 0))])] (by decide +kernel) (ρ0 := (fun s => [x0, x1, x2, x3, x4, x5, x6, x7].getD s 0)) hB eF eC ⟨rfl, ⟨rfl, ⟨rfl, ⟨rfl, ⟨rfl, trivial⟩⟩⟩⟩⟩ ⟨rfl, trivial⟩ ?_
  refine List.forall_mem_cons.mpr ⟨?_, fun _ h => absurd h List.not_mem_nil⟩
  · intro ρ τ Lc stc hx g1 g2 g3 g4 g5 g6 g7 g8
    have e0 : ρ 0 = x0 := hx 0 (by decide)
    have e1 : ρ 1 = x1 := hx 1 (by decide)
    have e2 : ρ 2 = x2 := hx 2 (by decide)
    have e3 : ρ 3 = x3 := hx 3 (by decide)
    have e4 : ρ 4 = x4 := hx 4 (by decide)
    have e5 : ρ 5 = x5 := hx 5 (by decide)
    have e6 : ρ 6 = x6 := hx 6 (by decide)
    have e7 : ρ 7 = x7 := hx 7 (by decide)
    subst e0
    subst e1
    subst e2
    subst e3
    subst e4
    subst e5
    subst e6
    subst e7
    match stc, g8 with
    | [_], ⟨h, _⟩ => cases h; exact l0 τ ρ g1 g2 g3 g4 g5 g6
set_option maxRecDepth 100000 in
theorem zxm_debt_s2 {σ : pm_S} {Q : Option Value → pm_S → Prop} (x0 x1 x2 x3 x4 x5 x6 x7 : Int)  (hB : an_GB pm_B σ) (eF : (0 ≤ x0 ∧ x0 ≤ 9) ∧ ((-2147483648) ≤ x1 ∧ x1 ≤ 2147483647) ∧ ((-2147483648) ≤ x2 ∧ x2 ≤ 2147483647) ∧ ((-2147483648) ≤ x3 ∧ x3 ≤ 2147483647) ∧ (0 ≤ x4 ∧ x4 ≤ 10) ∧ (0 ≤ x5 ∧ x5 ≤ 10) ∧ (0 ≤ x6 ∧ x6 ≤ 30) ∧ ((-2147483648) ≤ x7 ∧ x7 ≤ 2147483647) ∧ True) (eC : (σ.1 93 2).toInt = x4 ∧ (σ.1 93 5).toInt = x5 ∧ (σ.1 93 11).toInt = x6 ∧ (σ.1 93 19).toInt = x7 ∧ True)
    (l0 : ∀ (τ : pm_S) (y : Nat → Int), an_GB pm_B τ → FQ [(93, 0), (93, 11)] σ τ → ((0 ≤ x0 ∧ x0 ≤ 9) ∧ ((-2147483648) ≤ x1 ∧ x1 ≤ 2147483647) ∧ ((-2147483648) ≤ x2 ∧ x2 ≤ 2147483647) ∧ ((-2147483648) ≤ x3 ∧ x3 ≤ 2147483647) ∧ (0 ≤ x4 ∧ x4 ≤ 10) ∧ (0 ≤ x5 ∧ x5 ≤ 10) ∧ (0 ≤ x6 ∧ x6 ≤ 30) ∧ ((-2147483648) ≤ x7 ∧ x7 ≤ 2147483647) ∧ True) → (True) → (True) → ((τ.1 93 2).toInt = x4 ∧ (τ.1 93 5).toInt = x5 ∧ (τ.1 93 11).toInt = x6 ∧ (τ.1 93 19).toInt = x7 ∧ True) → Ok 169 21 9 [.ref 93, .int (Int32.ofInt (x0)), .int (Int32.ofInt (x1)), .int (Int32.ofInt (x2)), .int (Int32.ofInt (x3))] [.int (Int32.ofInt (x1)), .ref 93] τ Q)
    : Ok 169 21 6 [.ref 93, .int (Int32.ofInt (x0)), .int (Int32.ofInt (x1)), .int (Int32.ofInt (x2)), .int (Int32.ofInt (x3))] [.int (Int32.ofInt 1)] σ Q := by
  refine an_seg (B := pm_B) (F := [(93, 0), (93, 11)]) (T := []) (S := []) (fun _ h => absurd h List.not_mem_nil) (k := 169) (d := 20) (cs := [5, 9, 13, 22, 35, 41, 47, 53, 60, 66, 72]) 5 6 8 [(0, 0, 9), (1, (-2147483648), 2147483647), (2, (-2147483648), 2147483647), (3, (-2147483648), 2147483647), (4, 0, 10), (5, 0, 10), (6, 0, 30), (7, (-2147483648), 2147483647)] [(93, (1, 0, 2), (0, 4, 0)), (93, (1, 0, 5), (0, 5, 0)), (93, (1, 0, 11), (0, 6, 0)), (93, (1, 0, 19), (0, 7, 0))] [(2, 93, 0), (0, 0, 0), (0, 1, 0), (0, 2, 0), (0, 3, 0)] [(1, 0, 1)] [(9, [(2, 93, 0), (0, 0, 0), (0, 1, 0), (0, 2, 0), (0, 3, 0)], [(0, 1, 0), (2, 93, 0)], [(0, 0, 9), (1, (-2147483648), 2147483647), (2, (-2147483648), 2147483647), (3, (-2147483648), 2147483647), (4, 0, 10), (5, 0, 10), (6, 0, 30), (7, (-2147483648), 2147483647)], [], [], [(93, (1, 0, 2), (0, 4, 0)), (93, (1, 0, 5), (0, 5, 0)), (93, (1, 0, 11), (0, 6, 0)), (93, (1, 0, 19), (0, 7, 0))])] (by decide +kernel) (ρ0 := (fun s => [x0, x1, x2, x3, x4, x5, x6, x7].getD s 0)) hB eF eC ⟨rfl, ⟨rfl, ⟨rfl, ⟨rfl, ⟨rfl, trivial⟩⟩⟩⟩⟩ ⟨rfl, trivial⟩ ?_
  refine List.forall_mem_cons.mpr ⟨?_, fun _ h => absurd h List.not_mem_nil⟩
  · intro ρ τ Lc stc hx g1 g2 g3 g4 g5 g6 g7 g8
    have e0 : ρ 0 = x0 := hx 0 (by decide)
    have e1 : ρ 1 = x1 := hx 1 (by decide)
    have e2 : ρ 2 = x2 := hx 2 (by decide)
    have e3 : ρ 3 = x3 := hx 3 (by decide)
    have e4 : ρ 4 = x4 := hx 4 (by decide)
    have e5 : ρ 5 = x5 := hx 5 (by decide)
    have e6 : ρ 6 = x6 := hx 6 (by decide)
    have e7 : ρ 7 = x7 := hx 7 (by decide)
    subst e0
    subst e1
    subst e2
    subst e3
    subst e4
    subst e5
    subst e6
    subst e7
    have g7 := g7 (by decide)
    match Lc, stc, g7, g8 with
    | [v0, v1, v2, v3, v4], [w0, w1], ⟨hv0, hv1, hv2, hv3, hv4, _⟩, ⟨hw0, hw1, _⟩ =>
      cases hv0
      cases hv1
      cases hv2
      cases hv3
      cases hv4
      cases hw0
      cases hw1
      exact l0 τ ρ  g1 g2 g3 g4 g5 g6
set_option maxRecDepth 100000 in
theorem zxm_debt_s3 {σ : pm_S} {Q : Option Value → pm_S → Prop} (x0 x1 x2 x3 x4 x5 x6 x7 : Int)  (hB : an_GB pm_B σ) (eF : (0 ≤ x0 ∧ x0 ≤ 9) ∧ ((-2147483648) ≤ x1 ∧ x1 ≤ 2147483647) ∧ ((-2147483648) ≤ x2 ∧ x2 ≤ 2147483647) ∧ ((-2147483648) ≤ x3 ∧ x3 ≤ 2147483647) ∧ (0 ≤ x4 ∧ x4 ≤ 10) ∧ (0 ≤ x5 ∧ x5 ≤ 10) ∧ (0 ≤ x6 ∧ x6 ≤ 30) ∧ ((-2147483648) ≤ x7 ∧ x7 ≤ 2147483647) ∧ True) (eC : (σ.1 93 2).toInt = x4 ∧ (σ.1 93 5).toInt = x5 ∧ (σ.1 93 11).toInt = x6 ∧ (σ.1 93 19).toInt = x7 ∧ True)
    (l0 : ∀ (τ : pm_S) (y : Nat → Int), an_GB pm_B τ → FQ [(93, 0), (93, 11)] σ τ → ((0 ≤ x0 ∧ x0 ≤ 9) ∧ ((-2147483648) ≤ x1 ∧ x1 ≤ 2147483647) ∧ ((-2147483648) ≤ x2 ∧ x2 ≤ 2147483647) ∧ ((-2147483648) ≤ x3 ∧ x3 ≤ 2147483647) ∧ (0 ≤ x4 ∧ x4 ≤ 10) ∧ (0 ≤ x5 ∧ x5 ≤ 10) ∧ (0 ≤ x6 ∧ x6 ≤ 30) ∧ ((-2147483648) ≤ x7 ∧ x7 ≤ 2147483647) ∧ True) → (True) → (True) → ((τ.1 93 2).toInt = x4 ∧ (τ.1 93 5).toInt = x5 ∧ (τ.1 93 11).toInt = x6 ∧ (τ.1 93 19).toInt = x7 ∧ True) → Q (some (.int (Int32.ofInt (-1)))) τ)
    : Ok 169 21 10 [.ref 93, .int (Int32.ofInt (x0)), .int (Int32.ofInt (x1)), .int (Int32.ofInt (x2)), .int (Int32.ofInt (x3))] [.int (Int32.ofInt 0)] σ Q := by
  refine an_seg (B := pm_B) (F := [(93, 0), (93, 11)]) (T := []) (S := []) (fun _ h => absurd h List.not_mem_nil) (k := 169) (d := 20) (cs := [5, 9, 13, 22, 35, 41, 47, 53, 60, 66, 72]) 5 10 8 [(0, 0, 9), (1, (-2147483648), 2147483647), (2, (-2147483648), 2147483647), (3, (-2147483648), 2147483647), (4, 0, 10), (5, 0, 10), (6, 0, 30), (7, (-2147483648), 2147483647)] [(93, (1, 0, 2), (0, 4, 0)), (93, (1, 0, 5), (0, 5, 0)), (93, (1, 0, 11), (0, 6, 0)), (93, (1, 0, 19), (0, 7, 0))] [(2, 93, 0), (0, 0, 0), (0, 1, 0), (0, 2, 0), (0, 3, 0)] [(1, 0, 0)] [(9999, [], [(1, 0, (-1))], [(0, 0, 9), (1, (-2147483648), 2147483647), (2, (-2147483648), 2147483647), (3, (-2147483648), 2147483647), (4, 0, 10), (5, 0, 10), (6, 0, 30), (7, (-2147483648), 2147483647)], [], [], [(93, (1, 0, 2), (0, 4, 0)), (93, (1, 0, 5), (0, 5, 0)), (93, (1, 0, 11), (0, 6, 0)), (93, (1, 0, 19), (0, 7, 0))])] (by decide +kernel) (ρ0 := (fun s => [x0, x1, x2, x3, x4, x5, x6, x7].getD s 0)) hB eF eC ⟨rfl, ⟨rfl, ⟨rfl, ⟨rfl, ⟨rfl, trivial⟩⟩⟩⟩⟩ ⟨rfl, trivial⟩ ?_
  refine List.forall_mem_cons.mpr ⟨?_, fun _ h => absurd h List.not_mem_nil⟩
  · intro ρ τ Lc stc hx g1 g2 g3 g4 g5 g6 g7 g8
    have e0 : ρ 0 = x0 := hx 0 (by decide)
    have e1 : ρ 1 = x1 := hx 1 (by decide)
    have e2 : ρ 2 = x2 := hx 2 (by decide)
    have e3 : ρ 3 = x3 := hx 3 (by decide)
    have e4 : ρ 4 = x4 := hx 4 (by decide)
    have e5 : ρ 5 = x5 := hx 5 (by decide)
    have e6 : ρ 6 = x6 := hx 6 (by decide)
    have e7 : ρ 7 = x7 := hx 7 (by decide)
    subst e0
    subst e1
    subst e2
    subst e3
    subst e4
    subst e5
    subst e6
    subst e7
    match stc, g8 with
    | [_], ⟨h, _⟩ => cases h; exact l0 τ ρ g1 g2 g3 g4 g5 g6
set_option maxRecDepth 100000 in
theorem zxm_debt_s4 {σ : pm_S} {Q : Option Value → pm_S → Prop} (x0 x1 x2 x3 x4 x5 x6 x7 : Int)  (hB : an_GB pm_B σ) (eF : (0 ≤ x0 ∧ x0 ≤ 9) ∧ (0 ≤ x1 ∧ x1 ≤ 9) ∧ ((-2147483648) ≤ x2 ∧ x2 ≤ 2147483647) ∧ ((-2147483648) ≤ x3 ∧ x3 ≤ 2147483647) ∧ (0 ≤ x4 ∧ x4 ≤ 10) ∧ (0 ≤ x5 ∧ x5 ≤ 10) ∧ (0 ≤ x6 ∧ x6 ≤ 30) ∧ ((-2147483648) ≤ x7 ∧ x7 ≤ 2147483647) ∧ True) (eC : (σ.1 93 2).toInt = x4 ∧ (σ.1 93 5).toInt = x5 ∧ (σ.1 93 11).toInt = x6 ∧ (σ.1 93 19).toInt = x7 ∧ True)
    (l0 : ∀ (τ : pm_S) (y : Nat → Int), an_GB pm_B τ → FQ [(93, 0), (93, 11)] σ τ → ((0 ≤ x0 ∧ x0 ≤ 9) ∧ (0 ≤ x1 ∧ x1 ≤ 9) ∧ ((-2147483648) ≤ x2 ∧ x2 ≤ 2147483647) ∧ ((-2147483648) ≤ x3 ∧ x3 ≤ 2147483647) ∧ (0 ≤ x4 ∧ x4 ≤ 10) ∧ (0 ≤ x5 ∧ x5 ≤ 10) ∧ (0 ≤ x6 ∧ x6 ≤ 30) ∧ ((-2147483648) ≤ x7 ∧ x7 ≤ 2147483647) ∧ True) → (True) → (True) → ((τ.1 93 2).toInt = x4 ∧ (τ.1 93 5).toInt = x5 ∧ (τ.1 93 11).toInt = x6 ∧ (τ.1 93 19).toInt = x7 ∧ True) → Ok 169 21 13 [.ref 93, .int (Int32.ofInt (x0)), .int (Int32.ofInt (x1)), .int (Int32.ofInt (x2)), .int (Int32.ofInt (x3))] [.int (Int32.ofInt (x1)), .int (Int32.ofInt (x0))] τ Q)
    : Ok 169 21 10 [.ref 93, .int (Int32.ofInt (x0)), .int (Int32.ofInt (x1)), .int (Int32.ofInt (x2)), .int (Int32.ofInt (x3))] [.int (Int32.ofInt 1)] σ Q := by
  refine an_seg (B := pm_B) (F := [(93, 0), (93, 11)]) (T := []) (S := []) (fun _ h => absurd h List.not_mem_nil) (k := 169) (d := 20) (cs := [5, 9, 13, 22, 35, 41, 47, 53, 60, 66, 72]) 5 10 8 [(0, 0, 9), (1, 0, 9), (2, (-2147483648), 2147483647), (3, (-2147483648), 2147483647), (4, 0, 10), (5, 0, 10), (6, 0, 30), (7, (-2147483648), 2147483647)] [(93, (1, 0, 2), (0, 4, 0)), (93, (1, 0, 5), (0, 5, 0)), (93, (1, 0, 11), (0, 6, 0)), (93, (1, 0, 19), (0, 7, 0))] [(2, 93, 0), (0, 0, 0), (0, 1, 0), (0, 2, 0), (0, 3, 0)] [(1, 0, 1)] [(13, [(2, 93, 0), (0, 0, 0), (0, 1, 0), (0, 2, 0), (0, 3, 0)], [(0, 1, 0), (0, 0, 0)], [(0, 0, 9), (1, 0, 9), (2, (-2147483648), 2147483647), (3, (-2147483648), 2147483647), (4, 0, 10), (5, 0, 10), (6, 0, 30), (7, (-2147483648), 2147483647)], [], [], [(93, (1, 0, 2), (0, 4, 0)), (93, (1, 0, 5), (0, 5, 0)), (93, (1, 0, 11), (0, 6, 0)), (93, (1, 0, 19), (0, 7, 0))])] (by decide +kernel) (ρ0 := (fun s => [x0, x1, x2, x3, x4, x5, x6, x7].getD s 0)) hB eF eC ⟨rfl, ⟨rfl, ⟨rfl, ⟨rfl, ⟨rfl, trivial⟩⟩⟩⟩⟩ ⟨rfl, trivial⟩ ?_
  refine List.forall_mem_cons.mpr ⟨?_, fun _ h => absurd h List.not_mem_nil⟩
  · intro ρ τ Lc stc hx g1 g2 g3 g4 g5 g6 g7 g8
    have e0 : ρ 0 = x0 := hx 0 (by decide)
    have e1 : ρ 1 = x1 := hx 1 (by decide)
    have e2 : ρ 2 = x2 := hx 2 (by decide)
    have e3 : ρ 3 = x3 := hx 3 (by decide)
    have e4 : ρ 4 = x4 := hx 4 (by decide)
    have e5 : ρ 5 = x5 := hx 5 (by decide)
    have e6 : ρ 6 = x6 := hx 6 (by decide)
    have e7 : ρ 7 = x7 := hx 7 (by decide)
    subst e0
    subst e1
    subst e2
    subst e3
    subst e4
    subst e5
    subst e6
    subst e7
    have g7 := g7 (by decide)
    match Lc, stc, g7, g8 with
    | [v0, v1, v2, v3, v4], [w0, w1], ⟨hv0, hv1, hv2, hv3, hv4, _⟩, ⟨hw0, hw1, _⟩ =>
      cases hv0
      cases hv1
      cases hv2
      cases hv3
      cases hv4
      cases hw0
      cases hw1
      exact l0 τ ρ  g1 g2 g3 g4 g5 g6
set_option maxRecDepth 100000 in
theorem zxm_debt_s5 {σ : pm_S} {Q : Option Value → pm_S → Prop} (x0 x1 x2 x3 x4 x5 x6 x7 : Int)  (hB : an_GB pm_B σ) (eF : (0 ≤ x0 ∧ x0 ≤ 9) ∧ (0 ≤ x1 ∧ x1 ≤ 9) ∧ ((-2147483648) ≤ x2 ∧ x2 ≤ 2147483647) ∧ ((-2147483648) ≤ x3 ∧ x3 ≤ 2147483647) ∧ (0 ≤ x4 ∧ x4 ≤ 10) ∧ (0 ≤ x5 ∧ x5 ≤ 10) ∧ (0 ≤ x6 ∧ x6 ≤ 30) ∧ ((-2147483648) ≤ x7 ∧ x7 ≤ 2147483647) ∧ True) (eC : (σ.1 93 2).toInt = x4 ∧ (σ.1 93 5).toInt = x5 ∧ (σ.1 93 11).toInt = x6 ∧ (σ.1 93 19).toInt = x7 ∧ True)
    (l0 : ∀ (τ : pm_S) (y : Nat → Int), an_GB pm_B τ → FQ [(93, 0), (93, 11)] σ τ → ((0 ≤ x0 ∧ x0 ≤ 9) ∧ (0 ≤ x1 ∧ x1 ≤ 9) ∧ ((-2147483648) ≤ x2 ∧ x2 ≤ 2147483647) ∧ ((-2147483648) ≤ x3 ∧ x3 ≤ 2147483647) ∧ (0 ≤ x4 ∧ x4 ≤ 10) ∧ (0 ≤ x5 ∧ x5 ≤ 10) ∧ (0 ≤ x6 ∧ x6 ≤ 30) ∧ ((-2147483648) ≤ x7 ∧ x7 ≤ 2147483647) ∧ True) → (True) → (True) → ((τ.1 93 2).toInt = x4 ∧ (τ.1 93 5).toInt = x5 ∧ (τ.1 93 11).toInt = x6 ∧ (τ.1 93 19).toInt = x7 ∧ True) → Q (some (.int (Int32.ofInt (-1)))) τ)
    : Ok 169 21 28 [.ref 93, .int (Int32.ofInt (x0)), .int (Int32.ofInt (x1)), .int (Int32.ofInt (x2)), .int (Int32.ofInt (x3))] [] σ Q := by
  refine an_seg (B := pm_B) (F := [(93, 0), (93, 11)]) (T := []) (S := []) (fun _ h => absurd h List.not_mem_nil) (k := 169) (d := 20) (cs := [5, 9, 13, 22, 35, 41, 47, 53, 60, 66, 72]) 4 28 8 [(0, 0, 9), (1, 0, 9), (2, (-2147483648), 2147483647), (3, (-2147483648), 2147483647), (4, 0, 10), (5, 0, 10), (6, 0, 30), (7, (-2147483648), 2147483647)] [(93, (1, 0, 2), (0, 4, 0)), (93, (1, 0, 5), (0, 5, 0)), (93, (1, 0, 11), (0, 6, 0)), (93, (1, 0, 19), (0, 7, 0))] [(2, 93, 0), (0, 0, 0), (0, 1, 0), (0, 2, 0), (0, 3, 0)] [] [(9999, [], [(1, 0, (-1))], [(0, 0, 9), (1, 0, 9), (2, (-2147483648), 2147483647), (3, (-2147483648), 2147483647), (4, 0, 10), (5, 0, 10), (6, 0, 30), (7, (-2147483648), 2147483647)], [], [], [(93, (1, 0, 2), (0, 4, 0)), (93, (1, 0, 5), (0, 5, 0)), (93, (1, 0, 11), (0, 6, 0)), (93, (1, 0, 19), (0, 7, 0))])] (by decide +kernel) (ρ0 := (fun s => [x0, x1, x2, x3, x4, x5, x6, x7].getD s 0)) hB eF eC ⟨rfl, ⟨rfl, ⟨rfl, ⟨rfl, ⟨rfl, trivial⟩⟩⟩⟩⟩ trivial ?_
  refine List.forall_mem_cons.mpr ⟨?_, fun _ h => absurd h List.not_mem_nil⟩
  · intro ρ τ Lc stc hx g1 g2 g3 g4 g5 g6 g7 g8
    have e0 : ρ 0 = x0 := hx 0 (by decide)
    have e1 : ρ 1 = x1 := hx 1 (by decide)
    have e2 : ρ 2 = x2 := hx 2 (by decide)
    have e3 : ρ 3 = x3 := hx 3 (by decide)
    have e4 : ρ 4 = x4 := hx 4 (by decide)
    have e5 : ρ 5 = x5 := hx 5 (by decide)
    have e6 : ρ 6 = x6 := hx 6 (by decide)
    have e7 : ρ 7 = x7 := hx 7 (by decide)
    subst e0
    subst e1
    subst e2
    subst e3
    subst e4
    subst e5
    subst e6
    subst e7
    match stc, g8 with
    | [_], ⟨h, _⟩ => cases h; exact l0 τ ρ g1 g2 g3 g4 g5 g6
set_option maxRecDepth 100000 in
theorem zxm_debt_s6 {σ : pm_S} {Q : Option Value → pm_S → Prop} (x0 x1 x2 x3 x4 x5 x6 x7 : Int)  (hB : an_GB pm_B σ) (eF : (0 ≤ x0 ∧ x0 ≤ 9) ∧ (0 ≤ x1 ∧ x1 ≤ 9) ∧ ((-2147483648) ≤ x2 ∧ x2 ≤ 2147483647) ∧ ((-2147483648) ≤ x3 ∧ x3 ≤ 2147483647) ∧ (0 ≤ x4 ∧ x4 ≤ 10) ∧ (0 ≤ x5 ∧ x5 ≤ 10) ∧ (0 ≤ x6 ∧ x6 ≤ 30) ∧ ((-2147483648) ≤ x7 ∧ x7 ≤ 2147483647) ∧ True) (eC : (σ.1 93 2).toInt = x4 ∧ (σ.1 93 5).toInt = x5 ∧ (σ.1 93 11).toInt = x6 ∧ (σ.1 93 19).toInt = x7 ∧ True)
    (l0 : ∀ (τ : pm_S) (y : Nat → Int), an_GB pm_B τ → FQ [(93, 0), (93, 11)] σ τ → ((0 ≤ x0 ∧ x0 ≤ 9) ∧ (0 ≤ x1 ∧ x1 ≤ 9) ∧ ((-2147483648) ≤ x2 ∧ x2 ≤ 0) ∧ ((-2147483648) ≤ x3 ∧ x3 ≤ 2147483647) ∧ (0 ≤ x4 ∧ x4 ≤ 10) ∧ (0 ≤ x5 ∧ x5 ≤ 10) ∧ (0 ≤ x6 ∧ x6 ≤ 30) ∧ ((-2147483648) ≤ x7 ∧ x7 ≤ 2147483647) ∧ True) → (True) → (True) → ((τ.1 93 2).toInt = x4 ∧ (τ.1 93 5).toInt = x5 ∧ (τ.1 93 11).toInt = x6 ∧ (τ.1 93 19).toInt = x7 ∧ True) → Q (some (.int (Int32.ofInt (-1)))) τ)
    (l1 : ∀ (τ : pm_S) (y : Nat → Int), an_GB pm_B τ → FQ [(93, 0), (93, 11)] σ τ → ((0 ≤ x0 ∧ x0 ≤ 9) ∧ (0 ≤ x1 ∧ x1 ≤ 9) ∧ (10000 ≤ x2 ∧ x2 ≤ 2147483647) ∧ ((-2147483648) ≤ x3 ∧ x3 ≤ 2147483647) ∧ (0 ≤ x4 ∧ x4 ≤ 10) ∧ (0 ≤ x5 ∧ x5 ≤ 10) ∧ (0 ≤ x6 ∧ x6 ≤ 30) ∧ ((-2147483648) ≤ x7 ∧ x7 ≤ 2147483647) ∧ True) → (True) → (True) → ((τ.1 93 2).toInt = x4 ∧ (τ.1 93 5).toInt = x5 ∧ (τ.1 93 11).toInt = x6 ∧ (τ.1 93 19).toInt = x7 ∧ True) → Q (some (.int (Int32.ofInt (-1)))) τ)
    (l2 : ∀ (τ : pm_S) (y : Nat → Int), an_GB pm_B τ → FQ [(93, 0), (93, 11)] σ τ → ((0 ≤ x0 ∧ x0 ≤ 9) ∧ (0 ≤ x1 ∧ x1 ≤ 9) ∧ (1 ≤ x2 ∧ x2 ≤ 9999) ∧ ((-2147483648) ≤ x3 ∧ x3 ≤ 2147483647) ∧ (0 ≤ x4 ∧ x4 ≤ 10) ∧ (0 ≤ x5 ∧ x5 ≤ 10) ∧ (0 ≤ x6 ∧ x6 ≤ 30) ∧ ((-2147483648) ≤ x7 ∧ x7 ≤ 2147483647) ∧ True) → (True) → (True) → ((τ.1 93 2).toInt = x4 ∧ (τ.1 93 5).toInt = x5 ∧ (τ.1 93 11).toInt = x6 ∧ (τ.1 93 19).toInt = x7 ∧ True) → Ok 169 21 22 [.ref 93, .int (Int32.ofInt (x0)), .int (Int32.ofInt (x1)), .int (Int32.ofInt (x2)), .int (Int32.ofInt (x3))] [.int (Int32.ofInt (x3)), .ref 93] τ Q)
    : Ok 169 21 14 [.ref 93, .int (Int32.ofInt (x0)), .int (Int32.ofInt (x1)), .int (Int32.ofInt (x2)), .int (Int32.ofInt (x3))] [] σ Q := by
  refine an_seg (B := pm_B) (F := [(93, 0), (93, 11)]) (T := []) (S := []) (fun _ h => absurd h List.not_mem_nil) (k := 169) (d := 20) (cs := [5, 9, 13, 22, 35, 41, 47, 53, 60, 66, 72]) 19 14 8 [(0, 0, 9), (1, 0, 9), (2, (-2147483648), 2147483647), (3, (-2147483648), 2147483647), (4, 0, 10), (5, 0, 10), (6, 0, 30), (7, (-2147483648), 2147483647)] [(93, (1, 0, 2), (0, 4, 0)), (93, (1, 0, 5), (0, 5, 0)), (93, (1, 0, 11), (0, 6, 0)), (93, (1, 0, 19), (0, 7, 0))] [(2, 93, 0), (0, 0, 0), (0, 1, 0), (0, 2, 0), (0, 3, 0)] [] [(9999, [], [(1, 0, (-1))], [(0, 0, 9), (1, 0, 9), (2, (-2147483648), 0), (3, (-2147483648), 2147483647), (4, 0, 10), (5, 0, 10), (6, 0, 30), (7, (-2147483648), 2147483647)], [], [], [(93, (1, 0, 2), (0, 4, 0)), (93, (1, 0, 5), (0, 5, 0)), (93, (1, 0, 11), (0, 6, 0)), (93, (1, 0, 19), (0, 7, 0))]),
    (9999, [], [(1, 0, (-1))], [(0, 0, 9), (1, 0, 9), (2, 10000, 2147483647), (3, (-2147483648), 2147483647), (4, 0, 10), (5, 0, 10), (6, 0, 30), (7, (-2147483648), 2147483647)], [], [], [(93, (1, 0, 2), (0, 4, 0)), (93, (1, 0, 5), (0, 5, 0)), (93, (1, 0, 11), (0, 6, 0)), (93, (1, 0, 19), (0, 7, 0))]),
    (22, [(2, 93, 0), (0, 0, 0), (0, 1, 0), (0, 2, 0), (0, 3, 0)], [(0, 3, 0), (2, 93, 0)], [(0, 0, 9), (1, 0, 9), (2, 1, 9999), (3, (-2147483648), 2147483647), (4, 0, 10), (5, 0, 10), (6, 0, 30), (7, (-2147483648), 2147483647)], [], [], [(93, (1, 0, 2), (0, 4, 0)), (93, (1, 0, 5), (0, 5, 0)), (93, (1, 0, 11), (0, 6, 0)), (93, (1, 0, 19), (0, 7, 0))])] (by decide +kernel) (ρ0 := (fun s => [x0, x1, x2, x3, x4, x5, x6, x7].getD s 0)) hB eF eC ⟨rfl, ⟨rfl, ⟨rfl, ⟨rfl, ⟨rfl, trivial⟩⟩⟩⟩⟩ trivial ?_
  refine List.forall_mem_cons.mpr ⟨?_, List.forall_mem_cons.mpr ⟨?_, List.forall_mem_cons.mpr ⟨?_, fun _ h => absurd h List.not_mem_nil⟩⟩⟩
  · intro ρ τ Lc stc hx g1 g2 g3 g4 g5 g6 g7 g8
    have e0 : ρ 0 = x0 := hx 0 (by decide)
    have e1 : ρ 1 = x1 := hx 1 (by decide)
    have e2 : ρ 2 = x2 := hx 2 (by decide)
    have e3 : ρ 3 = x3 := hx 3 (by decide)
    have e4 : ρ 4 = x4 := hx 4 (by decide)
    have e5 : ρ 5 = x5 := hx 5 (by decide)
    have e6 : ρ 6 = x6 := hx 6 (by decide)
    have e7 : ρ 7 = x7 := hx 7 (by decide)
    subst e0
    subst e1
    subst e2
    subst e3
    subst e4
    subst e5
    subst e6
    subst e7
    match stc, g8 with
    | [_], ⟨h, _⟩ => cases h; exact l0 τ ρ g1 g2 g3 g4 g5 g6
  · intro ρ τ Lc stc hx g1 g2 g3 g4 g5 g6 g7 g8
    have e0 : ρ 0 = x0 := hx 0 (by decide)
    have e1 : ρ 1 = x1 := hx 1 (by decide)
    have e2 : ρ 2 = x2 := hx 2 (by decide)
    have e3 : ρ 3 = x3 := hx 3 (by decide)
    have e4 : ρ 4 = x4 := hx 4 (by decide)
    have e5 : ρ 5 = x5 := hx 5 (by decide)
    have e6 : ρ 6 = x6 := hx 6 (by decide)
    have e7 : ρ 7 = x7 := hx 7 (by decide)
    subst e0
    subst e1
    subst e2
    subst e3
    subst e4
    subst e5
    subst e6
    subst e7
    match stc, g8 with
    | [_], ⟨h, _⟩ => cases h; exact l1 τ ρ g1 g2 g3 g4 g5 g6
  · intro ρ τ Lc stc hx g1 g2 g3 g4 g5 g6 g7 g8
    have e0 : ρ 0 = x0 := hx 0 (by decide)
    have e1 : ρ 1 = x1 := hx 1 (by decide)
    have e2 : ρ 2 = x2 := hx 2 (by decide)
    have e3 : ρ 3 = x3 := hx 3 (by decide)
    have e4 : ρ 4 = x4 := hx 4 (by decide)
    have e5 : ρ 5 = x5 := hx 5 (by decide)
    have e6 : ρ 6 = x6 := hx 6 (by decide)
    have e7 : ρ 7 = x7 := hx 7 (by decide)
    subst e0
    subst e1
    subst e2
    subst e3
    subst e4
    subst e5
    subst e6
    subst e7
    have g7 := g7 (by decide)
    match Lc, stc, g7, g8 with
    | [v0, v1, v2, v3, v4], [w0, w1], ⟨hv0, hv1, hv2, hv3, hv4, _⟩, ⟨hw0, hw1, _⟩ =>
      cases hv0
      cases hv1
      cases hv2
      cases hv3
      cases hv4
      cases hw0
      cases hw1
      exact l2 τ ρ  g1 g2 g3 g4 g5 g6
set_option maxRecDepth 100000 in
theorem zxm_debt_s7 {σ : pm_S} {Q : Option Value → pm_S → Prop} (x0 x1 x2 x3 x4 x5 x6 x7 : Int)  (hB : an_GB pm_B σ) (eF : (0 ≤ x0 ∧ x0 ≤ 9) ∧ (0 ≤ x1 ∧ x1 ≤ 9) ∧ (1 ≤ x2 ∧ x2 ≤ 9999) ∧ ((-2147483648) ≤ x3 ∧ x3 ≤ 2147483647) ∧ (0 ≤ x4 ∧ x4 ≤ 10) ∧ (0 ≤ x5 ∧ x5 ≤ 10) ∧ (0 ≤ x6 ∧ x6 ≤ 30) ∧ ((-2147483648) ≤ x7 ∧ x7 ≤ 2147483647) ∧ True) (eC : (σ.1 93 2).toInt = x4 ∧ (σ.1 93 5).toInt = x5 ∧ (σ.1 93 11).toInt = x6 ∧ (σ.1 93 19).toInt = x7 ∧ True)
    (l0 : ∀ (τ : pm_S) (y : Nat → Int), an_GB pm_B τ → FQ [(93, 0), (93, 11)] σ τ → ((0 ≤ x0 ∧ x0 ≤ 9) ∧ (0 ≤ x1 ∧ x1 ≤ 9) ∧ (1 ≤ x2 ∧ x2 ≤ 9999) ∧ ((-2147483648) ≤ x3 ∧ x3 ≤ 2147483647) ∧ (0 ≤ x4 ∧ x4 ≤ 10) ∧ (0 ≤ x5 ∧ x5 ≤ 10) ∧ (0 ≤ x6 ∧ x6 ≤ 30) ∧ ((-2147483648) ≤ x7 ∧ x7 ≤ 2147483647) ∧ True) → (True) → (True) → ((τ.1 93 2).toInt = x4 ∧ (τ.1 93 5).toInt = x5 ∧ (τ.1 93 11).toInt = x6 ∧ (τ.1 93 19).toInt = x7 ∧ True) → Q (some (.int (Int32.ofInt (-1)))) τ)
    : Ok 169 21 23 [.ref 93, .int (Int32.ofInt (x0)), .int (Int32.ofInt (x1)), .int (Int32.ofInt (x2)), .int (Int32.ofInt (x3))] [.int (Int32.ofInt 0)] σ Q := by
  refine an_seg (B := pm_B) (F := [(93, 0), (93, 11)]) (T := []) (S := []) (fun _ h => absurd h List.not_mem_nil) (k := 169) (d := 20) (cs := [5, 9, 13, 22, 35, 41, 47, 53, 60, 66, 72]) 5 23 8 [(0, 0, 9), (1, 0, 9), (2, 1, 9999), (3, (-2147483648), 2147483647), (4, 0, 10), (5, 0, 10), (6, 0, 30), (7, (-2147483648), 2147483647)] [(93, (1, 0, 2), (0, 4, 0)), (93, (1, 0, 5), (0, 5, 0)), (93, (1, 0, 11), (0, 6, 0)), (93, (1, 0, 19), (0, 7, 0))] [(2, 93, 0), (0, 0, 0), (0, 1, 0), (0, 2, 0), (0, 3, 0)] [(1, 0, 0)] [(9999, [], [(1, 0, (-1))], [(0, 0, 9), (1, 0, 9), (2, 1, 9999), (3, (-2147483648), 2147483647), (4, 0, 10), (5, 0, 10), (6, 0, 30), (7, (-2147483648), 2147483647)], [], [], [(93, (1, 0, 2), (0, 4, 0)), (93, (1, 0, 5), (0, 5, 0)), (93, (1, 0, 11), (0, 6, 0)), (93, (1, 0, 19), (0, 7, 0))])] (by decide +kernel) (ρ0 := (fun s => [x0, x1, x2, x3, x4, x5, x6, x7].getD s 0)) hB eF eC ⟨rfl, ⟨rfl, ⟨rfl, ⟨rfl, ⟨rfl, trivial⟩⟩⟩⟩⟩ ⟨rfl, trivial⟩ ?_
  refine List.forall_mem_cons.mpr ⟨?_, fun _ h => absurd h List.not_mem_nil⟩
  · intro ρ τ Lc stc hx g1 g2 g3 g4 g5 g6 g7 g8
    have e0 : ρ 0 = x0 := hx 0 (by decide)
    have e1 : ρ 1 = x1 := hx 1 (by decide)
    have e2 : ρ 2 = x2 := hx 2 (by decide)
    have e3 : ρ 3 = x3 := hx 3 (by decide)
    have e4 : ρ 4 = x4 := hx 4 (by decide)
    have e5 : ρ 5 = x5 := hx 5 (by decide)
    have e6 : ρ 6 = x6 := hx 6 (by decide)
    have e7 : ρ 7 = x7 := hx 7 (by decide)
    subst e0
    subst e1
    subst e2
    subst e3
    subst e4
    subst e5
    subst e6
    subst e7
    match stc, g8 with
    | [_], ⟨h, _⟩ => cases h; exact l0 τ ρ g1 g2 g3 g4 g5 g6
set_option maxRecDepth 100000 in
theorem zxm_debt_s8 {σ : pm_S} {Q : Option Value → pm_S → Prop} (x0 x1 x2 x3 x4 x5 x6 x7 : Int)  (hB : an_GB pm_B σ) (eF : (0 ≤ x0 ∧ x0 ≤ 9) ∧ (0 ≤ x1 ∧ x1 ≤ 9) ∧ (1 ≤ x2 ∧ x2 ≤ 9999) ∧ (0 ≤ x3 ∧ x3 ≤ 9) ∧ (0 ≤ x4 ∧ x4 ≤ 10) ∧ (0 ≤ x5 ∧ x5 ≤ 10) ∧ (0 ≤ x6 ∧ x6 ≤ 30) ∧ ((-2147483648) ≤ x7 ∧ x7 ≤ 2147483647) ∧ True) (eC : (σ.1 93 2).toInt = x4 ∧ (σ.1 93 5).toInt = x5 ∧ (σ.1 93 11).toInt = x6 ∧ (σ.1 93 19).toInt = x7 ∧ True)
    (l0 : ∀ (τ : pm_S) (y : Nat → Int), an_GB pm_B τ → FQ [(93, 0), (93, 11)] σ τ → ((0 ≤ x0 ∧ x0 ≤ 9) ∧ (0 ≤ x1 ∧ x1 ≤ 9) ∧ (1 ≤ x2 ∧ x2 ≤ 9999) ∧ (0 ≤ x3 ∧ x3 ≤ 9) ∧ (0 ≤ x4 ∧ x4 ≤ 10) ∧ (0 ≤ x5 ∧ x5 ≤ 10) ∧ (0 ≤ x6 ∧ x6 ≤ 29) ∧ ((-2147483648) ≤ x7 ∧ x7 ≤ 2147483647) ∧ True) → (True) → (True) → ((τ.1 93 2).toInt = x4 ∧ (τ.1 93 5).toInt = x5 ∧ (τ.1 93 11).toInt = x6 ∧ (τ.1 93 19).toInt = x7 ∧ True) → Ok 169 21 35 [.ref 93, .int (Int32.ofInt (x0)), .int (Int32.ofInt (x1)), .int (Int32.ofInt (x2)), .int (Int32.ofInt (x3))] [.int (Int32.ofInt (x0)), .int (Int32.ofInt (x6)), .ref 101] τ Q)
    (l1 : ∀ (τ : pm_S) (y : Nat → Int), an_GB pm_B τ → FQ [(93, 0), (93, 11)] σ τ → ((0 ≤ x0 ∧ x0 ≤ 9) ∧ (0 ≤ x1 ∧ x1 ≤ 9) ∧ (1 ≤ x2 ∧ x2 ≤ 9999) ∧ (0 ≤ x3 ∧ x3 ≤ 9) ∧ (0 ≤ x4 ∧ x4 ≤ 10) ∧ (0 ≤ x5 ∧ x5 ≤ 10) ∧ (30 ≤ x6 ∧ x6 ≤ 30) ∧ ((-2147483648) ≤ x7 ∧ x7 ≤ 2147483647) ∧ True) → (True) → (True) → ((τ.1 93 2).toInt = x4 ∧ (τ.1 93 5).toInt = x5 ∧ (τ.1 93 11).toInt = x6 ∧ (τ.1 93 19).toInt = x7 ∧ True) → Q (some (.int (Int32.ofInt (-1)))) τ)
    : Ok 169 21 23 [.ref 93, .int (Int32.ofInt (x0)), .int (Int32.ofInt (x1)), .int (Int32.ofInt (x2)), .int (Int32.ofInt (x3))] [.int (Int32.ofInt 1)] σ Q := by
  refine an_seg (B := pm_B) (F := [(93, 0), (93, 11)]) (T := []) (S := []) (fun _ h => absurd h List.not_mem_nil) (k := 169) (d := 20) (cs := [5, 9, 13, 22, 35, 41, 47, 53, 60, 66, 72]) 12 23 8 [(0, 0, 9), (1, 0, 9), (2, 1, 9999), (3, 0, 9), (4, 0, 10), (5, 0, 10), (6, 0, 30), (7, (-2147483648), 2147483647)] [(93, (1, 0, 2), (0, 4, 0)), (93, (1, 0, 5), (0, 5, 0)), (93, (1, 0, 11), (0, 6, 0)), (93, (1, 0, 19), (0, 7, 0))] [(2, 93, 0), (0, 0, 0), (0, 1, 0), (0, 2, 0), (0, 3, 0)] [(1, 0, 1)] [(35, [(2, 93, 0), (0, 0, 0), (0, 1, 0), (0, 2, 0), (0, 3, 0)], [(0, 0, 0), (0, 6, 0), (2, 101, 0)], [(0, 0, 9), (1, 0, 9), (2, 1, 9999), (3, 0, 9), (4, 0, 10), (5, 0, 10), (6, 0, 29), (7, (-2147483648), 2147483647)], [], [], [(93, (1, 0, 2), (0, 4, 0)), (93, (1, 0, 5), (0, 5, 0)), (93, (1, 0, 11), (0, 6, 0)), (93, (1, 0, 19), (0, 7, 0))]),
    (9999, [], [(1, 0, (-1))], [(0, 0, 9), (1, 0, 9), (2, 1, 9999), (3, 0, 9), (4, 0, 10), (5, 0, 10), (6, 30, 30), (7, (-2147483648), 2147483647)], [], [], [(93, (1, 0, 2), (0, 4, 0)), (93, (1, 0, 5), (0, 5, 0)), (93, (1, 0, 11), (0, 6, 0)), (93, (1, 0, 19), (0, 7, 0))])] (by decide +kernel) (ρ0 := (fun s => [x0, x1, x2, x3, x4, x5, x6, x7].getD s 0)) hB eF eC ⟨rfl, ⟨rfl, ⟨rfl, ⟨rfl, ⟨rfl, trivial⟩⟩⟩⟩⟩ ⟨rfl, trivial⟩ ?_
  refine List.forall_mem_cons.mpr ⟨?_, List.forall_mem_cons.mpr ⟨?_, fun _ h => absurd h List.not_mem_nil⟩⟩
  · intro ρ τ Lc stc hx g1 g2 g3 g4 g5 g6 g7 g8
    have e0 : ρ 0 = x0 := hx 0 (by decide)
    have e1 : ρ 1 = x1 := hx 1 (by decide)
    have e2 : ρ 2 = x2 := hx 2 (by decide)
    have e3 : ρ 3 = x3 := hx 3 (by decide)
    have e4 : ρ 4 = x4 := hx 4 (by decide)
    have e5 : ρ 5 = x5 := hx 5 (by decide)
    have e6 : ρ 6 = x6 := hx 6 (by decide)
    have e7 : ρ 7 = x7 := hx 7 (by decide)
    subst e0
    subst e1
    subst e2
    subst e3
    subst e4
    subst e5
    subst e6
    subst e7
    have g7 := g7 (by decide)
    match Lc, stc, g7, g8 with
    | [v0, v1, v2, v3, v4], [w0, w1, w2], ⟨hv0, hv1, hv2, hv3, hv4, _⟩, ⟨hw0, hw1, hw2, _⟩ =>
      cases hv0
      cases hv1
      cases hv2
      cases hv3
      cases hv4
      cases hw0
      cases hw1
      cases hw2
      exact l0 τ ρ  g1 g2 g3 g4 g5 g6
  · intro ρ τ Lc stc hx g1 g2 g3 g4 g5 g6 g7 g8
    have e0 : ρ 0 = x0 := hx 0 (by decide)
    have e1 : ρ 1 = x1 := hx 1 (by decide)
    have e2 : ρ 2 = x2 := hx 2 (by decide)
    have e3 : ρ 3 = x3 := hx 3 (by decide)
    have e4 : ρ 4 = x4 := hx 4 (by decide)
    have e5 : ρ 5 = x5 := hx 5 (by decide)
    have e6 : ρ 6 = x6 := hx 6 (by decide)
    have e7 : ρ 7 = x7 := hx 7 (by decide)
    subst e0
    subst e1
    subst e2
    subst e3
    subst e4
    subst e5
    subst e6
    subst e7
    match stc, g8 with
    | [_], ⟨h, _⟩ => cases h; exact l1 τ ρ g1 g2 g3 g4 g5 g6
set_option maxRecDepth 100000 in
theorem zxm_debt_s9 {σ : pm_S} {Q : Option Value → pm_S → Prop} (x0 x1 x2 x3 x4 x5 x6 x7 : Int)  (hB : an_GB pm_B σ) (eF : (0 ≤ x0 ∧ x0 ≤ 9) ∧ (0 ≤ x1 ∧ x1 ≤ 9) ∧ (1 ≤ x2 ∧ x2 ≤ 9999) ∧ (0 ≤ x3 ∧ x3 ≤ 9) ∧ (0 ≤ x4 ∧ x4 ≤ 10) ∧ (0 ≤ x5 ∧ x5 ≤ 10) ∧ (0 ≤ x6 ∧ x6 ≤ 29) ∧ ((-2147483648) ≤ x7 ∧ x7 ≤ 2147483647) ∧ True) (eC : (σ.1 93 2).toInt = x4 ∧ (σ.1 93 5).toInt = x5 ∧ (σ.1 93 11).toInt = x6 ∧ (σ.1 93 19).toInt = x7 ∧ True)
    (l0 : ∀ (τ : pm_S) (y : Nat → Int), an_GB pm_B τ → FQ [(93, 0), (93, 11)] σ τ → ((0 ≤ x0 ∧ x0 ≤ 9) ∧ (0 ≤ x1 ∧ x1 ≤ 9) ∧ (1 ≤ x2 ∧ x2 ≤ 9999) ∧ (0 ≤ x3 ∧ x3 ≤ 9) ∧ (0 ≤ x4 ∧ x4 ≤ 10) ∧ (0 ≤ x5 ∧ x5 ≤ 10) ∧ (0 ≤ x6 ∧ x6 ≤ 29) ∧ ((-2147483648) ≤ x7 ∧ x7 ≤ 2147483647) ∧ True) → (True) → (True) → ((τ.1 93 2).toInt = x4 ∧ (τ.1 93 5).toInt = x5 ∧ (τ.1 93 11).toInt = x6 ∧ (τ.1 93 19).toInt = x7 ∧ True) → Ok 169 21 41 [.ref 93, .int (Int32.ofInt (x0)), .int (Int32.ofInt (x1)), .int (Int32.ofInt (x2)), .int (Int32.ofInt (x3))] [.int (Int32.ofInt (x1)), .int (Int32.ofInt (x6)), .ref 102] τ Q)
    : Ok 169 21 36 [.ref 93, .int (Int32.ofInt (x0)), .int (Int32.ofInt (x1)), .int (Int32.ofInt (x2)), .int (Int32.ofInt (x3))] [] σ Q := by
  refine an_seg (B := pm_B) (F := [(93, 0), (93, 11)]) (T := []) (S := []) (fun _ h => absurd h List.not_mem_nil) (k := 169) (d := 20) (cs := [5, 9, 13, 22, 35, 41, 47, 53, 60, 66, 72]) 7 36 8 [(0, 0, 9), (1, 0, 9), (2, 1, 9999), (3, 0, 9), (4, 0, 10), (5, 0, 10), (6, 0, 29), (7, (-2147483648), 2147483647)] [(93, (1, 0, 2), (0, 4, 0)), (93, (1, 0, 5), (0, 5, 0)), (93, (1, 0, 11), (0, 6, 0)), (93, (1, 0, 19), (0, 7, 0))] [(2, 93, 0), (0, 0, 0), (0, 1, 0), (0, 2, 0), (0, 3, 0)] [] [(41, [(2, 93, 0), (0, 0, 0), (0, 1, 0), (0, 2, 0), (0, 3, 0)], [(0, 1, 0), (0, 6, 0), (2, 102, 0)], [(0, 0, 9), (1, 0, 9), (2, 1, 9999), (3, 0, 9), (4, 0, 10), (5, 0, 10), (6, 0, 29), (7, (-2147483648), 2147483647)], [], [], [(93, (1, 0, 2), (0, 4, 0)), (93, (1, 0, 5), (0, 5, 0)), (93, (1, 0, 11), (0, 6, 0)), (93, (1, 0, 19), (0, 7, 0))])] (by decide +kernel) (ρ0 := (fun s => [x0, x1, x2, x3, x4, x5, x6, x7].getD s 0)) hB eF eC ⟨rfl, ⟨rfl, ⟨rfl, ⟨rfl, ⟨rfl, trivial⟩⟩⟩⟩⟩ trivial ?_
  refine List.forall_mem_cons.mpr ⟨?_, fun _ h => absurd h List.not_mem_nil⟩
  · intro ρ τ Lc stc hx g1 g2 g3 g4 g5 g6 g7 g8
    have e0 : ρ 0 = x0 := hx 0 (by decide)
    have e1 : ρ 1 = x1 := hx 1 (by decide)
    have e2 : ρ 2 = x2 := hx 2 (by decide)
    have e3 : ρ 3 = x3 := hx 3 (by decide)
    have e4 : ρ 4 = x4 := hx 4 (by decide)
    have e5 : ρ 5 = x5 := hx 5 (by decide)
    have e6 : ρ 6 = x6 := hx 6 (by decide)
    have e7 : ρ 7 = x7 := hx 7 (by decide)
    subst e0
    subst e1
    subst e2
    subst e3
    subst e4
    subst e5
    subst e6
    subst e7
    have g7 := g7 (by decide)
    match Lc, stc, g7, g8 with
    | [v0, v1, v2, v3, v4], [w0, w1, w2], ⟨hv0, hv1, hv2, hv3, hv4, _⟩, ⟨hw0, hw1, hw2, _⟩ =>
      cases hv0
      cases hv1
      cases hv2
      cases hv3
      cases hv4
      cases hw0
      cases hw1
      cases hw2
      exact l0 τ ρ  g1 g2 g3 g4 g5 g6
set_option maxRecDepth 100000 in
theorem zxm_debt_s10 {σ : pm_S} {Q : Option Value → pm_S → Prop} (x0 x1 x2 x3 x4 x5 x6 x7 : Int)  (hB : an_GB pm_B σ) (eF : (0 ≤ x0 ∧ x0 ≤ 9) ∧ (0 ≤ x1 ∧ x1 ≤ 9) ∧ (1 ≤ x2 ∧ x2 ≤ 9999) ∧ (0 ≤ x3 ∧ x3 ≤ 9) ∧ (0 ≤ x4 ∧ x4 ≤ 10) ∧ (0 ≤ x5 ∧ x5 ≤ 10) ∧ (0 ≤ x6 ∧ x6 ≤ 29) ∧ ((-2147483648) ≤ x7 ∧ x7 ≤ 2147483647) ∧ True) (eC : (σ.1 93 2).toInt = x4 ∧ (σ.1 93 5).toInt = x5 ∧ (σ.1 93 11).toInt = x6 ∧ (σ.1 93 19).toInt = x7 ∧ True)
    (l0 : ∀ (τ : pm_S) (y : Nat → Int), an_GB pm_B τ → FQ [(93, 0), (93, 11)] σ τ → ((0 ≤ x0 ∧ x0 ≤ 9) ∧ (0 ≤ x1 ∧ x1 ≤ 9) ∧ (1 ≤ x2 ∧ x2 ≤ 9999) ∧ (0 ≤ x3 ∧ x3 ≤ 9) ∧ (0 ≤ x4 ∧ x4 ≤ 10) ∧ (0 ≤ x5 ∧ x5 ≤ 10) ∧ (0 ≤ x6 ∧ x6 ≤ 29) ∧ ((-2147483648) ≤ x7 ∧ x7 ≤ 2147483647) ∧ True) → (True) → (True) → ((τ.1 93 2).toInt = x4 ∧ (τ.1 93 5).toInt = x5 ∧ (τ.1 93 11).toInt = x6 ∧ (τ.1 93 19).toInt = x7 ∧ True) → Ok 169 21 47 [.ref 93, .int (Int32.ofInt (x0)), .int (Int32.ofInt (x1)), .int (Int32.ofInt (x2)), .int (Int32.ofInt (x3))] [.int (Int32.ofInt (x2)), .int (Int32.ofInt (x6)), .ref 103] τ Q)
    : Ok 169 21 42 [.ref 93, .int (Int32.ofInt (x0)), .int (Int32.ofInt (x1)), .int (Int32.ofInt (x2)), .int (Int32.ofInt (x3))] [] σ Q := by
  refine an_seg (B := pm_B) (F := [(93, 0), (93, 11)]) (T := []) (S := []) (fun _ h => absurd h List.not_mem_nil) (k := 169) (d := 20) (cs := [5, 9, 13, 22, 35, 41, 47, 53, 60, 66, 72]) 7 42 8 [(0, 0, 9), (1, 0, 9), (2, 1, 9999), (3, 0, 9), (4, 0, 10), (5, 0, 10), (6, 0, 29), (7, (-2147483648), 2147483647)] [(93, (1, 0, 2), (0, 4, 0)), (93, (1, 0, 5), (0, 5, 0)), (93, (1, 0, 11), (0, 6, 0)), (93, (1, 0, 19), (0, 7, 0))] [(2, 93, 0), (0, 0, 0), (0, 1, 0), (0, 2, 0), (0, 3, 0)] [] [(47, [(2, 93, 0), (0, 0, 0), (0, 1, 0), (0, 2, 0), (0, 3, 0)], [(0, 2, 0), (0, 6, 0), (2, 103, 0)], [(0, 0, 9), (1, 0, 9), (2, 1, 9999), (3, 0, 9), (4, 0, 10), (5, 0, 10), (6, 0, 29), (7, (-2147483648), 2147483647)], [], [], [(93, (1, 0, 2), (0, 4, 0)), (93, (1, 0, 5), (0, 5, 0)), (93, (1, 0, 11), (0, 6, 0)), (93, (1, 0, 19), (0, 7, 0))])] (by decide +kernel) (ρ0 := (fun s => [x0, x1, x2, x3, x4, x5, x6, x7].getD s 0)) hB eF eC ⟨rfl, ⟨rfl, ⟨rfl, ⟨rfl, ⟨rfl, trivial⟩⟩⟩⟩⟩ trivial ?_
  refine List.forall_mem_cons.mpr ⟨?_, fun _ h => absurd h List.not_mem_nil⟩
  · intro ρ τ Lc stc hx g1 g2 g3 g4 g5 g6 g7 g8
    have e0 : ρ 0 = x0 := hx 0 (by decide)
    have e1 : ρ 1 = x1 := hx 1 (by decide)
    have e2 : ρ 2 = x2 := hx 2 (by decide)
    have e3 : ρ 3 = x3 := hx 3 (by decide)
    have e4 : ρ 4 = x4 := hx 4 (by decide)
    have e5 : ρ 5 = x5 := hx 5 (by decide)
    have e6 : ρ 6 = x6 := hx 6 (by decide)
    have e7 : ρ 7 = x7 := hx 7 (by decide)
    subst e0
    subst e1
    subst e2
    subst e3
    subst e4
    subst e5
    subst e6
    subst e7
    have g7 := g7 (by decide)
    match Lc, stc, g7, g8 with
    | [v0, v1, v2, v3, v4], [w0, w1, w2], ⟨hv0, hv1, hv2, hv3, hv4, _⟩, ⟨hw0, hw1, hw2, _⟩ =>
      cases hv0
      cases hv1
      cases hv2
      cases hv3
      cases hv4
      cases hw0
      cases hw1
      cases hw2
      exact l0 τ ρ  g1 g2 g3 g4 g5 g6
set_option maxRecDepth 100000 in
theorem zxm_debt_s11 {σ : pm_S} {Q : Option Value → pm_S → Prop} (x0 x1 x2 x3 x4 x5 x6 x7 : Int)  (hB : an_GB pm_B σ) (eF : (0 ≤ x0 ∧ x0 ≤ 9) ∧ (0 ≤ x1 ∧ x1 ≤ 9) ∧ (1 ≤ x2 ∧ x2 ≤ 9999) ∧ (0 ≤ x3 ∧ x3 ≤ 9) ∧ (0 ≤ x4 ∧ x4 ≤ 10) ∧ (0 ≤ x5 ∧ x5 ≤ 10) ∧ (0 ≤ x6 ∧ x6 ≤ 29) ∧ ((-2147483648) ≤ x7 ∧ x7 ≤ 2147483647) ∧ True) (eC : (σ.1 93 2).toInt = x4 ∧ (σ.1 93 5).toInt = x5 ∧ (σ.1 93 11).toInt = x6 ∧ (σ.1 93 19).toInt = x7 ∧ True)
    (l0 : ∀ (τ : pm_S) (y : Nat → Int), an_GB pm_B τ → FQ [(93, 0), (93, 11)] σ τ → ((0 ≤ x0 ∧ x0 ≤ 9) ∧ (0 ≤ x1 ∧ x1 ≤ 9) ∧ (1 ≤ x2 ∧ x2 ≤ 9999) ∧ (0 ≤ x3 ∧ x3 ≤ 9) ∧ (0 ≤ x4 ∧ x4 ≤ 10) ∧ (0 ≤ x5 ∧ x5 ≤ 10) ∧ (0 ≤ x6 ∧ x6 ≤ 29) ∧ ((-2147483648) ≤ x7 ∧ x7 ≤ 2147483647) ∧ True) → (True) → (True) → ((τ.1 93 2).toInt = x4 ∧ (τ.1 93 5).toInt = x5 ∧ (τ.1 93 11).toInt = x6 ∧ (τ.1 93 19).toInt = x7 ∧ True) → Ok 169 21 53 [.ref 93, .int (Int32.ofInt (x0)), .int (Int32.ofInt (x1)), .int (Int32.ofInt (x2)), .int (Int32.ofInt (x3))] [.int (Int32.ofInt (x3)), .int (Int32.ofInt (x6)), .ref 104] τ Q)
    : Ok 169 21 48 [.ref 93, .int (Int32.ofInt (x0)), .int (Int32.ofInt (x1)), .int (Int32.ofInt (x2)), .int (Int32.ofInt (x3))] [] σ Q := by
  refine an_seg (B := pm_B) (F := [(93, 0), (93, 11)]) (T := []) (S := []) (fun _ h => absurd h List.not_mem_nil) (k := 169) (d := 20) (cs := [5, 9, 13, 22, 35, 41, 47, 53, 60, 66, 72]) 7 48 8 [(0, 0, 9), (1, 0, 9), (2, 1, 9999), (3, 0, 9), (4, 0, 10), (5, 0, 10), (6, 0, 29), (7, (-2147483648), 2147483647)] [(93, (1, 0, 2), (0, 4, 0)), (93, (1, 0, 5), (0, 5, 0)), (93, (1, 0, 11), (0, 6, 0)), (93, (1, 0, 19), (0, 7, 0))] [(2, 93, 0), (0, 0, 0), (0, 1, 0), (0, 2, 0), (0, 3, 0)] [] [(53, [(2, 93, 0), (0, 0, 0), (0, 1, 0), (0, 2, 0), (0, 3, 0)], [(0, 3, 0), (0, 6, 0), (2, 104, 0)], [(0, 0, 9), (1, 0, 9), (2, 1, 9999), (3, 0, 9), (4, 0, 10), (5, 0, 10), (6, 0, 29), (7, (-2147483648), 2147483647)], [], [], [(93, (1, 0, 2), (0, 4, 0)), (93, (1, 0, 5), (0, 5, 0)), (93, (1, 0, 11), (0, 6, 0)), (93, (1, 0, 19), (0, 7, 0))])] (by decide +kernel) (ρ0 := (fun s => [x0, x1, x2, x3, x4, x5, x6, x7].getD s 0)) hB eF eC ⟨rfl, ⟨rfl, ⟨rfl, ⟨rfl, ⟨rfl, trivial⟩⟩⟩⟩⟩ trivial ?_
  refine List.forall_mem_cons.mpr ⟨?_, fun _ h => absurd h List.not_mem_nil⟩
  · intro ρ τ Lc stc hx g1 g2 g3 g4 g5 g6 g7 g8
    have e0 : ρ 0 = x0 := hx 0 (by decide)
    have e1 : ρ 1 = x1 := hx 1 (by decide)
    have e2 : ρ 2 = x2 := hx 2 (by decide)
    have e3 : ρ 3 = x3 := hx 3 (by decide)
    have e4 : ρ 4 = x4 := hx 4 (by decide)
    have e5 : ρ 5 = x5 := hx 5 (by decide)
    have e6 : ρ 6 = x6 := hx 6 (by decide)
    have e7 : ρ 7 = x7 := hx 7 (by decide)
    subst e0
    subst e1
    subst e2
    subst e3
    subst e4
    subst e5
    subst e6
    subst e7
    have g7 := g7 (by decide)
    match Lc, stc, g7, g8 with
    | [v0, v1, v2, v3, v4], [w0, w1, w2], ⟨hv0, hv1, hv2, hv3, hv4, _⟩, ⟨hw0, hw1, hw2, _⟩ =>
      cases hv0
      cases hv1
      cases hv2
      cases hv3
      cases hv4
      cases hw0
      cases hw1
      cases hw2
      exact l0 τ ρ  g1 g2 g3 g4 g5 g6
set_option maxRecDepth 100000 in
theorem zxm_debt_s12 {σ : pm_S} {Q : Option Value → pm_S → Prop} (x0 x1 x2 x3 x4 x5 x6 x7 : Int)  (hB : an_GB pm_B σ) (eF : (0 ≤ x0 ∧ x0 ≤ 9) ∧ (0 ≤ x1 ∧ x1 ≤ 9) ∧ (1 ≤ x2 ∧ x2 ≤ 9999) ∧ (0 ≤ x3 ∧ x3 ≤ 9) ∧ (0 ≤ x4 ∧ x4 ≤ 10) ∧ (0 ≤ x5 ∧ x5 ≤ 10) ∧ (0 ≤ x6 ∧ x6 ≤ 29) ∧ ((-2147483648) ≤ x7 ∧ x7 ≤ 2147483647) ∧ True) (eC : (σ.1 93 2).toInt = x4 ∧ (σ.1 93 5).toInt = x5 ∧ (σ.1 93 11).toInt = x6 ∧ (σ.1 93 19).toInt = x7 ∧ True)
    (l0 : ∀ (τ : pm_S) (y : Nat → Int), an_GB pm_B τ → FQ [(93, 0), (93, 11)] σ τ → ((0 ≤ x0 ∧ x0 ≤ 9) ∧ (0 ≤ x1 ∧ x1 ≤ 9) ∧ (1 ≤ x2 ∧ x2 ≤ 9999) ∧ (0 ≤ x3 ∧ x3 ≤ 9) ∧ (0 ≤ x4 ∧ x4 ≤ 10) ∧ (0 ≤ x5 ∧ x5 ≤ 10) ∧ (0 ≤ x6 ∧ x6 ≤ 29) ∧ ((-2147483648) ≤ x7 ∧ x7 ≤ 2147483647) ∧ True) → (True) → (True) → ((τ.1 93 2).toInt = x4 ∧ (τ.1 93 5).toInt = x5 ∧ (τ.1 93 11).toInt = x6 ∧ (τ.1 93 19).toInt = x7 ∧ True) → Ok 169 21 60 [.ref 93, .int (Int32.ofInt (x0)), .int (Int32.ofInt (x1)), .int (Int32.ofInt (x2)), .int (Int32.ofInt (x3))] [.int (Int32.ofInt (x7)), .int (Int32.ofInt (x6)), .ref 105] τ Q)
    : Ok 169 21 54 [.ref 93, .int (Int32.ofInt (x0)), .int (Int32.ofInt (x1)), .int (Int32.ofInt (x2)), .int (Int32.ofInt (x3))] [] σ Q := by
  refine an_seg (B := pm_B) (F := [(93, 0), (93, 11)]) (T := []) (S := []) (fun _ h => absurd h List.not_mem_nil) (k := 169) (d := 20) (cs := [5, 9, 13, 22, 35, 41, 47, 53, 60, 66, 72]) 8 54 8 [(0, 0, 9), (1, 0, 9), (2, 1, 9999), (3, 0, 9), (4, 0, 10), (5, 0, 10), (6, 0, 29), (7, (-2147483648), 2147483647)] [(93, (1, 0, 2), (0, 4, 0)), (93, (1, 0, 5), (0, 5, 0)), (93, (1, 0, 11), (0, 6, 0)), (93, (1, 0, 19), (0, 7, 0))] [(2, 93, 0), (0, 0, 0), (0, 1, 0), (0, 2, 0), (0, 3, 0)] [] [(60, [(2, 93, 0), (0, 0, 0), (0, 1, 0), (0, 2, 0), (0, 3, 0)], [(0, 7, 0), (0, 6, 0), (2, 105, 0)], [(0, 0, 9), (1, 0, 9), (2, 1, 9999), (3, 0, 9), (4, 0, 10), (5, 0, 10), (6, 0, 29), (7, (-2147483648), 2147483647)], [], [], [(93, (1, 0, 2), (0, 4, 0)), (93, (1, 0, 5), (0, 5, 0)), (93, (1, 0, 11), (0, 6, 0)), (93, (1, 0, 19), (0, 7, 0))])] (by decide +kernel) (ρ0 := (fun s => [x0, x1, x2, x3, x4, x5, x6, x7].getD s 0)) hB eF eC ⟨rfl, ⟨rfl, ⟨rfl, ⟨rfl, ⟨rfl, trivial⟩⟩⟩⟩⟩ trivial ?_
  refine List.forall_mem_cons.mpr ⟨?_, fun _ h => absurd h List.not_mem_nil⟩
  · intro ρ τ Lc stc hx g1 g2 g3 g4 g5 g6 g7 g8
    have e0 : ρ 0 = x0 := hx 0 (by decide)
    have e1 : ρ 1 = x1 := hx 1 (by decide)
    have e2 : ρ 2 = x2 := hx 2 (by decide)
    have e3 : ρ 3 = x3 := hx 3 (by decide)
    have e4 : ρ 4 = x4 := hx 4 (by decide)
    have e5 : ρ 5 = x5 := hx 5 (by decide)
    have e6 : ρ 6 = x6 := hx 6 (by decide)
    have e7 : ρ 7 = x7 := hx 7 (by decide)
    subst e0
    subst e1
    subst e2
    subst e3
    subst e4
    subst e5
    subst e6
    subst e7
    have g7 := g7 (by decide)
    match Lc, stc, g7, g8 with
    | [v0, v1, v2, v3, v4], [w0, w1, w2], ⟨hv0, hv1, hv2, hv3, hv4, _⟩, ⟨hw0, hw1, hw2, _⟩ =>
      cases hv0
      cases hv1
      cases hv2
      cases hv3
      cases hv4
      cases hw0
      cases hw1
      cases hw2
      exact l0 τ ρ  g1 g2 g3 g4 g5 g6
set_option maxRecDepth 100000 in
theorem zxm_debt_s13 {σ : pm_S} {Q : Option Value → pm_S → Prop} (x0 x1 x2 x3 x4 x5 x6 x7 : Int)  (hB : an_GB pm_B σ) (eF : (0 ≤ x0 ∧ x0 ≤ 9) ∧ (0 ≤ x1 ∧ x1 ≤ 9) ∧ (1 ≤ x2 ∧ x2 ≤ 9999) ∧ (0 ≤ x3 ∧ x3 ≤ 9) ∧ (0 ≤ x4 ∧ x4 ≤ 10) ∧ (0 ≤ x5 ∧ x5 ≤ 10) ∧ (0 ≤ x6 ∧ x6 ≤ 29) ∧ ((-2147483648) ≤ x7 ∧ x7 ≤ 2147483647) ∧ True) (eC : (σ.1 93 2).toInt = x4 ∧ (σ.1 93 5).toInt = x5 ∧ (σ.1 93 11).toInt = x6 ∧ (σ.1 93 19).toInt = x7 ∧ True)
    (l0 : ∀ (τ : pm_S) (y : Nat → Int), an_GB pm_B τ → FQ [(93, 0), (93, 11)] σ τ → ((0 ≤ x0 ∧ x0 ≤ 9) ∧ (0 ≤ x1 ∧ x1 ≤ 9) ∧ (1 ≤ x2 ∧ x2 ≤ 9999) ∧ (0 ≤ x3 ∧ x3 ≤ 9) ∧ (0 ≤ x4 ∧ x4 ≤ 10) ∧ (0 ≤ x5 ∧ x5 ≤ 10) ∧ (0 ≤ x6 ∧ x6 ≤ 29) ∧ ((-2147483648) ≤ x7 ∧ x7 ≤ 2147483647) ∧ True) → (True) → (True) → ((τ.1 93 2).toInt = x4 ∧ (τ.1 93 5).toInt = x5 ∧ (τ.1 93 11).toInt = x6 ∧ (τ.1 93 19).toInt = x7 ∧ True) → Ok 169 21 66 [.ref 93, .int (Int32.ofInt (x0)), .int (Int32.ofInt (x1)), .int (Int32.ofInt (x2)), .int (Int32.ofInt (x3))] [.int (Int32.ofInt (-1)), .int (Int32.ofInt (x6)), .ref 106] τ Q)
    : Ok 169 21 61 [.ref 93, .int (Int32.ofInt (x0)), .int (Int32.ofInt (x1)), .int (Int32.ofInt (x2)), .int (Int32.ofInt (x3))] [] σ Q := by
  refine an_seg (B := pm_B) (F := [(93, 0), (93, 11)]) (T := []) (S := []) (fun _ h => absurd h List.not_mem_nil) (k := 169) (d := 20) (cs := [5, 9, 13, 22, 35, 41, 47, 53, 60, 66, 72]) 7 61 8 [(0, 0, 9), (1, 0, 9), (2, 1, 9999), (3, 0, 9), (4, 0, 10), (5, 0, 10), (6, 0, 29), (7, (-2147483648), 2147483647)] [(93, (1, 0, 2), (0, 4, 0)), (93, (1, 0, 5), (0, 5, 0)), (93, (1, 0, 11), (0, 6, 0)), (93, (1, 0, 19), (0, 7, 0))] [(2, 93, 0), (0, 0, 0), (0, 1, 0), (0, 2, 0), (0, 3, 0)] [] [(66, [(2, 93, 0), (0, 0, 0), (0, 1, 0), (0, 2, 0), (0, 3, 0)], [(1, 0, (-1)), (0, 6, 0), (2, 106, 0)], [(0, 0, 9), (1, 0, 9), (2, 1, 9999), (3, 0, 9), (4, 0, 10), (5, 0, 10), (6, 0, 29), (7, (-2147483648), 2147483647)], [], [], [(93, (1, 0, 2), (0, 4, 0)), (93, (1, 0, 5), (0, 5, 0)), (93, (1, 0, 11), (0, 6, 0)), (93, (1, 0, 19), (0, 7, 0))])] (by decide +kernel) (ρ0 := (fun s => [x0, x1, x2, x3, x4, x5, x6, x7].getD s 0)) hB eF eC ⟨rfl, ⟨rfl, ⟨rfl, ⟨rfl, ⟨rfl, trivial⟩⟩⟩⟩⟩ trivial ?_
  refine List.forall_mem_cons.mpr ⟨?_, fun _ h => absurd h List.not_mem_nil⟩
  · intro ρ τ Lc stc hx g1 g2 g3 g4 g5 g6 g7 g8
    have e0 : ρ 0 = x0 := hx 0 (by decide)
    have e1 : ρ 1 = x1 := hx 1 (by decide)
    have e2 : ρ 2 = x2 := hx 2 (by decide)
    have e3 : ρ 3 = x3 := hx 3 (by decide)
    have e4 : ρ 4 = x4 := hx 4 (by decide)
    have e5 : ρ 5 = x5 := hx 5 (by decide)
    have e6 : ρ 6 = x6 := hx 6 (by decide)
    have e7 : ρ 7 = x7 := hx 7 (by decide)
    subst e0
    subst e1
    subst e2
    subst e3
    subst e4
    subst e5
    subst e6
    subst e7
    have g7 := g7 (by decide)
    match Lc, stc, g7, g8 with
    | [v0, v1, v2, v3, v4], [w0, w1, w2], ⟨hv0, hv1, hv2, hv3, hv4, _⟩, ⟨hw0, hw1, hw2, _⟩ =>
      cases hv0
      cases hv1
      cases hv2
      cases hv3
      cases hv4
      cases hw0
      cases hw1
      cases hw2
      exact l0 τ ρ  g1 g2 g3 g4 g5 g6
set_option maxRecDepth 100000 in
theorem zxm_debt_s14 {σ : pm_S} {Q : Option Value → pm_S → Prop} (x0 x1 x2 x3 x4 x5 x6 x7 : Int)  (hB : an_GB pm_B σ) (eF : (0 ≤ x0 ∧ x0 ≤ 9) ∧ (0 ≤ x1 ∧ x1 ≤ 9) ∧ (1 ≤ x2 ∧ x2 ≤ 9999) ∧ (0 ≤ x3 ∧ x3 ≤ 9) ∧ (0 ≤ x4 ∧ x4 ≤ 10) ∧ (0 ≤ x5 ∧ x5 ≤ 10) ∧ (0 ≤ x6 ∧ x6 ≤ 29) ∧ ((-2147483648) ≤ x7 ∧ x7 ≤ 2147483647) ∧ True) (eC : (σ.1 93 2).toInt = x4 ∧ (σ.1 93 5).toInt = x5 ∧ (σ.1 93 11).toInt = x6 ∧ (σ.1 93 19).toInt = x7 ∧ True)
    (l0 : ∀ (τ : pm_S) (y : Nat → Int), an_GB pm_B τ → FQ [(93, 0), (93, 11)] σ τ → ((0 ≤ x0 ∧ x0 ≤ 9) ∧ (0 ≤ x1 ∧ x1 ≤ 9) ∧ (1 ≤ x2 ∧ x2 ≤ 9999) ∧ (0 ≤ x3 ∧ x3 ≤ 9) ∧ (0 ≤ x4 ∧ x4 ≤ 10) ∧ (0 ≤ x5 ∧ x5 ≤ 10) ∧ (0 ≤ x6 ∧ x6 ≤ 29) ∧ ((-2147483648) ≤ x7 ∧ x7 ≤ 2147483647) ∧ True) → (True) → (True) → ((τ.1 93 2).toInt = x4 ∧ (τ.1 93 5).toInt = x5 ∧ (τ.1 93 11).toInt = x6 ∧ (τ.1 93 19).toInt = x7 ∧ True) → Ok 169 21 72 [.ref 93, .int (Int32.ofInt (x0)), .int (Int32.ofInt (x1)), .int (Int32.ofInt (x2)), .int (Int32.ofInt (x3))] [.int (Int32.ofInt 0), .int (Int32.ofInt (x6)), .ref 107] τ Q)
    : Ok 169 21 67 [.ref 93, .int (Int32.ofInt (x0)), .int (Int32.ofInt (x1)), .int (Int32.ofInt (x2)), .int (Int32.ofInt (x3))] [] σ Q := by
  refine an_seg (B := pm_B) (F := [(93, 0), (93, 11)]) (T := []) (S := []) (fun _ h => absurd h List.not_mem_nil) (k := 169) (d := 20) (cs := [5, 9, 13, 22, 35, 41, 47, 53, 60, 66, 72]) 7 67 8 [(0, 0, 9), (1, 0, 9), (2, 1, 9999), (3, 0, 9), (4, 0, 10), (5, 0, 10), (6, 0, 29), (7, (-2147483648), 2147483647)] [(93, (1, 0, 2), (0, 4, 0)), (93, (1, 0, 5), (0, 5, 0)), (93, (1, 0, 11), (0, 6, 0)), (93, (1, 0, 19), (0, 7, 0))] [(2, 93, 0), (0, 0, 0), (0, 1, 0), (0, 2, 0), (0, 3, 0)] [] [(72, [(2, 93, 0), (0, 0, 0), (0, 1, 0), (0, 2, 0), (0, 3, 0)], [(1, 0, 0), (0, 6, 0), (2, 107, 0)], [(0, 0, 9), (1, 0, 9), (2, 1, 9999), (3, 0, 9), (4, 0, 10), (5, 0, 10), (6, 0, 29), (7, (-2147483648), 2147483647)], [], [], [(93, (1, 0, 2), (0, 4, 0)), (93, (1, 0, 5), (0, 5, 0)), (93, (1, 0, 11), (0, 6, 0)), (93, (1, 0, 19), (0, 7, 0))])] (by decide +kernel) (ρ0 := (fun s => [x0, x1, x2, x3, x4, x5, x6, x7].getD s 0)) hB eF eC ⟨rfl, ⟨rfl, ⟨rfl, ⟨rfl, ⟨rfl, trivial⟩⟩⟩⟩⟩ trivial ?_
  refine List.forall_mem_cons.mpr ⟨?_, fun _ h => absurd h List.not_mem_nil⟩
  · intro ρ τ Lc stc hx g1 g2 g3 g4 g5 g6 g7 g8
    have e0 : ρ 0 = x0 := hx 0 (by decide)
    have e1 : ρ 1 = x1 := hx 1 (by decide)
    have e2 : ρ 2 = x2 := hx 2 (by decide)
    have e3 : ρ 3 = x3 := hx 3 (by decide)
    have e4 : ρ 4 = x4 := hx 4 (by decide)
    have e5 : ρ 5 = x5 := hx 5 (by decide)
    have e6 : ρ 6 = x6 := hx 6 (by decide)
    have e7 : ρ 7 = x7 := hx 7 (by decide)
    subst e0
    subst e1
    subst e2
    subst e3
    subst e4
    subst e5
    subst e6
    subst e7
    have g7 := g7 (by decide)
    match Lc, stc, g7, g8 with
    | [v0, v1, v2, v3, v4], [w0, w1, w2], ⟨hv0, hv1, hv2, hv3, hv4, _⟩, ⟨hw0, hw1, hw2, _⟩ =>
      cases hv0
      cases hv1
      cases hv2
      cases hv3
      cases hv4
      cases hw0
      cases hw1
      cases hw2
      exact l0 τ ρ  g1 g2 g3 g4 g5 g6
set_option maxRecDepth 100000 in
theorem zxm_debt_s15 {σ : pm_S} {Q : Option Value → pm_S → Prop} (x0 x1 x2 x3 x4 x5 x6 x7 : Int)  (hB : an_GB pm_B σ) (eF : (0 ≤ x0 ∧ x0 ≤ 9) ∧ (0 ≤ x1 ∧ x1 ≤ 9) ∧ (1 ≤ x2 ∧ x2 ≤ 9999) ∧ (0 ≤ x3 ∧ x3 ≤ 9) ∧ (0 ≤ x4 ∧ x4 ≤ 10) ∧ (0 ≤ x5 ∧ x5 ≤ 10) ∧ (0 ≤ x6 ∧ x6 ≤ 29) ∧ ((-2147483648) ≤ x7 ∧ x7 ≤ 2147483647) ∧ True) (eC : (σ.1 93 2).toInt = x4 ∧ (σ.1 93 5).toInt = x5 ∧ (σ.1 93 11).toInt = x6 ∧ (σ.1 93 19).toInt = x7 ∧ True)
    (l0 : ∀ (τ : pm_S) (y : Nat → Int), an_GB pm_B τ → FQ [(93, 0), (93, 11)] σ τ → ((0 ≤ x0 ∧ x0 ≤ 9) ∧ (0 ≤ x1 ∧ x1 ≤ 9) ∧ (1 ≤ x2 ∧ x2 ≤ 9999) ∧ (0 ≤ x3 ∧ x3 ≤ 9) ∧ (0 ≤ x4 ∧ x4 ≤ 10) ∧ (0 ≤ x5 ∧ x5 ≤ 10) ∧ (0 ≤ x6 ∧ x6 ≤ 29) ∧ ((-2147483648) ≤ x7 ∧ x7 ≤ 2147483647) ∧ True) → (True) → (True) → ((τ.1 93 2).toInt = x4 ∧ (τ.1 93 5).toInt = x5 ∧ (τ.1 93 11).toInt = x6 + 1 ∧ (τ.1 93 19).toInt = x7 ∧ True) → Q (some (.int (Int32.ofInt (x6)))) τ)
    : Ok 169 21 73 [.ref 93, .int (Int32.ofInt (x0)), .int (Int32.ofInt (x1)), .int (Int32.ofInt (x2)), .int (Int32.ofInt (x3))] [] σ Q := by
  refine an_seg (B := pm_B) (F := [(93, 0), (93, 11)]) (T := []) (S := []) (fun _ h => absurd h List.not_mem_nil) (k := 169) (d := 20) (cs := [5, 9, 13, 22, 35, 41, 47, 53, 60, 66, 72]) 13 73 8 [(0, 0, 9), (1, 0, 9), (2, 1, 9999), (3, 0, 9), (4, 0, 10), (5, 0, 10), (6, 0, 29), (7, (-2147483648), 2147483647)] [(93, (1, 0, 2), (0, 4, 0)), (93, (1, 0, 5), (0, 5, 0)), (93, (1, 0, 11), (0, 6, 0)), (93, (1, 0, 19), (0, 7, 0))] [(2, 93, 0), (0, 0, 0), (0, 1, 0), (0, 2, 0), (0, 3, 0)] [] [(9999, [], [(0, 6, 0)], [(0, 0, 9), (1, 0, 9), (2, 1, 9999), (3, 0, 9), (4, 0, 10), (5, 0, 10), (6, 0, 29), (7, (-2147483648), 2147483647)], [], [], [(93, (1, 0, 2), (0, 4, 0)), (93, (1, 0, 5), (0, 5, 0)), (93, (1, 0, 11), (0, 6, 1)), (93, (1, 0, 19), (0, 7, 0))])] (by decide +kernel) (ρ0 := (fun s => [x0, x1, x2, x3, x4, x5, x6, x7].getD s 0)) hB eF eC ⟨rfl, ⟨rfl, ⟨rfl, ⟨rfl, ⟨rfl, trivial⟩⟩⟩⟩⟩ trivial ?_
  refine List.forall_mem_cons.mpr ⟨?_, fun _ h => absurd h List.not_mem_nil⟩
  · intro ρ τ Lc stc hx g1 g2 g3 g4 g5 g6 g7 g8
    have e0 : ρ 0 = x0 := hx 0 (by decide)
    have e1 : ρ 1 = x1 := hx 1 (by decide)
    have e2 : ρ 2 = x2 := hx 2 (by decide)
    have e3 : ρ 3 = x3 := hx 3 (by decide)
    have e4 : ρ 4 = x4 := hx 4 (by decide)
    have e5 : ρ 5 = x5 := hx 5 (by decide)
    have e6 : ρ 6 = x6 := hx 6 (by decide)
    have e7 : ρ 7 = x7 := hx 7 (by decide)
    subst e0
    subst e1
    subst e2
    subst e3
    subst e4
    subst e5
    subst e6
    subst e7
    match stc, g8 with
    | [_], ⟨h, _⟩ => cases h; exact l0 τ ρ g1 g2 g3 g4 g5 g6
set_option maxRecDepth 20000 in
set_option maxHeartbeats 6000000 in
theorem zxm_debt {σ : pm_S} (x0 x1 x2 x3 x4 x5 x6 x7 : Int) (hB : an_GB pm_B σ) (g0 : (-2147483648) ≤ x0 ∧ x0 ≤ 2147483647) (g1 : (-2147483648) ≤ x1 ∧ x1 ≤ 2147483647) (g2 : (-2147483648) ≤ x2 ∧ x2 ≤ 2147483647) (g3 : (-2147483648) ≤ x3 ∧ x3 ≤ 2147483647) (g4 : 0 ≤ x4 ∧ x4 ≤ 10) (g5 : 0 ≤ x5 ∧ x5 ≤ 10) (g6 : 0 ≤ x6 ∧ x6 ≤ 30) (g7 : (-2147483648) ≤ x7 ∧ x7 ≤ 2147483647) (e0 : (σ.1 93 2).toInt = x4) (e1 : (σ.1 93 5).toInt = x5) (e2 : (σ.1 93 11).toInt = x6) (e3 : (σ.1 93 19).toInt = x7) : Sp 169 21 [.ref 93, .int (Int32.ofInt (x0)), .int (Int32.ofInt (x1)), .int (Int32.ofInt (x2)), .int (Int32.ofInt (x3))] σ (fun r τ => an_GB pm_B τ ∧ ((¬ (0 ≤ x0 ∧ x0 < x5 ∧ 0 ≤ x1 ∧ x1 < x5 ∧ x0 ≠ x1 ∧ 1 ≤ x2 ∧ x2 ≤ 9999 ∧ 0 ≤ x3 ∧ x3 < x4 ∧ x6 ≤ 29) ∧ r = some (.int (Int32.ofInt (-1))) ∧ (τ.1 93 11).toInt = x6 ∧ puF [(93, 0), (93, 11)] [] σ τ) ∨ ((0 ≤ x0 ∧ x0 < x5 ∧ 0 ≤ x1 ∧ x1 < x5 ∧ x0 ≠ x1 ∧ 1 ≤ x2 ∧ x2 ≤ 9999 ∧ 0 ≤ x3 ∧ x3 < x4 ∧ x6 ≤ 29) ∧ r = some (.int (Int32.ofInt (x6))) ∧ (τ.1 93 11).toInt = x6 + 1 ∧ puF [(93, 0), (93, 11)] [(107, (x6).toNat, Int32.ofInt (0)), (106, (x6).toNat, Int32.ofInt (-1)), (105, (x6).toNat, Int32.ofInt (x7)), (104, (x6).toNat, Int32.ofInt (x3)), (103, (x6).toNat, Int32.ofInt (x2)), (102, (x6).toNat, Int32.ofInt (x1)), (101, (x6).toNat, Int32.ofInt (x0))] σ τ))) := by
  refine Sp.at rfl rfl ?_
  refine zxm_debt_s0 x0 x1 x2 x3 x4 x5 x6 x7 hB ⟨g0, g1, g2, g3, g4, g5, g6, g7, trivial⟩ ⟨e0, e1, e2, e3, trivial⟩ ?_
  · intro τ1 y1  hB1 hF1 f1 rr1 _ c1
    obtain ⟨f1_0, f1_1, f1_2, f1_3, f1_4, f1_5, f1_6, f1_7, -⟩ := f1
    obtain ⟨c1_0, c1_1, c1_2, c1_3, -⟩ := c1
    have hG1 : puF [(93, 0), (93, 11)] [] σ τ1 := puF.fq rfl (puF.rf _ _) hF1
    refine Ok.cv rfl rfl rfl rfl rfl rfl rfl ?_
    refine (x_h164 (x0) (x5) hB1 (by omega) c1_1).use (by decide) (fun r2 τ2 q2 => ?_)
    obtain ⟨hB2, hF2, ⟨q2, rfl, d2⟩ | ⟨q2, rfl, d2⟩⟩ := q2
    · have hG2 : puF [(93, 0), (93, 11)] [] σ τ2 := puF.fq rfl hG1 hF2
      have e2_93_2 : (τ2.1 93 2).toInt = x4 := (congrArg Int32.toInt (show τ2.1 93 2 = τ1.1 93 2 from hF2 93 2 rfl)).trans c1_0
      have e2_93_5 : (τ2.1 93 5).toInt = x5 := (congrArg Int32.toInt (show τ2.1 93 5 = τ1.1 93 5 from hF2 93 5 rfl)).trans c1_1
      have e2_93_11 : (τ2.1 93 11).toInt = x6 := (congrArg Int32.toInt (show τ2.1 93 11 = τ1.1 93 11 from hF2 93 11 rfl)).trans c1_2
      have e2_93_19 : (τ2.1 93 19).toInt = x7 := (congrArg Int32.toInt (show τ2.1 93 19 = τ1.1 93 19 from hF2 93 19 rfl)).trans c1_3
      refine zxm_debt_s1 x0 x1 x2 x3 x4 x5 x6 x7 hB2 ⟨f1_0, f1_1, f1_2, f1_3, f1_4, f1_5, f1_6, f1_7, trivial⟩ ⟨e2_93_2, e2_93_5, e2_93_11, e2_93_19, trivial⟩ ?_
      · intro τ3 y3  hB3 hF3 f3 rr3 _ c3
        obtain ⟨f3_0, f3_1, f3_2, f3_3, f3_4, f3_5, f3_6, f3_7, -⟩ := f3
        clear f1_0 f1_1 f1_2 f1_3 f1_4 f1_5 f1_6 f1_7 e2_93_2 e2_93_5 e2_93_11 e2_93_19
        obtain ⟨c3_0, c3_1, c3_2, c3_3, -⟩ := c3
        have hG3 : puF [(93, 0), (93, 11)] [] σ τ3 := puF.fq rfl hG2 hF3
        exact ⟨hB3, Or.inl ⟨by omega, rfl, c3_2, hG3⟩⟩
    · have hG2 : puF [(93, 0), (93, 11)] [] σ τ2 := puF.fq rfl hG1 hF2
      have e2_93_2 : (τ2.1 93 2).toInt = x4 := (congrArg Int32.toInt (show τ2.1 93 2 = τ1.1 93 2 from hF2 93 2 rfl)).trans c1_0
      have e2_93_5 : (τ2.1 93 5).toInt = x5 := (congrArg Int32.toInt (show τ2.1 93 5 = τ1.1 93 5 from hF2 93 5 rfl)).trans c1_1
      have e2_93_11 : (τ2.1 93 11).toInt = x6 := (congrArg Int32.toInt (show τ2.1 93 11 = τ1.1 93 11 from hF2 93 11 rfl)).trans c1_2
      have e2_93_19 : (τ2.1 93 19).toInt = x7 := (congrArg Int32.toInt (show τ2.1 93 19 = τ1.1 93 19 from hF2 93 19 rfl)).trans c1_3
      refine zxm_debt_s2 x0 x1 x2 x3 x4 x5 x6 x7 hB2 ⟨by omega, f1_1, f1_2, f1_3, f1_4, f1_5, f1_6, f1_7, trivial⟩ ⟨e2_93_2, e2_93_5, e2_93_11, e2_93_19, trivial⟩ ?_
      · intro τ4 y4  hB4 hF4 f4 rr4 _ c4
        obtain ⟨f4_0, f4_1, f4_2, f4_3, f4_4, f4_5, f4_6, f4_7, -⟩ := f4
        clear f1_0 f1_1 f1_2 f1_3 f1_4 f1_5 f1_6 f1_7 e2_93_2 e2_93_5 e2_93_11 e2_93_19
        obtain ⟨c4_0, c4_1, c4_2, c4_3, -⟩ := c4
        have hG4 : puF [(93, 0), (93, 11)] [] σ τ4 := puF.fq rfl hG2 hF4
        refine Ok.cv rfl rfl rfl rfl rfl rfl rfl ?_
        refine (x_h164 (x1) (x5) hB4 (by omega) c4_1).use (by decide) (fun r5 τ5 q5 => ?_)
        obtain ⟨hB5, hF5, ⟨q5, rfl, d5⟩ | ⟨q5, rfl, d5⟩⟩ := q5
        · have hG5 : puF [(93, 0), (93, 11)] [] σ τ5 := puF.fq rfl hG4 hF5
          have e5_93_2 : (τ5.1 93 2).toInt = x4 := (congrArg Int32.toInt (show τ5.1 93 2 = τ4.1 93 2 from hF5 93 2 rfl)).trans c4_0
          have e5_93_5 : (τ5.1 93 5).toInt = x5 := (congrArg Int32.toInt (show τ5.1 93 5 = τ4.1 93 5 from hF5 93 5 rfl)).trans c4_1
          have e5_93_11 : (τ5.1 93 11).toInt = x6 := (congrArg Int32.toInt (show τ5.1 93 11 = τ4.1 93 11 from hF5 93 11 rfl)).trans c4_2
          have e5_93_19 : (τ5.1 93 19).toInt = x7 := (congrArg Int32.toInt (show τ5.1 93 19 = τ4.1 93 19 from hF5 93 19 rfl)).trans c4_3
          refine zxm_debt_s3 x0 x1 x2 x3 x4 x5 x6 x7 hB5 ⟨f4_0, f4_1, f4_2, f4_3, f4_4, f4_5, f4_6, f4_7, trivial⟩ ⟨e5_93_2, e5_93_5, e5_93_11, e5_93_19, trivial⟩ ?_
          · intro τ6 y6  hB6 hF6 f6 rr6 _ c6
            obtain ⟨f6_0, f6_1, f6_2, f6_3, f6_4, f6_5, f6_6, f6_7, -⟩ := f6
            clear f4_0 f4_1 f4_2 f4_3 f4_4 f4_5 f4_6 f4_7 e5_93_2 e5_93_5 e5_93_11 e5_93_19
            obtain ⟨c6_0, c6_1, c6_2, c6_3, -⟩ := c6
            have hG6 : puF [(93, 0), (93, 11)] [] σ τ6 := puF.fq rfl hG5 hF6
            exact ⟨hB6, Or.inl ⟨by omega, rfl, c6_2, hG6⟩⟩
        · have hG5 : puF [(93, 0), (93, 11)] [] σ τ5 := puF.fq rfl hG4 hF5
          have e5_93_2 : (τ5.1 93 2).toInt = x4 := (congrArg Int32.toInt (show τ5.1 93 2 = τ4.1 93 2 from hF5 93 2 rfl)).trans c4_0
          have e5_93_5 : (τ5.1 93 5).toInt = x5 := (congrArg Int32.toInt (show τ5.1 93 5 = τ4.1 93 5 from hF5 93 5 rfl)).trans c4_1
          have e5_93_11 : (τ5.1 93 11).toInt = x6 := (congrArg Int32.toInt (show τ5.1 93 11 = τ4.1 93 11 from hF5 93 11 rfl)).trans c4_2
          have e5_93_19 : (τ5.1 93 19).toInt = x7 := (congrArg Int32.toInt (show τ5.1 93 19 = τ4.1 93 19 from hF5 93 19 rfl)).trans c4_3
          refine zxm_debt_s4 x0 x1 x2 x3 x4 x5 x6 x7 hB5 ⟨f4_0, by omega, f4_2, f4_3, f4_4, f4_5, f4_6, f4_7, trivial⟩ ⟨e5_93_2, e5_93_5, e5_93_11, e5_93_19, trivial⟩ ?_
          · intro τ7 y7  hB7 hF7 f7 rr7 _ c7
            obtain ⟨f7_0, f7_1, f7_2, f7_3, f7_4, f7_5, f7_6, f7_7, -⟩ := f7
            clear f4_0 f4_1 f4_2 f4_3 f4_4 f4_5 f4_6 f4_7 e5_93_2 e5_93_5 e5_93_11 e5_93_19
            obtain ⟨c7_0, c7_1, c7_2, c7_3, -⟩ := c7
            have hG7 : puF [(93, 0), (93, 11)] [] σ τ7 := puF.fq rfl hG5 hF7
            refine Ok.ic rfl rfl (by omega) (by omega) (by omega) (by omega) (fun z8 => ?_) (fun z8 => ?_)
            · have z8 : x0 = x1 := z8
              refine zxm_debt_s5 x0 x1 x2 x3 x4 x5 x6 x7 hB7 ⟨f7_0, f7_1, f7_2, f7_3, f7_4, f7_5, f7_6, f7_7, trivial⟩ ⟨c7_0, c7_1, c7_2, c7_3, trivial⟩ ?_
              · intro τ9 y9  hB9 hF9 f9 rr9 _ c9
                obtain ⟨f9_0, f9_1, f9_2, f9_3, f9_4, f9_5, f9_6, f9_7, -⟩ := f9
                clear f7_0 f7_1 f7_2 f7_3 f7_4 f7_5 f7_6 f7_7 c7_0 c7_1 c7_2 c7_3
                obtain ⟨c9_0, c9_1, c9_2, c9_3, -⟩ := c9
                have hG9 : puF [(93, 0), (93, 11)] [] σ τ9 := puF.fq rfl hG7 hF9
                exact ⟨hB9, Or.inl ⟨by omega, rfl, c9_2, hG9⟩⟩
            · have z8 : x0 ≠ x1 := z8
              refine zxm_debt_s6 x0 x1 x2 x3 x4 x5 x6 x7 hB7 ⟨f7_0, f7_1, f7_2, f7_3, f7_4, f7_5, f7_6, f7_7, trivial⟩ ⟨c7_0, c7_1, c7_2, c7_3, trivial⟩ ?_ ?_ ?_
              · intro τ10 y10  hB10 hF10 f10 rr10 _ c10
                obtain ⟨f10_0, f10_1, f10_2, f10_3, f10_4, f10_5, f10_6, f10_7, -⟩ := f10
                clear f7_0 f7_1 f7_2 f7_3 f7_4 f7_5 f7_6 f7_7 c7_0 c7_1 c7_2 c7_3
                obtain ⟨c10_0, c10_1, c10_2, c10_3, -⟩ := c10
                have hG10 : puF [(93, 0), (93, 11)] [] σ τ10 := puF.fq rfl hG7 hF10
                exact ⟨hB10, Or.inl ⟨by omega, rfl, c10_2, hG10⟩⟩
              · intro τ11 y11  hB11 hF11 f11 rr11 _ c11
                obtain ⟨f11_0, f11_1, f11_2, f11_3, f11_4, f11_5, f11_6, f11_7, -⟩ := f11
                clear f7_0 f7_1 f7_2 f7_3 f7_4 f7_5 f7_6 f7_7 c7_0 c7_1 c7_2 c7_3
                obtain ⟨c11_0, c11_1, c11_2, c11_3, -⟩ := c11
                have hG11 : puF [(93, 0), (93, 11)] [] σ τ11 := puF.fq rfl hG7 hF11
                exact ⟨hB11, Or.inl ⟨by omega, rfl, c11_2, hG11⟩⟩
              · intro τ12 y12  hB12 hF12 f12 rr12 _ c12
                obtain ⟨f12_0, f12_1, f12_2, f12_3, f12_4, f12_5, f12_6, f12_7, -⟩ := f12
                clear f7_0 f7_1 f7_2 f7_3 f7_4 f7_5 f7_6 f7_7 c7_0 c7_1 c7_2 c7_3
                obtain ⟨c12_0, c12_1, c12_2, c12_3, -⟩ := c12
                have hG12 : puF [(93, 0), (93, 11)] [] σ τ12 := puF.fq rfl hG7 hF12
                refine Ok.cv rfl rfl rfl rfl rfl rfl rfl ?_
                refine (x_h163 (x3) (x4) hB12 (by omega) c12_0).use (by decide) (fun r13 τ13 q13 => ?_)
                obtain ⟨hB13, hF13, ⟨q13, rfl, d13⟩ | ⟨q13, rfl, d13⟩⟩ := q13
                · have hG13 : puF [(93, 0), (93, 11)] [] σ τ13 := puF.fq rfl hG12 hF13
                  have e13_93_2 : (τ13.1 93 2).toInt = x4 := (congrArg Int32.toInt (show τ13.1 93 2 = τ12.1 93 2 from hF13 93 2 rfl)).trans c12_0
                  have e13_93_5 : (τ13.1 93 5).toInt = x5 := (congrArg Int32.toInt (show τ13.1 93 5 = τ12.1 93 5 from hF13 93 5 rfl)).trans c12_1
                  have e13_93_11 : (τ13.1 93 11).toInt = x6 := (congrArg Int32.toInt (show τ13.1 93 11 = τ12.1 93 11 from hF13 93 11 rfl)).trans c12_2
                  have e13_93_19 : (τ13.1 93 19).toInt = x7 := (congrArg Int32.toInt (show τ13.1 93 19 = τ12.1 93 19 from hF13 93 19 rfl)).trans c12_3
                  refine zxm_debt_s7 x0 x1 x2 x3 x4 x5 x6 x7 hB13 ⟨f12_0, f12_1, f12_2, f12_3, f12_4, f12_5, f12_6, f12_7, trivial⟩ ⟨e13_93_2, e13_93_5, e13_93_11, e13_93_19, trivial⟩ ?_
                  · intro τ14 y14  hB14 hF14 f14 rr14 _ c14
                    obtain ⟨f14_0, f14_1, f14_2, f14_3, f14_4, f14_5, f14_6, f14_7, -⟩ := f14
                    clear f12_0 f12_1 f12_2 f12_3 f12_4 f12_5 f12_6 f12_7 e13_93_2 e13_93_5 e13_93_11 e13_93_19
                    obtain ⟨c14_0, c14_1, c14_2, c14_3, -⟩ := c14
                    have hG14 : puF [(93, 0), (93, 11)] [] σ τ14 := puF.fq rfl hG13 hF14
                    exact ⟨hB14, Or.inl ⟨by omega, rfl, c14_2, hG14⟩⟩
                · have hG13 : puF [(93, 0), (93, 11)] [] σ τ13 := puF.fq rfl hG12 hF13
                  have e13_93_2 : (τ13.1 93 2).toInt = x4 := (congrArg Int32.toInt (show τ13.1 93 2 = τ12.1 93 2 from hF13 93 2 rfl)).trans c12_0
                  have e13_93_5 : (τ13.1 93 5).toInt = x5 := (congrArg Int32.toInt (show τ13.1 93 5 = τ12.1 93 5 from hF13 93 5 rfl)).trans c12_1
                  have e13_93_11 : (τ13.1 93 11).toInt = x6 := (congrArg Int32.toInt (show τ13.1 93 11 = τ12.1 93 11 from hF13 93 11 rfl)).trans c12_2
                  have e13_93_19 : (τ13.1 93 19).toInt = x7 := (congrArg Int32.toInt (show τ13.1 93 19 = τ12.1 93 19 from hF13 93 19 rfl)).trans c12_3
                  refine zxm_debt_s8 x0 x1 x2 x3 x4 x5 x6 x7 hB13 ⟨f12_0, f12_1, f12_2, by omega, f12_4, f12_5, f12_6, f12_7, trivial⟩ ⟨e13_93_2, e13_93_5, e13_93_11, e13_93_19, trivial⟩ ?_ ?_
                  · intro τ15 y15  hB15 hF15 f15 rr15 _ c15
                    obtain ⟨f15_0, f15_1, f15_2, f15_3, f15_4, f15_5, f15_6, f15_7, -⟩ := f15
                    clear f12_0 f12_1 f12_2 f12_3 f12_4 f12_5 f12_6 f12_7 e13_93_2 e13_93_5 e13_93_11 e13_93_19
                    obtain ⟨c15_0, c15_1, c15_2, c15_3, -⟩ := c15
                    have hG15 : puF [(93, 0), (93, 11)] [] σ τ15 := puF.fq rfl hG13 hF15
                    refine Ok.ast (n := 30) rfl rfl rfl (by decide) (by omega) (by omega) ?_
                    have hG16 : puF [(93, 0), (93, 11)] [(101, (x6).toNat, Int32.ofInt (x0))] σ (put τ15 101 (x6).toNat (Int32.ofInt (x0))) := puF.put hG15
                    have hB16 : an_GB pm_B (put τ15 101 (x6).toNat (Int32.ofInt (x0))) := put_GB hB15 (by
                      show (0 : Int) ≤ (Int32.ofInt (x0)).toInt ∧ (Int32.ofInt (x0)).toInt ≤ 9
                      rw [ti_of (by omega) (by omega)]
                      omega)
                    have e16_93_2 : ((put τ15 101 (x6).toNat (Int32.ofInt (x0))).1 93 2).toInt = x4 := (congrArg Int32.toInt (put_nr (by decide))).trans c15_0
                    have e16_93_5 : ((put τ15 101 (x6).toNat (Int32.ofInt (x0))).1 93 5).toInt = x5 := (congrArg Int32.toInt (put_nr (by decide))).trans c15_1
                    have e16_93_11 : ((put τ15 101 (x6).toNat (Int32.ofInt (x0))).1 93 11).toInt = x6 := (congrArg Int32.toInt (put_nr (by decide))).trans c15_2
                    have e16_93_19 : ((put τ15 101 (x6).toNat (Int32.ofInt (x0))).1 93 19).toInt = x7 := (congrArg Int32.toInt (put_nr (by decide))).trans c15_3
                    generalize put τ15 101 (x6).toNat (Int32.ofInt (x0)) = υ16 at hG16 hB16 e16_93_2 e16_93_5 e16_93_11 e16_93_19 ⊢
                    clear c15_0 c15_1 c15_2 c15_3
                    refine zxm_debt_s9 x0 x1 x2 x3 x4 x5 x6 x7 hB16 ⟨f15_0, f15_1, f15_2, f15_3, f15_4, f15_5, f15_6, f15_7, trivial⟩ ⟨e16_93_2, e16_93_5, e16_93_11, e16_93_19, trivial⟩ ?_
                    · intro τ17 y17  hB17 hF17 f17 rr17 _ c17
                      obtain ⟨f17_0, f17_1, f17_2, f17_3, f17_4, f17_5, f17_6, f17_7, -⟩ := f17
                      clear f15_0 f15_1 f15_2 f15_3 f15_4 f15_5 f15_6 f15_7 e16_93_2 e16_93_5 e16_93_11 e16_93_19
                      obtain ⟨c17_0, c17_1, c17_2, c17_3, -⟩ := c17
                      have hG17 : puF [(93, 0), (93, 11)] [(101, (x6).toNat, Int32.ofInt (x0))] σ τ17 := puF.fq rfl hG16 hF17
                      refine Ok.ast (n := 30) rfl rfl rfl (by decide) (by omega) (by omega) ?_
                      have hG18 : puF [(93, 0), (93, 11)] [(102, (x6).toNat, Int32.ofInt (x1)), (101, (x6).toNat, Int32.ofInt (x0))] σ (put τ17 102 (x6).toNat (Int32.ofInt (x1))) := puF.put hG17
                      have hB18 : an_GB pm_B (put τ17 102 (x6).toNat (Int32.ofInt (x1))) := put_GB hB17 (by
                        show (0 : Int) ≤ (Int32.ofInt (x1)).toInt ∧ (Int32.ofInt (x1)).toInt ≤ 9
                        rw [ti_of (by omega) (by omega)]
                        omega)
                      have e18_93_2 : ((put τ17 102 (x6).toNat (Int32.ofInt (x1))).1 93 2).toInt = x4 := (congrArg Int32.toInt (put_nr (by decide))).trans c17_0
                      have e18_93_5 : ((put τ17 102 (x6).toNat (Int32.ofInt (x1))).1 93 5).toInt = x5 := (congrArg Int32.toInt (put_nr (by decide))).trans c17_1
                      have e18_93_11 : ((put τ17 102 (x6).toNat (Int32.ofInt (x1))).1 93 11).toInt = x6 := (congrArg Int32.toInt (put_nr (by decide))).trans c17_2
                      have e18_93_19 : ((put τ17 102 (x6).toNat (Int32.ofInt (x1))).1 93 19).toInt = x7 := (congrArg Int32.toInt (put_nr (by decide))).trans c17_3
                      generalize put τ17 102 (x6).toNat (Int32.ofInt (x1)) = υ18 at hG18 hB18 e18_93_2 e18_93_5 e18_93_11 e18_93_19 ⊢
                      clear c17_0 c17_1 c17_2 c17_3
                      refine zxm_debt_s10 x0 x1 x2 x3 x4 x5 x6 x7 hB18 ⟨f17_0, f17_1, f17_2, f17_3, f17_4, f17_5, f17_6, f17_7, trivial⟩ ⟨e18_93_2, e18_93_5, e18_93_11, e18_93_19, trivial⟩ ?_
                      · intro τ19 y19  hB19 hF19 f19 rr19 _ c19
                        obtain ⟨f19_0, f19_1, f19_2, f19_3, f19_4, f19_5, f19_6, f19_7, -⟩ := f19
                        clear f17_0 f17_1 f17_2 f17_3 f17_4 f17_5 f17_6 f17_7 e18_93_2 e18_93_5 e18_93_11 e18_93_19
                        obtain ⟨c19_0, c19_1, c19_2, c19_3, -⟩ := c19
                        have hG19 : puF [(93, 0), (93, 11)] [(102, (x6).toNat, Int32.ofInt (x1)), (101, (x6).toNat, Int32.ofInt (x0))] σ τ19 := puF.fq rfl hG18 hF19
                        refine Ok.ast (n := 30) rfl rfl rfl (by decide) (by omega) (by omega) ?_
                        have hG20 : puF [(93, 0), (93, 11)] [(103, (x6).toNat, Int32.ofInt (x2)), (102, (x6).toNat, Int32.ofInt (x1)), (101, (x6).toNat, Int32.ofInt (x0))] σ (put τ19 103 (x6).toNat (Int32.ofInt (x2))) := puF.put hG19
                        have hB20 : an_GB pm_B (put τ19 103 (x6).toNat (Int32.ofInt (x2))) := put_GB hB19 (by
                          show (0 : Int) ≤ (Int32.ofInt (x2)).toInt ∧ (Int32.ofInt (x2)).toInt ≤ 99999
                          rw [ti_of (by omega) (by omega)]
                          omega)
                        have e20_93_2 : ((put τ19 103 (x6).toNat (Int32.ofInt (x2))).1 93 2).toInt = x4 := (congrArg Int32.toInt (put_nr (by decide))).trans c19_0
                        have e20_93_5 : ((put τ19 103 (x6).toNat (Int32.ofInt (x2))).1 93 5).toInt = x5 := (congrArg Int32.toInt (put_nr (by decide))).trans c19_1
                        have e20_93_11 : ((put τ19 103 (x6).toNat (Int32.ofInt (x2))).1 93 11).toInt = x6 := (congrArg Int32.toInt (put_nr (by decide))).trans c19_2
                        have e20_93_19 : ((put τ19 103 (x6).toNat (Int32.ofInt (x2))).1 93 19).toInt = x7 := (congrArg Int32.toInt (put_nr (by decide))).trans c19_3
                        generalize put τ19 103 (x6).toNat (Int32.ofInt (x2)) = υ20 at hG20 hB20 e20_93_2 e20_93_5 e20_93_11 e20_93_19 ⊢
                        clear c19_0 c19_1 c19_2 c19_3
                        refine zxm_debt_s11 x0 x1 x2 x3 x4 x5 x6 x7 hB20 ⟨f19_0, f19_1, f19_2, f19_3, f19_4, f19_5, f19_6, f19_7, trivial⟩ ⟨e20_93_2, e20_93_5, e20_93_11, e20_93_19, trivial⟩ ?_
                        · intro τ21 y21  hB21 hF21 f21 rr21 _ c21
                          obtain ⟨f21_0, f21_1, f21_2, f21_3, f21_4, f21_5, f21_6, f21_7, -⟩ := f21
                          clear f19_0 f19_1 f19_2 f19_3 f19_4 f19_5 f19_6 f19_7 e20_93_2 e20_93_5 e20_93_11 e20_93_19
                          obtain ⟨c21_0, c21_1, c21_2, c21_3, -⟩ := c21
                          have hG21 : puF [(93, 0), (93, 11)] [(103, (x6).toNat, Int32.ofInt (x2)), (102, (x6).toNat, Int32.ofInt (x1)), (101, (x6).toNat, Int32.ofInt (x0))] σ τ21 := puF.fq rfl hG20 hF21
                          refine Ok.ast (n := 30) rfl rfl rfl (by decide) (by omega) (by omega) ?_
                          have hG22 : puF [(93, 0), (93, 11)] [(104, (x6).toNat, Int32.ofInt (x3)), (103, (x6).toNat, Int32.ofInt (x2)), (102, (x6).toNat, Int32.ofInt (x1)), (101, (x6).toNat, Int32.ofInt (x0))] σ (put τ21 104 (x6).toNat (Int32.ofInt (x3))) := puF.put hG21
                          have hB22 : an_GB pm_B (put τ21 104 (x6).toNat (Int32.ofInt (x3))) := put_GB hB21 (by
                            show (0 : Int) ≤ (Int32.ofInt (x3)).toInt ∧ (Int32.ofInt (x3)).toInt ≤ 9
                            rw [ti_of (by omega) (by omega)]
                            omega)
                          have e22_93_2 : ((put τ21 104 (x6).toNat (Int32.ofInt (x3))).1 93 2).toInt = x4 := (congrArg Int32.toInt (put_nr (by decide))).trans c21_0
                          have e22_93_5 : ((put τ21 104 (x6).toNat (Int32.ofInt (x3))).1 93 5).toInt = x5 := (congrArg Int32.toInt (put_nr (by decide))).trans c21_1
                          have e22_93_11 : ((put τ21 104 (x6).toNat (Int32.ofInt (x3))).1 93 11).toInt = x6 := (congrArg Int32.toInt (put_nr (by decide))).trans c21_2
                          have e22_93_19 : ((put τ21 104 (x6).toNat (Int32.ofInt (x3))).1 93 19).toInt = x7 := (congrArg Int32.toInt (put_nr (by decide))).trans c21_3
                          generalize put τ21 104 (x6).toNat (Int32.ofInt (x3)) = υ22 at hG22 hB22 e22_93_2 e22_93_5 e22_93_11 e22_93_19 ⊢
                          clear c21_0 c21_1 c21_2 c21_3
                          refine zxm_debt_s12 x0 x1 x2 x3 x4 x5 x6 x7 hB22 ⟨f21_0, f21_1, f21_2, f21_3, f21_4, f21_5, f21_6, f21_7, trivial⟩ ⟨e22_93_2, e22_93_5, e22_93_11, e22_93_19, trivial⟩ ?_
                          · intro τ23 y23  hB23 hF23 f23 rr23 _ c23
                            obtain ⟨f23_0, f23_1, f23_2, f23_3, f23_4, f23_5, f23_6, f23_7, -⟩ := f23
                            clear f21_0 f21_1 f21_2 f21_3 f21_4 f21_5 f21_6 f21_7 e22_93_2 e22_93_5 e22_93_11 e22_93_19
                            obtain ⟨c23_0, c23_1, c23_2, c23_3, -⟩ := c23
                            have hG23 : puF [(93, 0), (93, 11)] [(104, (x6).toNat, Int32.ofInt (x3)), (103, (x6).toNat, Int32.ofInt (x2)), (102, (x6).toNat, Int32.ofInt (x1)), (101, (x6).toNat, Int32.ofInt (x0))] σ τ23 := puF.fq rfl hG22 hF23
                            refine Ok.ast (n := 30) rfl rfl rfl (by decide) (by omega) (by omega) ?_
                            have hG24 : puF [(93, 0), (93, 11)] [(105, (x6).toNat, Int32.ofInt (x7)), (104, (x6).toNat, Int32.ofInt (x3)), (103, (x6).toNat, Int32.ofInt (x2)), (102, (x6).toNat, Int32.ofInt (x1)), (101, (x6).toNat, Int32.ofInt (x0))] σ (put τ23 105 (x6).toNat (Int32.ofInt (x7))) := puF.put hG23
                            have hB24 : an_GB pm_B (put τ23 105 (x6).toNat (Int32.ofInt (x7))) := put_GB hB23 (by
                              show ((-2147483648) : Int) ≤ (Int32.ofInt (x7)).toInt ∧ (Int32.ofInt (x7)).toInt ≤ 2147483647
                              rw [ti_of (by omega) (by omega)]
                              omega)
                            have e24_93_2 : ((put τ23 105 (x6).toNat (Int32.ofInt (x7))).1 93 2).toInt = x4 := (congrArg Int32.toInt (put_nr (by decide))).trans c23_0
                            have e24_93_5 : ((put τ23 105 (x6).toNat (Int32.ofInt (x7))).1 93 5).toInt = x5 := (congrArg Int32.toInt (put_nr (by decide))).trans c23_1
                            have e24_93_11 : ((put τ23 105 (x6).toNat (Int32.ofInt (x7))).1 93 11).toInt = x6 := (congrArg Int32.toInt (put_nr (by decide))).trans c23_2
                            have e24_93_19 : ((put τ23 105 (x6).toNat (Int32.ofInt (x7))).1 93 19).toInt = x7 := (congrArg Int32.toInt (put_nr (by decide))).trans c23_3
                            generalize put τ23 105 (x6).toNat (Int32.ofInt (x7)) = υ24 at hG24 hB24 e24_93_2 e24_93_5 e24_93_11 e24_93_19 ⊢
                            clear c23_0 c23_1 c23_2 c23_3
                            refine zxm_debt_s13 x0 x1 x2 x3 x4 x5 x6 x7 hB24 ⟨f23_0, f23_1, f23_2, f23_3, f23_4, f23_5, f23_6, f23_7, trivial⟩ ⟨e24_93_2, e24_93_5, e24_93_11, e24_93_19, trivial⟩ ?_
                            · intro τ25 y25  hB25 hF25 f25 rr25 _ c25
                              obtain ⟨f25_0, f25_1, f25_2, f25_3, f25_4, f25_5, f25_6, f25_7, -⟩ := f25
                              clear f23_0 f23_1 f23_2 f23_3 f23_4 f23_5 f23_6 f23_7 e24_93_2 e24_93_5 e24_93_11 e24_93_19
                              obtain ⟨c25_0, c25_1, c25_2, c25_3, -⟩ := c25
                              have hG25 : puF [(93, 0), (93, 11)] [(105, (x6).toNat, Int32.ofInt (x7)), (104, (x6).toNat, Int32.ofInt (x3)), (103, (x6).toNat, Int32.ofInt (x2)), (102, (x6).toNat, Int32.ofInt (x1)), (101, (x6).toNat, Int32.ofInt (x0))] σ τ25 := puF.fq rfl hG24 hF25
                              refine Ok.ast (n := 30) rfl rfl rfl (by decide) (by omega) (by omega) ?_
                              have hG26 : puF [(93, 0), (93, 11)] [(106, (x6).toNat, Int32.ofInt (-1)), (105, (x6).toNat, Int32.ofInt (x7)), (104, (x6).toNat, Int32.ofInt (x3)), (103, (x6).toNat, Int32.ofInt (x2)), (102, (x6).toNat, Int32.ofInt (x1)), (101, (x6).toNat, Int32.ofInt (x0))] σ (put τ25 106 (x6).toNat (Int32.ofInt (-1))) := puF.put hG25
                              have hB26 : an_GB pm_B (put τ25 106 (x6).toNat (Int32.ofInt (-1))) := put_GB hB25 (by
                                show ((-2147483648) : Int) ≤ (Int32.ofInt (-1)).toInt ∧ (Int32.ofInt (-1)).toInt ≤ 2147483647
                                rw [ti_of (by omega) (by omega)]
                                omega)
                              have e26_93_2 : ((put τ25 106 (x6).toNat (Int32.ofInt (-1))).1 93 2).toInt = x4 := (congrArg Int32.toInt (put_nr (by decide))).trans c25_0
                              have e26_93_5 : ((put τ25 106 (x6).toNat (Int32.ofInt (-1))).1 93 5).toInt = x5 := (congrArg Int32.toInt (put_nr (by decide))).trans c25_1
                              have e26_93_11 : ((put τ25 106 (x6).toNat (Int32.ofInt (-1))).1 93 11).toInt = x6 := (congrArg Int32.toInt (put_nr (by decide))).trans c25_2
                              have e26_93_19 : ((put τ25 106 (x6).toNat (Int32.ofInt (-1))).1 93 19).toInt = x7 := (congrArg Int32.toInt (put_nr (by decide))).trans c25_3
                              generalize put τ25 106 (x6).toNat (Int32.ofInt (-1)) = υ26 at hG26 hB26 e26_93_2 e26_93_5 e26_93_11 e26_93_19 ⊢
                              clear c25_0 c25_1 c25_2 c25_3
                              refine zxm_debt_s14 x0 x1 x2 x3 x4 x5 x6 x7 hB26 ⟨f25_0, f25_1, f25_2, f25_3, f25_4, f25_5, f25_6, f25_7, trivial⟩ ⟨e26_93_2, e26_93_5, e26_93_11, e26_93_19, trivial⟩ ?_
                              · intro τ27 y27  hB27 hF27 f27 rr27 _ c27
                                obtain ⟨f27_0, f27_1, f27_2, f27_3, f27_4, f27_5, f27_6, f27_7, -⟩ := f27
                                clear f25_0 f25_1 f25_2 f25_3 f25_4 f25_5 f25_6 f25_7 e26_93_2 e26_93_5 e26_93_11 e26_93_19
                                obtain ⟨c27_0, c27_1, c27_2, c27_3, -⟩ := c27
                                have hG27 : puF [(93, 0), (93, 11)] [(106, (x6).toNat, Int32.ofInt (-1)), (105, (x6).toNat, Int32.ofInt (x7)), (104, (x6).toNat, Int32.ofInt (x3)), (103, (x6).toNat, Int32.ofInt (x2)), (102, (x6).toNat, Int32.ofInt (x1)), (101, (x6).toNat, Int32.ofInt (x0))] σ τ27 := puF.fq rfl hG26 hF27
                                refine Ok.ast (n := 30) rfl rfl rfl (by decide) (by omega) (by omega) ?_
                                have hG28 : puF [(93, 0), (93, 11)] [(107, (x6).toNat, Int32.ofInt 0), (106, (x6).toNat, Int32.ofInt (-1)), (105, (x6).toNat, Int32.ofInt (x7)), (104, (x6).toNat, Int32.ofInt (x3)), (103, (x6).toNat, Int32.ofInt (x2)), (102, (x6).toNat, Int32.ofInt (x1)), (101, (x6).toNat, Int32.ofInt (x0))] σ (put τ27 107 (x6).toNat (Int32.ofInt 0)) := puF.put hG27
                                have hB28 : an_GB pm_B (put τ27 107 (x6).toNat (Int32.ofInt 0)) := put_GB hB27 (by
                                  show ((-2147483648) : Int) ≤ (Int32.ofInt 0).toInt ∧ (Int32.ofInt 0).toInt ≤ 2147483647
                                  rw [ti_of (by omega) (by omega)]
                                  omega)
                                have e28_93_2 : ((put τ27 107 (x6).toNat (Int32.ofInt 0)).1 93 2).toInt = x4 := (congrArg Int32.toInt (put_nr (by decide))).trans c27_0
                                have e28_93_5 : ((put τ27 107 (x6).toNat (Int32.ofInt 0)).1 93 5).toInt = x5 := (congrArg Int32.toInt (put_nr (by decide))).trans c27_1
                                have e28_93_11 : ((put τ27 107 (x6).toNat (Int32.ofInt 0)).1 93 11).toInt = x6 := (congrArg Int32.toInt (put_nr (by decide))).trans c27_2
                                have e28_93_19 : ((put τ27 107 (x6).toNat (Int32.ofInt 0)).1 93 19).toInt = x7 := (congrArg Int32.toInt (put_nr (by decide))).trans c27_3
                                generalize put τ27 107 (x6).toNat (Int32.ofInt 0) = υ28 at hG28 hB28 e28_93_2 e28_93_5 e28_93_11 e28_93_19 ⊢
                                clear c27_0 c27_1 c27_2 c27_3
                                refine zxm_debt_s15 x0 x1 x2 x3 x4 x5 x6 x7 hB28 ⟨f27_0, f27_1, f27_2, f27_3, f27_4, f27_5, f27_6, f27_7, trivial⟩ ⟨e28_93_2, e28_93_5, e28_93_11, e28_93_19, trivial⟩ ?_
                                · intro τ29 y29  hB29 hF29 f29 rr29 _ c29
                                  obtain ⟨f29_0, f29_1, f29_2, f29_3, f29_4, f29_5, f29_6, f29_7, -⟩ := f29
                                  clear f27_0 f27_1 f27_2 f27_3 f27_4 f27_5 f27_6 f27_7 e28_93_2 e28_93_5 e28_93_11 e28_93_19
                                  obtain ⟨c29_0, c29_1, c29_2, c29_3, -⟩ := c29
                                  have hG29 : puF [(93, 0), (93, 11)] [(107, (x6).toNat, Int32.ofInt 0), (106, (x6).toNat, Int32.ofInt (-1)), (105, (x6).toNat, Int32.ofInt (x7)), (104, (x6).toNat, Int32.ofInt (x3)), (103, (x6).toNat, Int32.ofInt (x2)), (102, (x6).toNat, Int32.ofInt (x1)), (101, (x6).toNat, Int32.ofInt (x0))] σ τ29 := puF.fq rfl hG28 hF29
                                  exact ⟨hB29, Or.inr ⟨by omega, rfl, c29_2, hG29⟩⟩
                  · intro τ30 y30  hB30 hF30 f30 rr30 _ c30
                    obtain ⟨f30_0, f30_1, f30_2, f30_3, f30_4, f30_5, f30_6, f30_7, -⟩ := f30
                    clear f12_0 f12_1 f12_2 f12_3 f12_4 f12_5 f12_6 f12_7 e13_93_2 e13_93_5 e13_93_11 e13_93_19
                    obtain ⟨c30_0, c30_1, c30_2, c30_3, -⟩ := c30
                    have hG30 : puF [(93, 0), (93, 11)] [] σ τ30 := puF.fq rfl hG13 hF30
                    exact ⟨hB30, Or.inl ⟨by omega, rfl, c30_2, hG30⟩⟩
