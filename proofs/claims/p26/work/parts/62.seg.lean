/-! segments of the image, by program, each checked by the kernel -/
set_option maxRecDepth 100000 in
theorem sg_ke0 {σ : pm_S} {Q : Option Value → pm_S → Prop} (x0 x1 : Int)  (hB : an_GB pm_B σ) (eF : ((-2147483648) ≤ x0 ∧ x0 ≤ 2147483647) ∧ (0 ≤ x1 ∧ x1 ≤ 1699) ∧ True) (eC : (σ.1 93 65).toInt = x1 ∧ (σ.1 93 63).toInt = 0 ∧ True)
    (l0 : ∀ (τ : pm_S) (y : Nat → Int), an_GB pm_B τ → FQ [(93, 65)] σ τ → (((-2147483648) ≤ x0 ∧ x0 ≤ 2147483647) ∧ (0 ≤ x1 ∧ x1 ≤ 1699) ∧ ((-2147483648) ≤ y 2 ∧ y 2 ≤ 2147483647) ∧ True) → (True) → (True) → ((τ.1 93 63).toInt = 0 ∧ (τ.1 93 65).toInt = x1 + 1 ∧ (τ.1 133 (x1).toNat).toInt = y 2 ∧ True) → Q (some (.int (Int32.ofInt (y 2)))) τ)
    : Ok 242 6 0 [.ref 93, .int (Int32.ofInt (x0))] [] σ Q := by
  refine an_seg (B := pm_B) (F := [(93, 65)]) (T := [133]) (S := []) (fun _ h => absurd h List.not_mem_nil) (k := 242) (d := 5) (cs := []) 19 0 2 [(0, (-2147483648), 2147483647), (1, 0, 1699)] [(93, (1, 0, 65), (0, 1, 0)), (93, (1, 0, 63), (1, 0, 0))] [(2, 93, 0), (0, 0, 0)] [] [(9999, [], [(0, 2, 0)], [(0, (-2147483648), 2147483647), (1, 0, 1699), (2, (-2147483648), 2147483647)], [], [], [(93, (1, 0, 63), (1, 0, 0)), (93, (1, 0, 65), (0, 1, 1)), (133, (0, 1, 0), (0, 2, 0))])] (by decide +kernel) (ρ0 := (fun s => [x0, x1].getD s 0)) hB eF eC ⟨rfl, ⟨rfl, trivial⟩⟩ trivial ?_
  refine List.forall_mem_cons.mpr ⟨?_, fun _ h => absurd h List.not_mem_nil⟩
  · intro ρ τ Lc stc hx g1 g2 g3 g4 g5 g6 g7 g8
    have e0 : ρ 0 = x0 := hx 0 (by decide)
    have e1 : ρ 1 = x1 := hx 1 (by decide)
    subst e0
    subst e1
    match stc, g8 with
    | [_], ⟨h, _⟩ => cases h; exact l0 τ ρ g1 g2 g3 g4 g5 g6
set_option maxRecDepth 100000 in
theorem sg_ke1 {σ : pm_S} {Q : Option Value → pm_S → Prop} (x0 x1 : Int)  (hB : an_GB pm_B σ) (eF : ((-2147483648) ≤ x0 ∧ x0 ≤ 2147483647) ∧ (0 ≤ x1 ∧ x1 ≤ 1699) ∧ True) (eC : (σ.1 93 65).toInt = x1 ∧ (σ.1 93 63).toInt = 1 ∧ True)
    (l0 : ∀ (τ : pm_S) (y : Nat → Int), an_GB pm_B τ → FQ [(93, 65)] σ τ → (((-2147483648) ≤ x0 ∧ x0 ≤ 2147483647) ∧ (0 ≤ x1 ∧ x1 ≤ 1699) ∧ True) → (True) → (True) → ((τ.1 93 63).toInt = 1 ∧ (τ.1 93 65).toInt = x1 + 1 ∧ True) → Ok 242 6 24 [.ref 93, .int (Int32.ofInt (x0))] [.int (Int32.ofInt (x0)), .int (Int32.ofInt (x1)), .ref 133] τ Q)
    : Ok 242 6 0 [.ref 93, .int (Int32.ofInt (x0))] [] σ Q := by
  refine an_seg (B := pm_B) (F := [(93, 65)]) (T := []) (S := []) (fun _ h => absurd h List.not_mem_nil) (k := 242) (d := 5) (cs := [24]) 18 0 2 [(0, (-2147483648), 2147483647), (1, 0, 1699)] [(93, (1, 0, 65), (0, 1, 0)), (93, (1, 0, 63), (1, 0, 1))] [(2, 93, 0), (0, 0, 0)] [] [(24, [(2, 93, 0), (0, 0, 0)], [(0, 0, 0), (0, 1, 0), (2, 133, 0)], [(0, (-2147483648), 2147483647), (1, 0, 1699)], [], [], [(93, (1, 0, 63), (1, 0, 1)), (93, (1, 0, 65), (0, 1, 1))])] (by decide +kernel) (ρ0 := (fun s => [x0, x1].getD s 0)) hB eF eC ⟨rfl, ⟨rfl, trivial⟩⟩ trivial ?_
  refine List.forall_mem_cons.mpr ⟨?_, fun _ h => absurd h List.not_mem_nil⟩
  · intro ρ τ Lc stc hx g1 g2 g3 g4 g5 g6 g7 g8
    have e0 : ρ 0 = x0 := hx 0 (by decide)
    have e1 : ρ 1 = x1 := hx 1 (by decide)
    subst e0
    subst e1
    have g7 := g7 (by decide)
    match Lc, stc, g7, g8 with
    | [v0, v1], [w0, w1, w2], ⟨hv0, hv1, _⟩, ⟨hw0, hw1, hw2, _⟩ =>
      cases hv0
      cases hv1
      cases hw0
      cases hw1
      cases hw2
      exact l0 τ ρ  g1 g2 g3 g4 g5 g6
set_option maxRecDepth 100000 in
theorem sg_ke25 {σ : pm_S} {Q : Option Value → pm_S → Prop} (x0 : Int)  (hB : an_GB pm_B σ) (eF : ((-2147483648) ≤ x0 ∧ x0 ≤ 2147483647) ∧ True)
    (l0 : ∀ (τ : pm_S) (y : Nat → Int), an_GB pm_B τ → FQ [] σ τ → (((-2147483648) ≤ x0 ∧ x0 ≤ 2147483647) ∧ True) → (True) → (True) → (True) → Q (some (.int (Int32.ofInt (x0)))) τ)
    : Ok 242 6 25 [.ref 93, .int (Int32.ofInt (x0))] [] σ Q := by
  refine an_seg (B := pm_B) (F := []) (T := []) (S := []) (fun _ h => absurd h List.not_mem_nil) (k := 242) (d := 5) (cs := []) 4 25 1 [(0, (-2147483648), 2147483647)] [] [(2, 93, 0), (0, 0, 0)] [] [(9999, [], [(0, 0, 0)], [(0, (-2147483648), 2147483647)], [], [], [])] (by decide +kernel) (ρ0 := (fun s => [x0].getD s 0)) hB eF trivial ⟨rfl, ⟨rfl, trivial⟩⟩ trivial ?_
  refine List.forall_mem_cons.mpr ⟨?_, fun _ h => absurd h List.not_mem_nil⟩
  · intro ρ τ Lc stc hx g1 g2 g3 g4 g5 g6 g7 g8
    have e0 : ρ 0 = x0 := hx 0 (by decide)
    subst e0
    match stc, g8 with
    | [_], ⟨h, _⟩ => cases h; exact l0 τ ρ g1 g2 g3 g4 g5 g6
