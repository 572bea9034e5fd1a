/-! pieces of cleared, both sides -/
set_option maxRecDepth 100000 in
theorem ks_0 {σ : pm_S} {Q : Option Value → pm_S → Prop} (x0 x1 x2 x3 x4 x5 : Int)  (hB : an_GB pm_B σ) (eF : (0 ≤ x0 ∧ x0 ≤ 29) ∧ (0 ≤ x1 ∧ x1 ≤ 29) ∧ (0 ≤ x2 ∧ x2 ≤ 9) ∧ (0 ≤ x3 ∧ x3 ≤ 9) ∧ (0 ≤ x4 ∧ x4 ≤ 9) ∧ (0 ≤ x5 ∧ x5 ≤ 9) ∧ True) (eC : (σ.1 14 (x0).toNat).toInt = x2 ∧ (σ.1 15 (x0).toNat).toInt = x3 ∧ (σ.1 14 (x1).toNat).toInt = x4 ∧ (σ.1 15 (x1).toNat).toInt = x5 ∧ True)
    (l0 : ∀ (τ : pm_S) (y : Nat → Int), an_GB pm_B τ → FQ [] σ τ → ((0 ≤ x0 ∧ x0 ≤ 29) ∧ (0 ≤ x1 ∧ x1 ≤ 29) ∧ (0 ≤ x2 ∧ x2 ≤ 9) ∧ (0 ≤ x3 ∧ x3 ≤ 9) ∧ (0 ≤ x4 ∧ x4 ≤ 9) ∧ (0 ≤ x5 ∧ x5 ≤ 9) ∧ True) → (True) → (True) → ((τ.1 14 (x0).toNat).toInt = x2 ∧ (τ.1 14 (x1).toNat).toInt = x4 ∧ (τ.1 15 (x0).toNat).toInt = x3 ∧ (τ.1 15 (x1).toNat).toInt = x5 ∧ True) → Ok 8 5 8 [.ref 13, .int (Int32.ofInt (x0)), .int (Int32.ofInt (x1))] [.int (Int32.ofInt (x4)), .int (Int32.ofInt (x2))] τ Q)
    : Ok 8 5 0 [.ref 13, .int (Int32.ofInt (x0)), .int (Int32.ofInt (x1))] [] σ Q := by
  refine an_seg (B := pm_B) (F := []) (T := [14, 15]) (S := []) (fun _ h => absurd h List.not_mem_nil) (k := 8) (d := 4) (cs := [8]) 10 0 6 [(0, 0, 29), (1, 0, 29), (2, 0, 9), (3, 0, 9), (4, 0, 9), (5, 0, 9)] [(14, (0, 0, 0), (0, 2, 0)), (15, (0, 0, 0), (0, 3, 0)), (14, (0, 1, 0), (0, 4, 0)), (15, (0, 1, 0), (0, 5, 0))] [(2, 13, 0), (0, 0, 0), (0, 1, 0)] [] [(8, [(2, 13, 0), (0, 0, 0), (0, 1, 0)], [(0, 4, 0), (0, 2, 0)], [(0, 0, 29), (1, 0, 29), (2, 0, 9), (3, 0, 9), (4, 0, 9), (5, 0, 9)], [], [], [(14, (0, 0, 0), (0, 2, 0)), (14, (0, 1, 0), (0, 4, 0)), (15, (0, 0, 0), (0, 3, 0)), (15, (0, 1, 0), (0, 5, 0))])] (by decide +kernel) (ρ0 := (fun s => [x0, x1, x2, x3, x4, x5].getD s 0)) hB eF eC ⟨rfl, ⟨rfl, ⟨rfl, trivial⟩⟩⟩ trivial ?_
  refine List.forall_mem_cons.mpr ⟨?_, fun _ h => absurd h List.not_mem_nil⟩
  · intro ρ τ Lc stc hx g1 g2 g3 g4 g5 g6 g7 g8
    have e0 : ρ 0 = x0 := hx 0 (by decide)
    have e1 : ρ 1 = x1 := hx 1 (by decide)
    have e2 : ρ 2 = x2 := hx 2 (by decide)
    have e3 : ρ 3 = x3 := hx 3 (by decide)
    have e4 : ρ 4 = x4 := hx 4 (by decide)
    have e5 : ρ 5 = x5 := hx 5 (by decide)
    subst e0
    subst e1
    subst e2
    subst e3
    subst e4
    subst e5
    have g7 := g7 (by decide)
    match Lc, stc, g7, g8 with
    | [v0, v1, v2], [w0, w1], ⟨hv0, hv1, hv2, _⟩, ⟨hw0, hw1, _⟩ =>
      cases hv0
      cases hv1
      cases hv2
      cases hw0
      cases hw1
      exact l0 τ ρ  g1 g2 g3 g4 g5 g6
set_option maxRecDepth 100000 in
theorem ks_9 {σ : pm_S} {Q : Option Value → pm_S → Prop} (x0 x1 x2 x3 x4 x5 : Int)  (hB : an_GB pm_B σ) (eF : (0 ≤ x0 ∧ x0 ≤ 29) ∧ (0 ≤ x1 ∧ x1 ≤ 29) ∧ (0 ≤ x2 ∧ x2 ≤ 9) ∧ (0 ≤ x3 ∧ x3 ≤ 9) ∧ (0 ≤ x4 ∧ x4 ≤ 9) ∧ (0 ≤ x5 ∧ x5 ≤ 9) ∧ True) (eC : (σ.1 14 (x0).toNat).toInt = x2 ∧ (σ.1 15 (x0).toNat).toInt = x3 ∧ (σ.1 14 (x1).toNat).toInt = x4 ∧ (σ.1 15 (x1).toNat).toInt = x5 ∧ True)
    (l0 : ∀ (τ : pm_S) (y : Nat → Int), an_GB pm_B τ → FQ [] σ τ → ((0 ≤ x0 ∧ x0 ≤ 29) ∧ (0 ≤ x1 ∧ x1 ≤ 29) ∧ (0 ≤ x2 ∧ x2 ≤ 9) ∧ (0 ≤ x3 ∧ x3 ≤ 9) ∧ (0 ≤ x4 ∧ x4 ≤ 9) ∧ (0 ≤ x5 ∧ x5 ≤ 9) ∧ True) → (True) → (True) → ((τ.1 14 (x0).toNat).toInt = x2 ∧ (τ.1 14 (x1).toNat).toInt = x4 ∧ (τ.1 15 (x0).toNat).toInt = x3 ∧ (τ.1 15 (x1).toNat).toInt = x5 ∧ True) → Ok 8 5 17 [.ref 13, .int (Int32.ofInt (x0)), .int (Int32.ofInt (x1))] [.int (Int32.ofInt (x5)), .int (Int32.ofInt (x2))] τ Q)
    : Ok 8 5 9 [.ref 13, .int (Int32.ofInt (x0)), .int (Int32.ofInt (x1))] [] σ Q := by
  refine an_seg (B := pm_B) (F := []) (T := [14, 15]) (S := []) (fun _ h => absurd h List.not_mem_nil) (k := 8) (d := 4) (cs := [17]) 10 9 6 [(0, 0, 29), (1, 0, 29), (2, 0, 9), (3, 0, 9), (4, 0, 9), (5, 0, 9)] [(14, (0, 0, 0), (0, 2, 0)), (15, (0, 0, 0), (0, 3, 0)), (14, (0, 1, 0), (0, 4, 0)), (15, (0, 1, 0), (0, 5, 0))] [(2, 13, 0), (0, 0, 0), (0, 1, 0)] [] [(17, [(2, 13, 0), (0, 0, 0), (0, 1, 0)], [(0, 5, 0), (0, 2, 0)], [(0, 0, 29), (1, 0, 29), (2, 0, 9), (3, 0, 9), (4, 0, 9), (5, 0, 9)], [], [], [(14, (0, 0, 0), (0, 2, 0)), (14, (0, 1, 0), (0, 4, 0)), (15, (0, 0, 0), (0, 3, 0)), (15, (0, 1, 0), (0, 5, 0))])] (by decide +kernel) (ρ0 := (fun s => [x0, x1, x2, x3, x4, x5].getD s 0)) hB eF eC ⟨rfl, ⟨rfl, ⟨rfl, trivial⟩⟩⟩ trivial ?_
  refine List.forall_mem_cons.mpr ⟨?_, fun _ h => absurd h List.not_mem_nil⟩
  · intro ρ τ Lc stc hx g1 g2 g3 g4 g5 g6 g7 g8
    have e0 : ρ 0 = x0 := hx 0 (by decide)
    have e1 : ρ 1 = x1 := hx 1 (by decide)
    have e2 : ρ 2 = x2 := hx 2 (by decide)
    have e3 : ρ 3 = x3 := hx 3 (by decide)
    have e4 : ρ 4 = x4 := hx 4 (by decide)
    have e5 : ρ 5 = x5 := hx 5 (by decide)
    subst e0
    subst e1
    subst e2
    subst e3
    subst e4
    subst e5
    have g7 := g7 (by decide)
    match Lc, stc, g7, g8 with
    | [v0, v1, v2], [w0, w1], ⟨hv0, hv1, hv2, _⟩, ⟨hw0, hw1, _⟩ =>
      cases hv0
      cases hv1
      cases hv2
      cases hw0
      cases hw1
      exact l0 τ ρ  g1 g2 g3 g4 g5 g6
set_option maxRecDepth 100000 in
theorem ks_18 {σ : pm_S} {Q : Option Value → pm_S → Prop} (x0 x1 x2 x3 x4 x5 : Int)  (hB : an_GB pm_B σ) (eF : (0 ≤ x0 ∧ x0 ≤ 29) ∧ (0 ≤ x1 ∧ x1 ≤ 29) ∧ (0 ≤ x2 ∧ x2 ≤ 9) ∧ (0 ≤ x3 ∧ x3 ≤ 9) ∧ (0 ≤ x4 ∧ x4 ≤ 9) ∧ (0 ≤ x5 ∧ x5 ≤ 9) ∧ True) (eC : (σ.1 14 (x0).toNat).toInt = x2 ∧ (σ.1 15 (x0).toNat).toInt = x3 ∧ (σ.1 14 (x1).toNat).toInt = x4 ∧ (σ.1 15 (x1).toNat).toInt = x5 ∧ True)
    (l0 : ∀ (τ : pm_S) (y : Nat → Int), an_GB pm_B τ → FQ [] σ τ → ((0 ≤ x0 ∧ x0 ≤ 29) ∧ (0 ≤ x1 ∧ x1 ≤ 29) ∧ (0 ≤ x2 ∧ x2 ≤ 9) ∧ (0 ≤ x3 ∧ x3 ≤ 9) ∧ (0 ≤ x4 ∧ x4 ≤ 9) ∧ (0 ≤ x5 ∧ x5 ≤ 9) ∧ True) → (True) → (True) → ((τ.1 14 (x0).toNat).toInt = x2 ∧ (τ.1 14 (x1).toNat).toInt = x4 ∧ (τ.1 15 (x0).toNat).toInt = x3 ∧ (τ.1 15 (x1).toNat).toInt = x5 ∧ True) → Ok 8 5 26 [.ref 13, .int (Int32.ofInt (x0)), .int (Int32.ofInt (x1))] [.int (Int32.ofInt (x4)), .int (Int32.ofInt (x3))] τ Q)
    : Ok 8 5 18 [.ref 13, .int (Int32.ofInt (x0)), .int (Int32.ofInt (x1))] [] σ Q := by
  refine an_seg (B := pm_B) (F := []) (T := [14, 15]) (S := []) (fun _ h => absurd h List.not_mem_nil) (k := 8) (d := 4) (cs := [26]) 10 18 6 [(0, 0, 29), (1, 0, 29), (2, 0, 9), (3, 0, 9), (4, 0, 9), (5, 0, 9)] [(14, (0, 0, 0), (0, 2, 0)), (15, (0, 0, 0), (0, 3, 0)), (14, (0, 1, 0), (0, 4, 0)), (15, (0, 1, 0), (0, 5, 0))] [(2, 13, 0), (0, 0, 0), (0, 1, 0)] [] [(26, [(2, 13, 0), (0, 0, 0), (0, 1, 0)], [(0, 4, 0), (0, 3, 0)], [(0, 0, 29), (1, 0, 29), (2, 0, 9), (3, 0, 9), (4, 0, 9), (5, 0, 9)], [], [], [(14, (0, 0, 0), (0, 2, 0)), (14, (0, 1, 0), (0, 4, 0)), (15, (0, 0, 0), (0, 3, 0)), (15, (0, 1, 0), (0, 5, 0))])] (by decide +kernel) (ρ0 := (fun s => [x0, x1, x2, x3, x4, x5].getD s 0)) hB eF eC ⟨rfl, ⟨rfl, ⟨rfl, trivial⟩⟩⟩ trivial ?_
  refine List.forall_mem_cons.mpr ⟨?_, fun _ h => absurd h List.not_mem_nil⟩
  · intro ρ τ Lc stc hx g1 g2 g3 g4 g5 g6 g7 g8
    have e0 : ρ 0 = x0 := hx 0 (by decide)
    have e1 : ρ 1 = x1 := hx 1 (by decide)
    have e2 : ρ 2 = x2 := hx 2 (by decide)
    have e3 : ρ 3 = x3 := hx 3 (by decide)
    have e4 : ρ 4 = x4 := hx 4 (by decide)
    have e5 : ρ 5 = x5 := hx 5 (by decide)
    subst e0
    subst e1
    subst e2
    subst e3
    subst e4
    subst e5
    have g7 := g7 (by decide)
    match Lc, stc, g7, g8 with
    | [v0, v1, v2], [w0, w1], ⟨hv0, hv1, hv2, _⟩, ⟨hw0, hw1, _⟩ =>
      cases hv0
      cases hv1
      cases hv2
      cases hw0
      cases hw1
      exact l0 τ ρ  g1 g2 g3 g4 g5 g6
set_option maxRecDepth 100000 in
theorem ks_27 {σ : pm_S} {Q : Option Value → pm_S → Prop} (x0 x1 x2 x3 x4 x5 : Int)  (hB : an_GB pm_B σ) (eF : (0 ≤ x0 ∧ x0 ≤ 29) ∧ (0 ≤ x1 ∧ x1 ≤ 29) ∧ (0 ≤ x2 ∧ x2 ≤ 9) ∧ (0 ≤ x3 ∧ x3 ≤ 9) ∧ (0 ≤ x4 ∧ x4 ≤ 9) ∧ (0 ≤ x5 ∧ x5 ≤ 9) ∧ True) (eC : (σ.1 14 (x0).toNat).toInt = x2 ∧ (σ.1 15 (x0).toNat).toInt = x3 ∧ (σ.1 14 (x1).toNat).toInt = x4 ∧ (σ.1 15 (x1).toNat).toInt = x5 ∧ True)
    (l0 : ∀ (τ : pm_S) (y : Nat → Int), an_GB pm_B τ → FQ [] σ τ → ((0 ≤ x0 ∧ x0 ≤ 29) ∧ (0 ≤ x1 ∧ x1 ≤ 29) ∧ (0 ≤ x2 ∧ x2 ≤ 9) ∧ (0 ≤ x3 ∧ x3 ≤ 9) ∧ (0 ≤ x4 ∧ x4 ≤ 9) ∧ (0 ≤ x5 ∧ x5 ≤ 9) ∧ True) → (True) → (True) → ((τ.1 14 (x0).toNat).toInt = x2 ∧ (τ.1 14 (x1).toNat).toInt = x4 ∧ (τ.1 15 (x0).toNat).toInt = x3 ∧ (τ.1 15 (x1).toNat).toInt = x5 ∧ True) → Ok 8 5 35 [.ref 13, .int (Int32.ofInt (x0)), .int (Int32.ofInt (x1))] [.int (Int32.ofInt (x5)), .int (Int32.ofInt (x3))] τ Q)
    : Ok 8 5 27 [.ref 13, .int (Int32.ofInt (x0)), .int (Int32.ofInt (x1))] [] σ Q := by
  refine an_seg (B := pm_B) (F := []) (T := [14, 15]) (S := []) (fun _ h => absurd h List.not_mem_nil) (k := 8) (d := 4) (cs := [35]) 10 27 6 [(0, 0, 29), (1, 0, 29), (2, 0, 9), (3, 0, 9), (4, 0, 9), (5, 0, 9)] [(14, (0, 0, 0), (0, 2, 0)), (15, (0, 0, 0), (0, 3, 0)), (14, (0, 1, 0), (0, 4, 0)), (15, (0, 1, 0), (0, 5, 0))] [(2, 13, 0), (0, 0, 0), (0, 1, 0)] [] [(35, [(2, 13, 0), (0, 0, 0), (0, 1, 0)], [(0, 5, 0), (0, 3, 0)], [(0, 0, 29), (1, 0, 29), (2, 0, 9), (3, 0, 9), (4, 0, 9), (5, 0, 9)], [], [], [(14, (0, 0, 0), (0, 2, 0)), (14, (0, 1, 0), (0, 4, 0)), (15, (0, 0, 0), (0, 3, 0)), (15, (0, 1, 0), (0, 5, 0))])] (by decide +kernel) (ρ0 := (fun s => [x0, x1, x2, x3, x4, x5].getD s 0)) hB eF eC ⟨rfl, ⟨rfl, ⟨rfl, trivial⟩⟩⟩ trivial ?_
  refine List.forall_mem_cons.mpr ⟨?_, fun _ h => absurd h List.not_mem_nil⟩
  · intro ρ τ Lc stc hx g1 g2 g3 g4 g5 g6 g7 g8
    have e0 : ρ 0 = x0 := hx 0 (by decide)
    have e1 : ρ 1 = x1 := hx 1 (by decide)
    have e2 : ρ 2 = x2 := hx 2 (by decide)
    have e3 : ρ 3 = x3 := hx 3 (by decide)
    have e4 : ρ 4 = x4 := hx 4 (by decide)
    have e5 : ρ 5 = x5 := hx 5 (by decide)
    subst e0
    subst e1
    subst e2
    subst e3
    subst e4
    subst e5
    have g7 := g7 (by decide)
    match Lc, stc, g7, g8 with
    | [v0, v1, v2], [w0, w1], ⟨hv0, hv1, hv2, _⟩, ⟨hw0, hw1, _⟩ =>
      cases hv0
      cases hv1
      cases hv2
      cases hw0
      cases hw1
      exact l0 τ ρ  g1 g2 g3 g4 g5 g6
set_option maxRecDepth 100000 in
theorem ks_36 {σ : pm_S} {Q : Option Value → pm_S → Prop} (x0 x1 : Int)  (hB : an_GB pm_B σ) (eF : (0 ≤ x0 ∧ x0 ≤ 29) ∧ (0 ≤ x1 ∧ x1 ≤ 29) ∧ True)
    (l0 : ∀ (τ : pm_S) (y : Nat → Int), an_GB pm_B τ → FQ [] σ τ → ((0 ≤ x0 ∧ x0 ≤ 29) ∧ (0 ≤ x1 ∧ x1 ≤ 29) ∧ True) → (True) → (True) → (True) → Q (some (.int (Int32.ofInt 1))) τ)
    : Ok 8 5 36 [.ref 13, .int (Int32.ofInt (x0)), .int (Int32.ofInt (x1))] [] σ Q := by
  refine an_seg (B := pm_B) (F := []) (T := []) (S := []) (fun _ h => absurd h List.not_mem_nil) (k := 8) (d := 4) (cs := []) 5 36 2 [(0, 0, 29), (1, 0, 29)] [] [(2, 13, 0), (0, 0, 0), (0, 1, 0)] [] [(9999, [], [(1, 0, 1)], [(0, 0, 29), (1, 0, 29)], [], [], [])] (by decide +kernel) (ρ0 := (fun s => [x0, x1].getD s 0)) hB eF trivial ⟨rfl, ⟨rfl, ⟨rfl, trivial⟩⟩⟩ trivial ?_
  refine List.forall_mem_cons.mpr ⟨?_, fun _ h => absurd h List.not_mem_nil⟩
  · intro ρ τ Lc stc hx g1 g2 g3 g4 g5 g6 g7 g8
    have e0 : ρ 0 = x0 := hx 0 (by decide)
    have e1 : ρ 1 = x1 := hx 1 (by decide)
    subst e0
    subst e1
    match stc, g8 with
    | [_], ⟨h, _⟩ => cases h; exact l0 τ ρ g1 g2 g3 g4 g5 g6
set_option maxRecDepth 100000 in
theorem ks_38 {σ : pm_S} {Q : Option Value → pm_S → Prop} (x0 x1 : Int)  (hB : an_GB pm_B σ) (eF : (0 ≤ x0 ∧ x0 ≤ 29) ∧ (0 ≤ x1 ∧ x1 ≤ 29) ∧ True)
    (l0 : ∀ (τ : pm_S) (y : Nat → Int), an_GB pm_B τ → FQ [] σ τ → ((0 ≤ x0 ∧ x0 ≤ 29) ∧ (0 ≤ x1 ∧ x1 ≤ 29) ∧ True) → (True) → (True) → (True) → Q (some (.int (Int32.ofInt 0))) τ)
    : Ok 8 5 38 [.ref 13, .int (Int32.ofInt (x0)), .int (Int32.ofInt (x1))] [] σ Q := by
  refine an_seg (B := pm_B) (F := []) (T := []) (S := []) (fun _ h => absurd h List.not_mem_nil) (k := 8) (d := 4) (cs := []) 4 38 2 [(0, 0, 29), (1, 0, 29)] [] [(2, 13, 0), (0, 0, 0), (0, 1, 0)] [] [(9999, [], [(1, 0, 0)], [(0, 0, 29), (1, 0, 29)], [], [], [])] (by decide +kernel) (ρ0 := (fun s => [x0, x1].getD s 0)) hB eF trivial ⟨rfl, ⟨rfl, ⟨rfl, trivial⟩⟩⟩ trivial ?_
  refine List.forall_mem_cons.mpr ⟨?_, fun _ h => absurd h List.not_mem_nil⟩
  · intro ρ τ Lc stc hx g1 g2 g3 g4 g5 g6 g7 g8
    have e0 : ρ 0 = x0 := hx 0 (by decide)
    have e1 : ρ 1 = x1 := hx 1 (by decide)
    subst e0
    subst e1
    match stc, g8 with
    | [_], ⟨h, _⟩ => cases h; exact l0 τ ρ g1 g2 g3 g4 g5 g6
set_option maxRecDepth 100000 in
theorem ka_0 {σ : pm_S} {Q : Option Value → pm_S → Prop} (v1 : Value) (v2 : Value) (v3 : Value) (hv1 : v1.category = 1) (hv2 : v2.category = 1) (hv3 : v3.category = 1) (hB : an_GB pm_B σ)
    (l0 : ∀ (τ : pm_S) (y : Nat → Int) (v2 : Value) (v3 : Value), v2.category = 1 → v3.category = 1 → an_GB pm_B τ → FQ [] σ τ → (True) → (True) → (True) → (True) → Ok 70 9 2 [.ref 79, .int (Int32.ofInt 0), v2, v3] [] τ Q)
    : Ok 70 9 0 [.ref 79, v1, v2, v3] [] σ Q := by
  refine an_seg (B := pm_B) (F := []) (T := []) (S := []) (fun _ h => absurd h List.not_mem_nil) (k := 70) (d := 8) (cs := [2]) 4 0 0 [] [] [(2, 79, 0), (5, 0, 0), (5, 0, 0), (5, 0, 0)] [] [(2, [(2, 79, 0), (1, 0, 0), (5, 0, 0), (5, 0, 0)], [], [], [], [], [])] (by decide +kernel) (ρ0 := (fun s => [].getD s 0)) hB trivial trivial ⟨rfl, ⟨hv1, ⟨hv2, ⟨hv3, trivial⟩⟩⟩⟩ trivial ?_
  refine List.forall_mem_cons.mpr ⟨?_, fun _ h => absurd h List.not_mem_nil⟩
  · intro ρ τ Lc stc hx g1 g2 g3 g4 g5 g6 g7 g8
    have g7 := g7 (by decide)
    match Lc, stc, g7, g8 with
    | [v0, v1, v2, v3], [], ⟨hv0, hv1, hv2, hv3, _⟩, _ =>
      cases hv0
      cases hv1
      exact l0 τ ρ v2 v3 hv2 hv3 g1 g2 g3 g4 g5 g6
set_option maxRecDepth 100000 in
theorem ka_2 {σ : pm_S} {Q : Option Value → pm_S → Prop} (x0 x1 : Int) (v2 : Value) (v3 : Value) (hv2 : v2.category = 1) (hv3 : v3.category = 1) (hB : an_GB pm_B σ) (eF : (0 ≤ x0 ∧ x0 ≤ 10) ∧ (0 ≤ x1 ∧ x1 ≤ 10) ∧ True) (eC : (σ.1 79 2).toInt = x1 ∧ True)
    (l0 : ∀ (τ : pm_S) (y : Nat → Int) (v2 : Value) (v3 : Value), v2.category = 1 → v3.category = 1 → an_GB pm_B τ → FQ [] σ τ → ((0 ≤ x0 ∧ x0 ≤ 10) ∧ (0 ≤ x1 ∧ x1 ≤ 10) ∧ True) → (True) → (True) → ((τ.1 79 2).toInt = x1 ∧ True) → Ok 70 9 5 [.ref 79, .int (Int32.ofInt (x0)), v2, v3] [.int (Int32.ofInt (x1)), .int (Int32.ofInt (x0))] τ Q)
    : Ok 70 9 2 [.ref 79, .int (Int32.ofInt (x0)), v2, v3] [] σ Q := by
  refine an_seg (B := pm_B) (F := []) (T := []) (S := []) (fun _ h => absurd h List.not_mem_nil) (k := 70) (d := 8) (cs := [5]) 5 2 2 [(0, 0, 10), (1, 0, 10)] [(79, (1, 0, 2), (0, 1, 0))] [(2, 79, 0), (0, 0, 0), (5, 0, 0), (5, 0, 0)] [] [(5, [(2, 79, 0), (0, 0, 0), (5, 0, 0), (5, 0, 0)], [(0, 1, 0), (0, 0, 0)], [(0, 0, 10), (1, 0, 10)], [], [], [(79, (1, 0, 2), (0, 1, 0))])] (by decide +kernel) (ρ0 := (fun s => [x0, x1].getD s 0)) hB eF eC ⟨rfl, ⟨rfl, ⟨hv2, ⟨hv3, trivial⟩⟩⟩⟩ trivial ?_
  refine List.forall_mem_cons.mpr ⟨?_, fun _ h => absurd h List.not_mem_nil⟩
  · intro ρ τ Lc stc hx g1 g2 g3 g4 g5 g6 g7 g8
    have e0 : ρ 0 = x0 := hx 0 (by decide)
    have e1 : ρ 1 = x1 := hx 1 (by decide)
    subst e0
    subst e1
    have g7 := g7 (by decide)
    match Lc, stc, g7, g8 with
    | [v0, v1, v2, v3], [w0, w1], ⟨hv0, hv1, hv2, hv3, _⟩, ⟨hw0, hw1, _⟩ =>
      cases hv0
      cases hv1
      cases hw0
      cases hw1
      exact l0 τ ρ v2 v3 hv2 hv3 g1 g2 g3 g4 g5 g6
set_option maxRecDepth 100000 in
theorem ka_6 {σ : pm_S} {Q : Option Value → pm_S → Prop} (x0 : Int) (v2 : Value) (v3 : Value) (hv2 : v2.category = 1) (hv3 : v3.category = 1) (hB : an_GB pm_B σ) (eF : (0 ≤ x0 ∧ x0 ≤ 9) ∧ True)
    (l0 : ∀ (τ : pm_S) (y : Nat → Int) (v2 : Value) (v3 : Value), v2.category = 1 → v3.category = 1 → an_GB pm_B τ → FQ [] σ τ → ((0 ≤ x0 ∧ x0 ≤ 9) ∧ True) → (True) → (True) → (True) → Ok 70 9 10 [.ref 79, .int (Int32.ofInt (x0)), v2, v3] [.int (Int32.ofInt 0), .int (Int32.ofInt (x0)), .ref 81] τ Q)
    : Ok 70 9 6 [.ref 79, .int (Int32.ofInt (x0)), v2, v3] [] σ Q := by
  refine an_seg (B := pm_B) (F := []) (T := []) (S := []) (fun _ h => absurd h List.not_mem_nil) (k := 70) (d := 8) (cs := [10]) 6 6 1 [(0, 0, 9)] [] [(2, 79, 0), (0, 0, 0), (5, 0, 0), (5, 0, 0)] [] [(10, [(2, 79, 0), (0, 0, 0), (5, 0, 0), (5, 0, 0)], [(1, 0, 0), (0, 0, 0), (2, 81, 0)], [(0, 0, 9)], [], [], [])] (by decide +kernel) (ρ0 := (fun s => [x0].getD s 0)) hB eF trivial ⟨rfl, ⟨rfl, ⟨hv2, ⟨hv3, trivial⟩⟩⟩⟩ trivial ?_
  refine List.forall_mem_cons.mpr ⟨?_, fun _ h => absurd h List.not_mem_nil⟩
  · intro ρ τ Lc stc hx g1 g2 g3 g4 g5 g6 g7 g8
    have e0 : ρ 0 = x0 := hx 0 (by decide)
    subst e0
    have g7 := g7 (by decide)
    match Lc, stc, g7, g8 with
    | [v0, v1, v2, v3], [w0, w1, w2], ⟨hv0, hv1, hv2, hv3, _⟩, ⟨hw0, hw1, hw2, _⟩ =>
      cases hv0
      cases hv1
      cases hw0
      cases hw1
      cases hw2
      exact l0 τ ρ v2 v3 hv2 hv3 g1 g2 g3 g4 g5 g6
set_option maxRecDepth 100000 in
theorem ka_11 {σ : pm_S} {Q : Option Value → pm_S → Prop} (x0 : Int) (v2 : Value) (v3 : Value) (hv2 : v2.category = 1) (hv3 : v3.category = 1) (hB : an_GB pm_B σ) (eF : (0 ≤ x0 ∧ x0 ≤ 9) ∧ True)
    (l0 : ∀ (τ : pm_S) (y : Nat → Int) (v3 : Value), v3.category = 1 → an_GB pm_B τ → FQ [] σ τ → ((0 ≤ x0 ∧ x0 ≤ 9) ∧ True) → (True) → (True) → (True) → Ok 70 9 13 [.ref 79, .int (Int32.ofInt (x0)), .int (Int32.ofInt 0), v3] [] τ Q)
    : Ok 70 9 11 [.ref 79, .int (Int32.ofInt (x0)), v2, v3] [] σ Q := by
  refine an_seg (B := pm_B) (F := []) (T := []) (S := []) (fun _ h => absurd h List.not_mem_nil) (k := 70) (d := 8) (cs := [13]) 4 11 1 [(0, 0, 9)] [] [(2, 79, 0), (0, 0, 0), (5, 0, 0), (5, 0, 0)] [] [(13, [(2, 79, 0), (0, 0, 0), (1, 0, 0), (5, 0, 0)], [], [(0, 0, 9)], [], [], [])] (by decide +kernel) (ρ0 := (fun s => [x0].getD s 0)) hB eF trivial ⟨rfl, ⟨rfl, ⟨hv2, ⟨hv3, trivial⟩⟩⟩⟩ trivial ?_
  refine List.forall_mem_cons.mpr ⟨?_, fun _ h => absurd h List.not_mem_nil⟩
  · intro ρ τ Lc stc hx g1 g2 g3 g4 g5 g6 g7 g8
    have e0 : ρ 0 = x0 := hx 0 (by decide)
    subst e0
    have g7 := g7 (by decide)
    match Lc, stc, g7, g8 with
    | [v0, v1, v2, v3], [], ⟨hv0, hv1, hv2, hv3, _⟩, _ =>
      cases hv0
      cases hv1
      cases hv2
      exact l0 τ ρ v3 hv3 g1 g2 g3 g4 g5 g6
set_option maxRecDepth 100000 in
theorem ka_13 {σ : pm_S} {Q : Option Value → pm_S → Prop} (x0 x1 x2 : Int) (v3 : Value) (hv3 : v3.category = 1) (hB : an_GB pm_B σ) (eF : (0 ≤ x0 ∧ x0 ≤ 9) ∧ (0 ≤ x1 ∧ x1 ≤ 10) ∧ (0 ≤ x2 ∧ x2 ≤ 10) ∧ True) (eC : (σ.1 79 2).toInt = x2 ∧ True)
    (l0 : ∀ (τ : pm_S) (y : Nat → Int) (v3 : Value), v3.category = 1 → an_GB pm_B τ → FQ [] σ τ → ((0 ≤ x0 ∧ x0 ≤ 9) ∧ (0 ≤ x1 ∧ x1 ≤ 10) ∧ (0 ≤ x2 ∧ x2 ≤ 10) ∧ True) → (True) → (True) → ((τ.1 79 2).toInt = x2 ∧ True) → Ok 70 9 16 [.ref 79, .int (Int32.ofInt (x0)), .int (Int32.ofInt (x1)), v3] [.int (Int32.ofInt (x2)), .int (Int32.ofInt (x1))] τ Q)
    : Ok 70 9 13 [.ref 79, .int (Int32.ofInt (x0)), .int (Int32.ofInt (x1)), v3] [] σ Q := by
  refine an_seg (B := pm_B) (F := []) (T := []) (S := []) (fun _ h => absurd h List.not_mem_nil) (k := 70) (d := 8) (cs := [16]) 5 13 3 [(0, 0, 9), (1, 0, 10), (2, 0, 10)] [(79, (1, 0, 2), (0, 2, 0))] [(2, 79, 0), (0, 0, 0), (0, 1, 0), (5, 0, 0)] [] [(16, [(2, 79, 0), (0, 0, 0), (0, 1, 0), (5, 0, 0)], [(0, 2, 0), (0, 1, 0)], [(0, 0, 9), (1, 0, 10), (2, 0, 10)], [], [], [(79, (1, 0, 2), (0, 2, 0))])] (by decide +kernel) (ρ0 := (fun s => [x0, x1, x2].getD s 0)) hB eF eC ⟨rfl, ⟨rfl, ⟨rfl, ⟨hv3, trivial⟩⟩⟩⟩ trivial ?_
  refine List.forall_mem_cons.mpr ⟨?_, fun _ h => absurd h List.not_mem_nil⟩
  · intro ρ τ Lc stc hx g1 g2 g3 g4 g5 g6 g7 g8
    have e0 : ρ 0 = x0 := hx 0 (by decide)
    have e1 : ρ 1 = x1 := hx 1 (by decide)
    have e2 : ρ 2 = x2 := hx 2 (by decide)
    subst e0
    subst e1
    subst e2
    have g7 := g7 (by decide)
    match Lc, stc, g7, g8 with
    | [v0, v1, v2, v3], [w0, w1], ⟨hv0, hv1, hv2, hv3, _⟩, ⟨hw0, hw1, _⟩ =>
      cases hv0
      cases hv1
      cases hv2
      cases hw0
      cases hw1
      exact l0 τ ρ v3 hv3 g1 g2 g3 g4 g5 g6
set_option maxRecDepth 100000 in
theorem ka_17 {σ : pm_S} {Q : Option Value → pm_S → Prop} (x0 x1 x2 x3 x4 x5 : Int) (v3 : Value) (hv3 : v3.category = 1) (hB : an_GB pm_B σ) (eF : (0 ≤ x0 ∧ x0 ≤ 9) ∧ (0 ≤ x1 ∧ x1 ≤ 9) ∧ (0 ≤ x2 ∧ x2 ≤ 29) ∧ (0 ≤ x3 ∧ x3 ≤ 29) ∧ (0 ≤ x4 ∧ x4 ≤ 9) ∧ (0 ≤ x5 ∧ x5 ≤ 9) ∧ True) (eC : (σ.1 80 (x0).toNat).toInt = x2 ∧ (σ.1 80 (x1).toNat).toInt = x3 ∧ (σ.1 17 (x2).toNat).toInt = x4 ∧ (σ.1 17 (x3).toNat).toInt = x5 ∧ True)
    (l0 : ∀ (τ : pm_S) (y : Nat → Int) (v3 : Value), v3.category = 1 → an_GB pm_B τ → FQ [] σ τ → ((0 ≤ x0 ∧ x0 ≤ 9) ∧ (0 ≤ x1 ∧ x1 ≤ 9) ∧ (0 ≤ x2 ∧ x2 ≤ 29) ∧ (0 ≤ x3 ∧ x3 ≤ 29) ∧ (0 ≤ x4 ∧ x4 ≤ 9) ∧ (0 ≤ x5 ∧ x5 ≤ 9) ∧ True) → (True) → (True) → ((τ.1 17 (x2).toNat).toInt = x4 ∧ (τ.1 17 (x3).toNat).toInt = x5 ∧ (τ.1 80 (x0).toNat).toInt = x2 ∧ (τ.1 80 (x1).toNat).toInt = x3 ∧ True) → Ok 70 9 35 [.ref 79, .int (Int32.ofInt (x0)), .int (Int32.ofInt (x1)), v3] [.int (Int32.ofInt (x5)), .int (Int32.ofInt (x4))] τ Q)
    : Ok 70 9 17 [.ref 79, .int (Int32.ofInt (x0)), .int (Int32.ofInt (x1)), v3] [] σ Q := by
  refine an_seg (B := pm_B) (F := []) (T := [80, 17]) (S := []) (fun _ h => absurd h List.not_mem_nil) (k := 70) (d := 8) (cs := [35]) 20 17 6 [(0, 0, 9), (1, 0, 9), (2, 0, 29), (3, 0, 29), (4, 0, 9), (5, 0, 9)] [(80, (0, 0, 0), (0, 2, 0)), (80, (0, 1, 0), (0, 3, 0)), (17, (0, 2, 0), (0, 4, 0)), (17, (0, 3, 0), (0, 5, 0))] [(2, 79, 0), (0, 0, 0), (0, 1, 0), (5, 0, 0)] [] [(35, [(2, 79, 0), (0, 0, 0), (0, 1, 0), (5, 0, 0)], [(0, 5, 0), (0, 4, 0)], [(0, 0, 9), (1, 0, 9), (2, 0, 29), (3, 0, 29), (4, 0, 9), (5, 0, 9)], [], [], [(17, (0, 2, 0), (0, 4, 0)), (17, (0, 3, 0), (0, 5, 0)), (80, (0, 0, 0), (0, 2, 0)), (80, (0, 1, 0), (0, 3, 0))])] (by decide +kernel) (ρ0 := (fun s => [x0, x1, x2, x3, x4, x5].getD s 0)) hB eF eC ⟨rfl, ⟨rfl, ⟨rfl, ⟨hv3, trivial⟩⟩⟩⟩ trivial ?_
  refine List.forall_mem_cons.mpr ⟨?_, fun _ h => absurd h List.not_mem_nil⟩
  · intro ρ τ Lc stc hx g1 g2 g3 g4 g5 g6 g7 g8
    have e0 : ρ 0 = x0 := hx 0 (by decide)
    have e1 : ρ 1 = x1 := hx 1 (by decide)
    have e2 : ρ 2 = x2 := hx 2 (by decide)
    have e3 : ρ 3 = x3 := hx 3 (by decide)
    have e4 : ρ 4 = x4 := hx 4 (by decide)
    have e5 : ρ 5 = x5 := hx 5 (by decide)
    subst e0
    subst e1
    subst e2
    subst e3
    subst e4
    subst e5
    have g7 := g7 (by decide)
    match Lc, stc, g7, g8 with
    | [v0, v1, v2, v3], [w0, w1], ⟨hv0, hv1, hv2, hv3, _⟩, ⟨hw0, hw1, _⟩ =>
      cases hv0
      cases hv1
      cases hv2
      cases hw0
      cases hw1
      exact l0 τ ρ v3 hv3 g1 g2 g3 g4 g5 g6
set_option maxRecDepth 100000 in
theorem ka_36 {σ : pm_S} {Q : Option Value → pm_S → Prop} (x0 x1 x2 x3 x4 : Int) (v3 : Value) (hv3 : v3.category = 1) (hB : an_GB pm_B σ) (eF : (0 ≤ x0 ∧ x0 ≤ 9) ∧ (0 ≤ x1 ∧ x1 ≤ 9) ∧ (0 ≤ x2 ∧ x2 ≤ 29) ∧ (0 ≤ x3 ∧ x3 ≤ 29) ∧ ((-2147483648) ≤ x4 ∧ x4 ≤ 2147483647) ∧ True) (eC : (σ.1 80 (x0).toNat).toInt = x2 ∧ (σ.1 80 (x1).toNat).toInt = x3 ∧ (σ.1 81 (x0).toNat).toInt = x4 ∧ True)
    (l0 : ∀ (τ : pm_S) (y : Nat → Int), an_GB pm_B τ → FQ [] σ τ → ((0 ≤ x0 ∧ x0 ≤ 9) ∧ (0 ≤ x1 ∧ x1 ≤ 9) ∧ (0 ≤ x2 ∧ x2 ≤ 29) ∧ (0 ≤ x3 ∧ x3 ≤ 29) ∧ ((-2147483648) ≤ x4 ∧ x4 ≤ 2147483647) ∧ True) → (True) → (True) → ((τ.1 80 (x0).toNat).toInt = x2 ∧ (τ.1 80 (x1).toNat).toInt = x3 ∧ (τ.1 81 (x0).toNat).toInt = x4 ∧ True) → Ok 70 9 58 [.ref 79, .int (Int32.ofInt (x0)), .int (Int32.ofInt (x1)), .int (Int32.ofInt 1)] [.int (Int32.ofInt (x3)), .int (Int32.ofInt (x2)), .ref 13, .int (Int32.ofInt (x4)), .int (Int32.ofInt (x0)), .ref 81] τ Q)
    : Ok 70 9 36 [.ref 79, .int (Int32.ofInt (x0)), .int (Int32.ofInt (x1)), v3] [] σ Q := by
  refine an_seg (B := pm_B) (F := []) (T := [80, 81]) (S := []) (fun _ h => absurd h List.not_mem_nil) (k := 70) (d := 8) (cs := [58]) 23 36 5 [(0, 0, 9), (1, 0, 9), (2, 0, 29), (3, 0, 29), (4, (-2147483648), 2147483647)] [(80, (0, 0, 0), (0, 2, 0)), (80, (0, 1, 0), (0, 3, 0)), (81, (0, 0, 0), (0, 4, 0))] [(2, 79, 0), (0, 0, 0), (0, 1, 0), (5, 0, 0)] [] [(58, [(2, 79, 0), (0, 0, 0), (0, 1, 0), (1, 0, 1)], [(0, 3, 0), (0, 2, 0), (2, 13, 0), (0, 4, 0), (0, 0, 0), (2, 81, 0)], [(0, 0, 9), (1, 0, 9), (2, 0, 29), (3, 0, 29), (4, (-2147483648), 2147483647)], [], [], [(80, (0, 0, 0), (0, 2, 0)), (80, (0, 1, 0), (0, 3, 0)), (81, (0, 0, 0), (0, 4, 0))])] (by decide +kernel) (ρ0 := (fun s => [x0, x1, x2, x3, x4].getD s 0)) hB eF eC ⟨rfl, ⟨rfl, ⟨rfl, ⟨hv3, trivial⟩⟩⟩⟩ trivial ?_
  refine List.forall_mem_cons.mpr ⟨?_, fun _ h => absurd h List.not_mem_nil⟩
  · intro ρ τ Lc stc hx g1 g2 g3 g4 g5 g6 g7 g8
    have e0 : ρ 0 = x0 := hx 0 (by decide)
    have e1 : ρ 1 = x1 := hx 1 (by decide)
    have e2 : ρ 2 = x2 := hx 2 (by decide)
    have e3 : ρ 3 = x3 := hx 3 (by decide)
    have e4 : ρ 4 = x4 := hx 4 (by decide)
    subst e0
    subst e1
    subst e2
    subst e3
    subst e4
    have g7 := g7 (by decide)
    match Lc, stc, g7, g8 with
    | [v0, v1, v2, v3], [w0, w1, w2, w3, w4, w5], ⟨hv0, hv1, hv2, hv3, _⟩, ⟨hw0, hw1, hw2, hw3, hw4, hw5, _⟩ =>
      cases hv0
      cases hv1
      cases hv2
      cases hv3
      cases hw0
      cases hw1
      cases hw2
      cases hw3
      cases hw4
      cases hw5
      exact l0 τ ρ  g1 g2 g3 g4 g5 g6
set_option maxRecDepth 100000 in
theorem ka_38 {σ : pm_S} {Q : Option Value → pm_S → Prop} (x0 x1 x2 : Int) (v3 : Value) (hv3 : v3.category = 1) (hB : an_GB pm_B σ) (eF : (0 ≤ x0 ∧ x0 ≤ 9) ∧ (0 ≤ x1 ∧ x1 ≤ 9) ∧ ((-2147483648) ≤ x2 ∧ x2 ≤ 2147483647) ∧ True) (eC : (σ.1 81 (x0).toNat).toInt = x2 ∧ True)
    (l0 : ∀ (τ : pm_S) (y : Nat → Int), an_GB pm_B τ → FQ [] σ τ → ((0 ≤ x0 ∧ x0 ≤ 9) ∧ (0 ≤ x1 ∧ x1 ≤ 9) ∧ ((-2147483648) ≤ x2 ∧ x2 ≤ 2147483647) ∧ True) → (True) → (True) → ((τ.1 81 (x0).toNat).toInt = x2 ∧ True) → Ok 70 9 65 [.ref 79, .int (Int32.ofInt (x0)), .int (Int32.ofInt (x1)), .int (Int32.ofInt 0)] [.int (Int32.ofInt 0), .int (Int32.ofInt (x2)), .int (Int32.ofInt (x0)), .ref 81] τ Q)
    : Ok 70 9 38 [.ref 79, .int (Int32.ofInt (x0)), .int (Int32.ofInt (x1)), v3] [] σ Q := by
  refine an_seg (B := pm_B) (F := []) (T := [81]) (S := []) (fun _ h => absurd h List.not_mem_nil) (k := 70) (d := 8) (cs := [65]) 12 38 3 [(0, 0, 9), (1, 0, 9), (2, (-2147483648), 2147483647)] [(81, (0, 0, 0), (0, 2, 0))] [(2, 79, 0), (0, 0, 0), (0, 1, 0), (5, 0, 0)] [] [(65, [(2, 79, 0), (0, 0, 0), (0, 1, 0), (1, 0, 0)], [(1, 0, 0), (0, 2, 0), (0, 0, 0), (2, 81, 0)], [(0, 0, 9), (1, 0, 9), (2, (-2147483648), 2147483647)], [], [], [(81, (0, 0, 0), (0, 2, 0))])] (by decide +kernel) (ρ0 := (fun s => [x0, x1, x2].getD s 0)) hB eF eC ⟨rfl, ⟨rfl, ⟨rfl, ⟨hv3, trivial⟩⟩⟩⟩ trivial ?_
  refine List.forall_mem_cons.mpr ⟨?_, fun _ h => absurd h List.not_mem_nil⟩
  · intro ρ τ Lc stc hx g1 g2 g3 g4 g5 g6 g7 g8
    have e0 : ρ 0 = x0 := hx 0 (by decide)
    have e1 : ρ 1 = x1 := hx 1 (by decide)
    have e2 : ρ 2 = x2 := hx 2 (by decide)
    subst e0
    subst e1
    subst e2
    have g7 := g7 (by decide)
    match Lc, stc, g7, g8 with
    | [v0, v1, v2, v3], [w0, w1, w2, w3], ⟨hv0, hv1, hv2, hv3, _⟩, ⟨hw0, hw1, hw2, hw3, _⟩ =>
      cases hv0
      cases hv1
      cases hv2
      cases hv3
      cases hw0
      cases hw1
      cases hw2
      cases hw3
      exact l0 τ ρ  g1 g2 g3 g4 g5 g6
set_option maxRecDepth 100000 in
theorem ka_59n {σ : pm_S} {Q : Option Value → pm_S → Prop} (x0 x1 x2 : Int) (v3 : Value) (hv3 : v3.category = 1) (hB : an_GB pm_B σ) (eF : (0 ≤ x0 ∧ x0 ≤ 9) ∧ (0 ≤ x1 ∧ x1 ≤ 9) ∧ ((-2147483648) ≤ x2 ∧ x2 ≤ 2147483647) ∧ True)
    (l0 : ∀ (τ : pm_S) (y : Nat → Int) (v3 : Value), v3.category = 1 → an_GB pm_B τ → FQ [] σ τ → ((0 ≤ x0 ∧ x0 ≤ 9) ∧ (0 ≤ x1 ∧ x1 ≤ 9) ∧ ((-2147483648) ≤ x2 ∧ x2 ≤ 2147483647) ∧ True) → (True) → (True) → (True) → Ok 70 9 65 [.ref 79, .int (Int32.ofInt (x0)), .int (Int32.ofInt (x1)), v3] [.int (Int32.ofInt 0), .int (Int32.ofInt (x2)), .int (Int32.ofInt (x0)), .ref 81] τ Q)
    : Ok 70 9 59 [.ref 79, .int (Int32.ofInt (x0)), .int (Int32.ofInt (x1)), v3] [.int (Int32.ofInt 0), .int (Int32.ofInt (x2)), .int (Int32.ofInt (x0)), .ref 81] σ Q := by
  refine an_seg (B := pm_B) (F := []) (T := []) (S := []) (fun _ h => absurd h List.not_mem_nil) (k := 70) (d := 8) (cs := [65]) 4 59 3 [(0, 0, 9), (1, 0, 9), (2, (-2147483648), 2147483647)] [] [(2, 79, 0), (0, 0, 0), (0, 1, 0), (5, 0, 0)] [(1, 0, 0), (0, 2, 0), (0, 0, 0), (2, 81, 0)] [(65, [(2, 79, 0), (0, 0, 0), (0, 1, 0), (5, 0, 0)], [(1, 0, 0), (0, 2, 0), (0, 0, 0), (2, 81, 0)], [(0, 0, 9), (1, 0, 9), (2, (-2147483648), 2147483647)], [], [], [])] (by decide +kernel) (ρ0 := (fun s => [x0, x1, x2].getD s 0)) hB eF trivial ⟨rfl, ⟨rfl, ⟨rfl, ⟨hv3, trivial⟩⟩⟩⟩ ⟨rfl, ⟨rfl, ⟨rfl, ⟨rfl, trivial⟩⟩⟩⟩ ?_
  refine List.forall_mem_cons.mpr ⟨?_, fun _ h => absurd h List.not_mem_nil⟩
  · intro ρ τ Lc stc hx g1 g2 g3 g4 g5 g6 g7 g8
    have e0 : ρ 0 = x0 := hx 0 (by decide)
    have e1 : ρ 1 = x1 := hx 1 (by decide)
    have e2 : ρ 2 = x2 := hx 2 (by decide)
    subst e0
    subst e1
    subst e2
    have g7 := g7 (by decide)
    match Lc, stc, g7, g8 with
    | [v0, v1, v2, v3], [w0, w1, w2, w3], ⟨hv0, hv1, hv2, hv3, _⟩, ⟨hw0, hw1, hw2, hw3, _⟩ =>
      cases hv0
      cases hv1
      cases hv2
      cases hw0
      cases hw1
      cases hw2
      cases hw3
      exact l0 τ ρ v3 hv3 g1 g2 g3 g4 g5 g6
set_option maxRecDepth 100000 in
theorem ka_59 {σ : pm_S} {Q : Option Value → pm_S → Prop} (x0 x1 x2 : Int) (v3 : Value) (hv3 : v3.category = 1) (hB : an_GB pm_B σ) (eF : (0 ≤ x0 ∧ x0 ≤ 9) ∧ (0 ≤ x1 ∧ x1 ≤ 9) ∧ ((-2147483648) ≤ x2 ∧ x2 ≤ 2147483647) ∧ True)
    (l0 : ∀ (τ : pm_S) (y : Nat → Int) (v3 : Value), v3.category = 1 → an_GB pm_B τ → FQ [] σ τ → ((0 ≤ x0 ∧ x0 ≤ 9) ∧ (0 ≤ x1 ∧ x1 ≤ 9) ∧ ((-2147483648) ≤ x2 ∧ x2 ≤ 2147483647) ∧ (1 ≤ y 3 ∧ y 3 ≤ 512) ∧ True) → (True) → ((an_f 6 (Int32.ofInt (1)) (Int32.ofInt (x1))).toInt = y 3 ∧ True) → (True) → Ok 70 9 65 [.ref 79, .int (Int32.ofInt (x0)), .int (Int32.ofInt (x1)), v3] [.int (Int32.ofInt (y 3)), .int (Int32.ofInt (x2)), .int (Int32.ofInt (x0)), .ref 81] τ Q)
    : Ok 70 9 59 [.ref 79, .int (Int32.ofInt (x0)), .int (Int32.ofInt (x1)), v3] [.int (Int32.ofInt 1), .int (Int32.ofInt (x2)), .int (Int32.ofInt (x0)), .ref 81] σ Q := by
  refine an_seg (B := pm_B) (F := []) (T := []) (S := []) (fun _ h => absurd h List.not_mem_nil) (k := 70) (d := 8) (cs := [65]) 7 59 3 [(0, 0, 9), (1, 0, 9), (2, (-2147483648), 2147483647)] [] [(2, 79, 0), (0, 0, 0), (0, 1, 0), (5, 0, 0)] [(1, 0, 1), (0, 2, 0), (0, 0, 0), (2, 81, 0)] [(65, [(2, 79, 0), (0, 0, 0), (0, 1, 0), (5, 0, 0)], [(0, 3, 0), (0, 2, 0), (0, 0, 0), (2, 81, 0)], [(0, 0, 9), (1, 0, 9), (2, (-2147483648), 2147483647), (3, 1, 512)], [], [(6, (1, 0, 1), (0, 1, 0), 3)], [])] (by decide +kernel) (ρ0 := (fun s => [x0, x1, x2].getD s 0)) hB eF trivial ⟨rfl, ⟨rfl, ⟨rfl, ⟨hv3, trivial⟩⟩⟩⟩ ⟨rfl, ⟨rfl, ⟨rfl, ⟨rfl, trivial⟩⟩⟩⟩ ?_
  refine List.forall_mem_cons.mpr ⟨?_, fun _ h => absurd h List.not_mem_nil⟩
  · intro ρ τ Lc stc hx g1 g2 g3 g4 g5 g6 g7 g8
    have e0 : ρ 0 = x0 := hx 0 (by decide)
    have e1 : ρ 1 = x1 := hx 1 (by decide)
    have e2 : ρ 2 = x2 := hx 2 (by decide)
    subst e0
    subst e1
    subst e2
    have g7 := g7 (by decide)
    match Lc, stc, g7, g8 with
    | [v0, v1, v2, v3], [w0, w1, w2, w3], ⟨hv0, hv1, hv2, hv3, _⟩, ⟨hw0, hw1, hw2, hw3, _⟩ =>
      cases hv0
      cases hv1
      cases hv2
      cases hw0
      cases hw1
      cases hw2
      cases hw3
      exact l0 τ ρ v3 hv3 g1 g2 g3 g4 g5 g6
set_option maxRecDepth 100000 in
theorem ka_65 {σ : pm_S} {Q : Option Value → pm_S → Prop} (x0 x1 x2 x3 : Int) (v3 : Value) (hv3 : v3.category = 1) (hB : an_GB pm_B σ) (eF : (0 ≤ x0 ∧ x0 ≤ 9) ∧ (0 ≤ x1 ∧ x1 ≤ 9) ∧ ((-2147483648) ≤ x2 ∧ x2 ≤ 2147483647) ∧ (0 ≤ x3 ∧ x3 ≤ 512) ∧ True)
    (l0 : ∀ (τ : pm_S) (y : Nat → Int) (v3 : Value), v3.category = 1 → an_GB pm_B τ → FQ [] σ τ → ((0 ≤ x0 ∧ x0 ≤ 9) ∧ (0 ≤ x1 ∧ x1 ≤ 9) ∧ ((-2147483648) ≤ x2 ∧ x2 ≤ 2147483647) ∧ (0 ≤ x3 ∧ x3 ≤ 512) ∧ ((-2147483648) ≤ y 4 ∧ y 4 ≤ 2147483647) ∧ True) → (True) → ((an_f 4 (Int32.ofInt (x2)) (Int32.ofInt (x3))).toInt = y 4 ∧ True) → (True) → Ok 70 9 66 [.ref 79, .int (Int32.ofInt (x0)), .int (Int32.ofInt (x1)), v3] [.int (Int32.ofInt (y 4)), .int (Int32.ofInt (x0)), .ref 81] τ Q)
    : Ok 70 9 65 [.ref 79, .int (Int32.ofInt (x0)), .int (Int32.ofInt (x1)), v3] [.int (Int32.ofInt (x3)), .int (Int32.ofInt (x2)), .int (Int32.ofInt (x0)), .ref 81] σ Q := by
  refine an_seg (B := pm_B) (F := []) (T := []) (S := []) (fun _ h => absurd h List.not_mem_nil) (k := 70) (d := 8) (cs := [66]) 3 65 4 [(0, 0, 9), (1, 0, 9), (2, (-2147483648), 2147483647), (3, 0, 512)] [] [(2, 79, 0), (0, 0, 0), (0, 1, 0), (5, 0, 0)] [(0, 3, 0), (0, 2, 0), (0, 0, 0), (2, 81, 0)] [(66, [(2, 79, 0), (0, 0, 0), (0, 1, 0), (5, 0, 0)], [(0, 4, 0), (0, 0, 0), (2, 81, 0)], [(0, 0, 9), (1, 0, 9), (2, (-2147483648), 2147483647), (3, 0, 512), (4, (-2147483648), 2147483647)], [], [(4, (0, 2, 0), (0, 3, 0), 4)], [])] (by decide +kernel) (ρ0 := (fun s => [x0, x1, x2, x3].getD s 0)) hB eF trivial ⟨rfl, ⟨rfl, ⟨rfl, ⟨hv3, trivial⟩⟩⟩⟩ ⟨rfl, ⟨rfl, ⟨rfl, ⟨rfl, trivial⟩⟩⟩⟩ ?_
  refine List.forall_mem_cons.mpr ⟨?_, fun _ h => absurd h List.not_mem_nil⟩
  · intro ρ τ Lc stc hx g1 g2 g3 g4 g5 g6 g7 g8
    have e0 : ρ 0 = x0 := hx 0 (by decide)
    have e1 : ρ 1 = x1 := hx 1 (by decide)
    have e2 : ρ 2 = x2 := hx 2 (by decide)
    have e3 : ρ 3 = x3 := hx 3 (by decide)
    subst e0
    subst e1
    subst e2
    subst e3
    have g7 := g7 (by decide)
    match Lc, stc, g7, g8 with
    | [v0, v1, v2, v3], [w0, w1, w2], ⟨hv0, hv1, hv2, hv3, _⟩, ⟨hw0, hw1, hw2, _⟩ =>
      cases hv0
      cases hv1
      cases hv2
      cases hw0
      cases hw1
      cases hw2
      exact l0 τ ρ v3 hv3 g1 g2 g3 g4 g5 g6
set_option maxRecDepth 100000 in
theorem ka_67 {σ : pm_S} {Q : Option Value → pm_S → Prop} (x0 x1 : Int) (v3 : Value) (hv3 : v3.category = 1) (hB : an_GB pm_B σ) (eF : (0 ≤ x0 ∧ x0 ≤ 9) ∧ (0 ≤ x1 ∧ x1 ≤ 9) ∧ True)
    (l0 : ∀ (τ : pm_S) (y : Nat → Int) (v3 : Value), v3.category = 1 → an_GB pm_B τ → FQ [] σ τ → ((0 ≤ x0 ∧ x0 ≤ 9) ∧ (0 ≤ x1 ∧ x1 ≤ 9) ∧ True) → (True) → (True) → (True) → Ok 70 9 13 [.ref 79, .int (Int32.ofInt (x0)), .int (Int32.ofInt (x1 + 1)), v3] [] τ Q)
    : Ok 70 9 67 [.ref 79, .int (Int32.ofInt (x0)), .int (Int32.ofInt (x1)), v3] [] σ Q := by
  refine an_seg (B := pm_B) (F := []) (T := []) (S := []) (fun _ h => absurd h List.not_mem_nil) (k := 70) (d := 8) (cs := [13]) 4 67 2 [(0, 0, 9), (1, 0, 9)] [] [(2, 79, 0), (0, 0, 0), (0, 1, 0), (5, 0, 0)] [] [(13, [(2, 79, 0), (0, 0, 0), (0, 1, 1), (5, 0, 0)], [], [(0, 0, 9), (1, 0, 9)], [], [], [])] (by decide +kernel) (ρ0 := (fun s => [x0, x1].getD s 0)) hB eF trivial ⟨rfl, ⟨rfl, ⟨rfl, ⟨hv3, trivial⟩⟩⟩⟩ trivial ?_
  refine List.forall_mem_cons.mpr ⟨?_, fun _ h => absurd h List.not_mem_nil⟩
  · intro ρ τ Lc stc hx g1 g2 g3 g4 g5 g6 g7 g8
    have e0 : ρ 0 = x0 := hx 0 (by decide)
    have e1 : ρ 1 = x1 := hx 1 (by decide)
    subst e0
    subst e1
    have g7 := g7 (by decide)
    match Lc, stc, g7, g8 with
    | [v0, v1, v2, v3], [], ⟨hv0, hv1, hv2, hv3, _⟩, _ =>
      cases hv0
      cases hv1
      cases hv2
      exact l0 τ ρ v3 hv3 g1 g2 g3 g4 g5 g6
set_option maxRecDepth 100000 in
theorem ka_69 {σ : pm_S} {Q : Option Value → pm_S → Prop} (x0 : Int) (v2 : Value) (v3 : Value) (hv2 : v2.category = 1) (hv3 : v3.category = 1) (hB : an_GB pm_B σ) (eF : (0 ≤ x0 ∧ x0 ≤ 9) ∧ True)
    (l0 : ∀ (τ : pm_S) (y : Nat → Int) (v2 : Value) (v3 : Value), v2.category = 1 → v3.category = 1 → an_GB pm_B τ → FQ [] σ τ → ((0 ≤ x0 ∧ x0 ≤ 9) ∧ True) → (True) → (True) → (True) → Ok 70 9 2 [.ref 79, .int (Int32.ofInt (x0 + 1)), v2, v3] [] τ Q)
    : Ok 70 9 69 [.ref 79, .int (Int32.ofInt (x0)), v2, v3] [] σ Q := by
  refine an_seg (B := pm_B) (F := []) (T := []) (S := []) (fun _ h => absurd h List.not_mem_nil) (k := 70) (d := 8) (cs := [2]) 4 69 1 [(0, 0, 9)] [] [(2, 79, 0), (0, 0, 0), (5, 0, 0), (5, 0, 0)] [] [(2, [(2, 79, 0), (0, 0, 1), (5, 0, 0), (5, 0, 0)], [], [(0, 0, 9)], [], [], [])] (by decide +kernel) (ρ0 := (fun s => [x0].getD s 0)) hB eF trivial ⟨rfl, ⟨rfl, ⟨hv2, ⟨hv3, trivial⟩⟩⟩⟩ trivial ?_
  refine List.forall_mem_cons.mpr ⟨?_, fun _ h => absurd h List.not_mem_nil⟩
  · intro ρ τ Lc stc hx g1 g2 g3 g4 g5 g6 g7 g8
    have e0 : ρ 0 = x0 := hx 0 (by decide)
    subst e0
    have g7 := g7 (by decide)
    match Lc, stc, g7, g8 with
    | [v0, v1, v2, v3], [], ⟨hv0, hv1, hv2, hv3, _⟩, _ =>
      cases hv0
      cases hv1
      exact l0 τ ρ v2 v3 hv2 hv3 g1 g2 g3 g4 g5 g6
set_option maxRecDepth 100000 in
theorem ka_71 {σ : pm_S} {Q : Option Value → pm_S → Prop} (x0 : Int) (v2 : Value) (v3 : Value) (hv2 : v2.category = 1) (hv3 : v3.category = 1) (hB : an_GB pm_B σ) (eF : (0 ≤ x0 ∧ x0 ≤ 10) ∧ True)
    (l0 : ∀ (τ : pm_S) (y : Nat → Int), an_GB pm_B τ → FQ [] σ τ → ((0 ≤ x0 ∧ x0 ≤ 10) ∧ True) → (True) → (True) → (True) → Q none τ)
    : Ok 70 9 71 [.ref 79, .int (Int32.ofInt (x0)), v2, v3] [] σ Q := by
  refine an_seg (B := pm_B) (F := []) (T := []) (S := []) (fun _ h => absurd h List.not_mem_nil) (k := 70) (d := 8) (cs := []) 3 71 1 [(0, 0, 10)] [] [(2, 79, 0), (0, 0, 0), (5, 0, 0), (5, 0, 0)] [] [(9999, [], [], [(0, 0, 10)], [], [], [])] (by decide +kernel) (ρ0 := (fun s => [x0].getD s 0)) hB eF trivial ⟨rfl, ⟨rfl, ⟨hv2, ⟨hv3, trivial⟩⟩⟩⟩ trivial ?_
  refine List.forall_mem_cons.mpr ⟨?_, fun _ h => absurd h List.not_mem_nil⟩
  · intro ρ τ Lc stc hx g1 g2 g3 g4 g5 g6 g7 g8
    have e0 : ρ 0 = x0 := hx 0 (by decide)
    subst e0
    match stc, g8 with
    | [], _ => exact l0 τ ρ g1 g2 g3 g4 g5 g6
set_option maxRecDepth 100000 in
theorem kb_0 {σ : pm_S} {Q : Option Value → pm_S → Prop} (x0 : Int) (v2 : Value) (v3 : Value) (v4 : Value) (v5 : Value) (hv2 : v2.category = 1) (hv3 : v3.category = 1) (hv4 : v4.category = 1) (hv5 : v5.category = 1) (hB : an_GB pm_B σ) (eF : (0 ≤ x0 ∧ x0 ≤ 1023) ∧ True)
    (l0 : ∀ (τ : pm_S) (y : Nat → Int) (v2 : Value) (v3 : Value) (v4 : Value) (v5 : Value), v2.category = 1 → v3.category = 1 → v4.category = 1 → v5.category = 1 → an_GB pm_B τ → FQ [] σ τ → ((0 ≤ x0 ∧ x0 ≤ 1023) ∧ True) → (True) → (True) → (True) → Ok 71 9 4 [.ref 79, .int (Int32.ofInt (x0)), v2, v3, v4, v5] [.int (Int32.ofInt 1), .int (Int32.ofInt 0), .ref 82] τ Q)
    : Ok 71 9 0 [.ref 79, .int (Int32.ofInt (x0)), v2, v3, v4, v5] [] σ Q := by
  refine an_seg (B := pm_B) (F := []) (T := []) (S := []) (fun _ h => absurd h List.not_mem_nil) (k := 71) (d := 8) (cs := [4]) 6 0 1 [(0, 0, 1023)] [] [(2, 79, 0), (0, 0, 0), (5, 0, 0), (5, 0, 0), (5, 0, 0), (5, 0, 0)] [] [(4, [(2, 79, 0), (0, 0, 0), (5, 0, 0), (5, 0, 0), (5, 0, 0), (5, 0, 0)], [(1, 0, 1), (1, 0, 0), (2, 82, 0)], [(0, 0, 1023)], [], [], [])] (by decide +kernel) (ρ0 := (fun s => [x0].getD s 0)) hB eF trivial ⟨rfl, ⟨rfl, ⟨hv2, ⟨hv3, ⟨hv4, ⟨hv5, trivial⟩⟩⟩⟩⟩⟩ trivial ?_
  refine List.forall_mem_cons.mpr ⟨?_, fun _ h => absurd h List.not_mem_nil⟩
  · intro ρ τ Lc stc hx g1 g2 g3 g4 g5 g6 g7 g8
    have e0 : ρ 0 = x0 := hx 0 (by decide)
    subst e0
    have g7 := g7 (by decide)
    match Lc, stc, g7, g8 with
    | [v0, v1, v2, v3, v4, v5], [w0, w1, w2], ⟨hv0, hv1, hv2, hv3, hv4, hv5, _⟩, ⟨hw0, hw1, hw2, _⟩ =>
      cases hv0
      cases hv1
      cases hw0
      cases hw1
      cases hw2
      exact l0 τ ρ v2 v3 v4 v5 hv2 hv3 hv4 hv5 g1 g2 g3 g4 g5 g6
set_option maxRecDepth 100000 in
theorem kb_5 {σ : pm_S} {Q : Option Value → pm_S → Prop} (x0 : Int) (v2 : Value) (v3 : Value) (v4 : Value) (v5 : Value) (hv2 : v2.category = 1) (hv3 : v3.category = 1) (hv4 : v4.category = 1) (hv5 : v5.category = 1) (hB : an_GB pm_B σ) (eF : (0 ≤ x0 ∧ x0 ≤ 1023) ∧ True)
    (l0 : ∀ (τ : pm_S) (y : Nat → Int) (v2 : Value) (v3 : Value) (v4 : Value) (v5 : Value), v2.category = 1 → v3.category = 1 → v4.category = 1 → v5.category = 1 → an_GB pm_B τ → FQ [] σ τ → ((0 ≤ x0 ∧ x0 ≤ 1023) ∧ True) → (True) → (True) → (True) → Ok 71 9 9 [.ref 79, .int (Int32.ofInt (x0)), v2, v3, v4, v5] [.int (Int32.ofInt 0), .int (Int32.ofInt 0), .ref 83] τ Q)
    : Ok 71 9 5 [.ref 79, .int (Int32.ofInt (x0)), v2, v3, v4, v5] [] σ Q := by
  refine an_seg (B := pm_B) (F := []) (T := []) (S := []) (fun _ h => absurd h List.not_mem_nil) (k := 71) (d := 8) (cs := [9]) 6 5 1 [(0, 0, 1023)] [] [(2, 79, 0), (0, 0, 0), (5, 0, 0), (5, 0, 0), (5, 0, 0), (5, 0, 0)] [] [(9, [(2, 79, 0), (0, 0, 0), (5, 0, 0), (5, 0, 0), (5, 0, 0), (5, 0, 0)], [(1, 0, 0), (1, 0, 0), (2, 83, 0)], [(0, 0, 1023)], [], [], [])] (by decide +kernel) (ρ0 := (fun s => [x0].getD s 0)) hB eF trivial ⟨rfl, ⟨rfl, ⟨hv2, ⟨hv3, ⟨hv4, ⟨hv5, trivial⟩⟩⟩⟩⟩⟩ trivial ?_
  refine List.forall_mem_cons.mpr ⟨?_, fun _ h => absurd h List.not_mem_nil⟩
  · intro ρ τ Lc stc hx g1 g2 g3 g4 g5 g6 g7 g8
    have e0 : ρ 0 = x0 := hx 0 (by decide)
    subst e0
    have g7 := g7 (by decide)
    match Lc, stc, g7, g8 with
    | [v0, v1, v2, v3, v4, v5], [w0, w1, w2], ⟨hv0, hv1, hv2, hv3, hv4, hv5, _⟩, ⟨hw0, hw1, hw2, _⟩ =>
      cases hv0
      cases hv1
      cases hw0
      cases hw1
      cases hw2
      exact l0 τ ρ v2 v3 v4 v5 hv2 hv3 hv4 hv5 g1 g2 g3 g4 g5 g6
set_option maxRecDepth 100000 in
theorem kb_10 {σ : pm_S} {Q : Option Value → pm_S → Prop} (x0 : Int) (v2 : Value) (v3 : Value) (v4 : Value) (v5 : Value) (hv2 : v2.category = 1) (hv3 : v3.category = 1) (hv4 : v4.category = 1) (hv5 : v5.category = 1) (hB : an_GB pm_B σ) (eF : (0 ≤ x0 ∧ x0 ≤ 1023) ∧ True)
    (l0 : ∀ (τ : pm_S) (y : Nat → Int) (v3 : Value) (v4 : Value) (v5 : Value), v3.category = 1 → v4.category = 1 → v5.category = 1 → an_GB pm_B τ → FQ [] σ τ → ((0 ≤ x0 ∧ x0 ≤ 1023) ∧ True) → (True) → (True) → (True) → Ok 71 9 12 [.ref 79, .int (Int32.ofInt (x0)), .int (Int32.ofInt 1), v3, v4, v5] [] τ Q)
    : Ok 71 9 10 [.ref 79, .int (Int32.ofInt (x0)), v2, v3, v4, v5] [] σ Q := by
  refine an_seg (B := pm_B) (F := []) (T := []) (S := []) (fun _ h => absurd h List.not_mem_nil) (k := 71) (d := 8) (cs := [12]) 4 10 1 [(0, 0, 1023)] [] [(2, 79, 0), (0, 0, 0), (5, 0, 0), (5, 0, 0), (5, 0, 0), (5, 0, 0)] [] [(12, [(2, 79, 0), (0, 0, 0), (1, 0, 1), (5, 0, 0), (5, 0, 0), (5, 0, 0)], [], [(0, 0, 1023)], [], [], [])] (by decide +kernel) (ρ0 := (fun s => [x0].getD s 0)) hB eF trivial ⟨rfl, ⟨rfl, ⟨hv2, ⟨hv3, ⟨hv4, ⟨hv5, trivial⟩⟩⟩⟩⟩⟩ trivial ?_
  refine List.forall_mem_cons.mpr ⟨?_, fun _ h => absurd h List.not_mem_nil⟩
  · intro ρ τ Lc stc hx g1 g2 g3 g4 g5 g6 g7 g8
    have e0 : ρ 0 = x0 := hx 0 (by decide)
    subst e0
    have g7 := g7 (by decide)
    match Lc, stc, g7, g8 with
    | [v0, v1, v2, v3, v4, v5], [], ⟨hv0, hv1, hv2, hv3, hv4, hv5, _⟩, _ =>
      cases hv0
      cases hv1
      cases hv2
      exact l0 τ ρ v3 v4 v5 hv3 hv4 hv5 g1 g2 g3 g4 g5 g6
set_option maxRecDepth 100000 in
theorem kb_12 {σ : pm_S} {Q : Option Value → pm_S → Prop} (x0 x1 : Int) (v3 : Value) (v4 : Value) (v5 : Value) (hv3 : v3.category = 1) (hv4 : v4.category = 1) (hv5 : v5.category = 1) (hB : an_GB pm_B σ) (eF : (0 ≤ x0 ∧ x0 ≤ 1023) ∧ (1 ≤ x1 ∧ x1 ≤ 1024) ∧ True)
    (l0 : ∀ (τ : pm_S) (y : Nat → Int) (v3 : Value) (v4 : Value) (v5 : Value), v3.category = 1 → v4.category = 1 → v5.category = 1 → an_GB pm_B τ → FQ [] σ τ → ((0 ≤ x0 ∧ x0 ≤ 1023) ∧ (1 ≤ x1 ∧ x1 ≤ 1024) ∧ True) → (True) → (True) → (True) → Ok 71 9 14 [.ref 79, .int (Int32.ofInt (x0)), .int (Int32.ofInt (x1)), v3, v4, v5] [.int (Int32.ofInt (x0)), .int (Int32.ofInt (x1))] τ Q)
    : Ok 71 9 12 [.ref 79, .int (Int32.ofInt (x0)), .int (Int32.ofInt (x1)), v3, v4, v5] [] σ Q := by
  refine an_seg (B := pm_B) (F := []) (T := []) (S := []) (fun _ h => absurd h List.not_mem_nil) (k := 71) (d := 8) (cs := [14]) 4 12 2 [(0, 0, 1023), (1, 1, 1024)] [] [(2, 79, 0), (0, 0, 0), (0, 1, 0), (5, 0, 0), (5, 0, 0), (5, 0, 0)] [] [(14, [(2, 79, 0), (0, 0, 0), (0, 1, 0), (5, 0, 0), (5, 0, 0), (5, 0, 0)], [(0, 0, 0), (0, 1, 0)], [(0, 0, 1023), (1, 1, 1024)], [], [], [])] (by decide +kernel) (ρ0 := (fun s => [x0, x1].getD s 0)) hB eF trivial ⟨rfl, ⟨rfl, ⟨rfl, ⟨hv3, ⟨hv4, ⟨hv5, trivial⟩⟩⟩⟩⟩⟩ trivial ?_
  refine List.forall_mem_cons.mpr ⟨?_, fun _ h => absurd h List.not_mem_nil⟩
  · intro ρ τ Lc stc hx g1 g2 g3 g4 g5 g6 g7 g8
    have e0 : ρ 0 = x0 := hx 0 (by decide)
    have e1 : ρ 1 = x1 := hx 1 (by decide)
    subst e0
    subst e1
    have g7 := g7 (by decide)
    match Lc, stc, g7, g8 with
    | [v0, v1, v2, v3, v4, v5], [w0, w1], ⟨hv0, hv1, hv2, hv3, hv4, hv5, _⟩, ⟨hw0, hw1, _⟩ =>
      cases hv0
      cases hv1
      cases hv2
      cases hw0
      cases hw1
      exact l0 τ ρ v3 v4 v5 hv3 hv4 hv5 g1 g2 g3 g4 g5 g6
set_option maxRecDepth 100000 in
theorem kb_15 {σ : pm_S} {Q : Option Value → pm_S → Prop} (x0 x1 : Int) (v3 : Value) (v4 : Value) (v5 : Value) (hv3 : v3.category = 1) (hv4 : v4.category = 1) (hv5 : v5.category = 1) (hB : an_GB pm_B σ) (eF : (0 ≤ x0 ∧ x0 ≤ 1023) ∧ (1 ≤ x1 ∧ x1 ≤ 1023) ∧ True)
    (l0 : ∀ (τ : pm_S) (y : Nat → Int), an_GB pm_B τ → FQ [] σ τ → ((0 ≤ x0 ∧ x0 ≤ 1023) ∧ (1 ≤ x1 ∧ x1 ≤ 1023) ∧ ((-1023) ≤ y 2 ∧ y 2 ≤ (-1)) ∧ (1 ≤ y 3 ∧ y 3 ≤ 1023) ∧ ((-1024) ≤ y 4 ∧ y 4 ≤ (-2)) ∧ (0 ≤ y 5 ∧ y 5 ≤ 1023) ∧ (0 ≤ y 6 ∧ y 6 ≤ 9) ∧ True) → (y 5 ≤ x1 + 0 ∧ y 3 ≤ x1 + 0 ∧ True) → ((an_f 15 (Int32.ofInt (x1)) (Int32.ofInt (0))).toInt = y 2 ∧ (an_f 3 (Int32.ofInt (x1)) (Int32.ofInt (y 2))).toInt = y 3 ∧ (an_f 5 (Int32.ofInt (y 3)) (Int32.ofInt ((-1)))).toInt = y 4 ∧ (an_f 3 (Int32.ofInt (x1)) (Int32.ofInt (y 4))).toInt = y 5 ∧ (an_f 16 (Int32.ofInt (y 3 + (-1))) (Int32.ofInt (0))).toInt = y 6 ∧ True) → (True) → Ok 71 9 37 [.ref 79, .int (Int32.ofInt (x0)), .int (Int32.ofInt (x1)), .int (Int32.ofInt (y 3)), .int (Int32.ofInt (y 5)), .int (Int32.ofInt (y 6))] [.int (Int32.ofInt (y 5)), .ref 82, .int (Int32.ofInt (x1)), .ref 82] τ Q)
    : Ok 71 9 15 [.ref 79, .int (Int32.ofInt (x0)), .int (Int32.ofInt (x1)), v3, v4, v5] [] σ Q := by
  refine an_seg (B := pm_B) (F := []) (T := []) (S := []) (fun _ h => absurd h List.not_mem_nil) (k := 71) (d := 8) (cs := [37]) 24 15 2 [(0, 0, 1023), (1, 1, 1023)] [] [(2, 79, 0), (0, 0, 0), (0, 1, 0), (5, 0, 0), (5, 0, 0), (5, 0, 0)] [] [(37, [(2, 79, 0), (0, 0, 0), (0, 1, 0), (0, 3, 0), (0, 5, 0), (0, 6, 0)], [(0, 5, 0), (2, 82, 0), (0, 1, 0), (2, 82, 0)], [(0, 0, 1023), (1, 1, 1023), (2, (-1023), (-1)), (3, 1, 1023), (4, (-1024), (-2)), (5, 0, 1023), (6, 0, 9)], [(1, 5, 1, 0), (1, 3, 1, 0)], [(15, (0, 1, 0), (1, 0, 0), 2), (3, (0, 1, 0), (0, 2, 0), 3), (5, (0, 3, 0), (1, 0, (-1)), 4), (3, (0, 1, 0), (0, 4, 0), 5), (16, (0, 3, (-1)), (1, 0, 0), 6)], [])] (by decide +kernel) (ρ0 := (fun s => [x0, x1].getD s 0)) hB eF trivial ⟨rfl, ⟨rfl, ⟨rfl, ⟨hv3, ⟨hv4, ⟨hv5, trivial⟩⟩⟩⟩⟩⟩ trivial ?_
  refine List.forall_mem_cons.mpr ⟨?_, fun _ h => absurd h List.not_mem_nil⟩
  · intro ρ τ Lc stc hx g1 g2 g3 g4 g5 g6 g7 g8
    have e0 : ρ 0 = x0 := hx 0 (by decide)
    have e1 : ρ 1 = x1 := hx 1 (by decide)
    subst e0
    subst e1
    have g7 := g7 (by decide)
    match Lc, stc, g7, g8 with
    | [v0, v1, v2, v3, v4, v5], [w0, w1, w2, w3], ⟨hv0, hv1, hv2, hv3, hv4, hv5, _⟩, ⟨hw0, hw1, hw2, hw3, _⟩ =>
      cases hv0
      cases hv1
      cases hv2
      cases hv3
      cases hv4
      cases hv5
      cases hw0
      cases hw1
      cases hw2
      cases hw3
      exact l0 τ ρ  g1 g2 g3 g4 g5 g6
set_option maxRecDepth 100000 in
theorem kb_38n {σ : pm_S} {Q : Option Value → pm_S → Prop} (x0 x1 x2 x3 x4 : Int)  (hB : an_GB pm_B σ) (eF : (0 ≤ x0 ∧ x0 ≤ 1023) ∧ (1 ≤ x1 ∧ x1 ≤ 1023) ∧ (1 ≤ x2 ∧ x2 ≤ 1023) ∧ (0 ≤ x3 ∧ x3 ≤ 1023) ∧ (0 ≤ x4 ∧ x4 ≤ 9) ∧ True)
    (l0 : ∀ (τ : pm_S) (y : Nat → Int), an_GB pm_B τ → FQ [] σ τ → ((0 ≤ x0 ∧ x0 ≤ 1023) ∧ (1 ≤ x1 ∧ x1 ≤ 1023) ∧ (1 ≤ x2 ∧ x2 ≤ 1023) ∧ (0 ≤ x3 ∧ x3 ≤ 1023) ∧ (0 ≤ x4 ∧ x4 ≤ 9) ∧ True) → (True) → (True) → (True) → Ok 71 9 49 [.ref 79, .int (Int32.ofInt (x0)), .int (Int32.ofInt (x1)), .int (Int32.ofInt (x2)), .int (Int32.ofInt (x3)), .int (Int32.ofInt (x4))] [.int (Int32.ofInt 0), .int (Int32.ofInt (x1)), .ref 82] τ Q)
    : Ok 71 9 38 [.ref 79, .int (Int32.ofInt (x0)), .int (Int32.ofInt (x1)), .int (Int32.ofInt (x2)), .int (Int32.ofInt (x3)), .int (Int32.ofInt (x4))] [.int (Int32.ofInt 0), .int (Int32.ofInt (x1)), .ref 82] σ Q := by
  refine an_seg (B := pm_B) (F := []) (T := []) (S := []) (fun _ h => absurd h List.not_mem_nil) (k := 71) (d := 8) (cs := [49]) 4 38 5 [(0, 0, 1023), (1, 1, 1023), (2, 1, 1023), (3, 0, 1023), (4, 0, 9)] [] [(2, 79, 0), (0, 0, 0), (0, 1, 0), (0, 2, 0), (0, 3, 0), (0, 4, 0)] [(1, 0, 0), (0, 1, 0), (2, 82, 0)] [(49, [(2, 79, 0), (0, 0, 0), (0, 1, 0), (0, 2, 0), (0, 3, 0), (0, 4, 0)], [(1, 0, 0), (0, 1, 0), (2, 82, 0)], [(0, 0, 1023), (1, 1, 1023), (2, 1, 1023), (3, 0, 1023), (4, 0, 9)], [], [], [])] (by decide +kernel) (ρ0 := (fun s => [x0, x1, x2, x3, x4].getD s 0)) hB eF trivial ⟨rfl, ⟨rfl, ⟨rfl, ⟨rfl, ⟨rfl, ⟨rfl, trivial⟩⟩⟩⟩⟩⟩ ⟨rfl, ⟨rfl, ⟨rfl, trivial⟩⟩⟩ ?_
  refine List.forall_mem_cons.mpr ⟨?_, fun _ h => absurd h List.not_mem_nil⟩
  · intro ρ τ Lc stc hx g1 g2 g3 g4 g5 g6 g7 g8
    have e0 : ρ 0 = x0 := hx 0 (by decide)
    have e1 : ρ 1 = x1 := hx 1 (by decide)
    have e2 : ρ 2 = x2 := hx 2 (by decide)
    have e3 : ρ 3 = x3 := hx 3 (by decide)
    have e4 : ρ 4 = x4 := hx 4 (by decide)
    subst e0
    subst e1
    subst e2
    subst e3
    subst e4
    have g7 := g7 (by decide)
    match Lc, stc, g7, g8 with
    | [v0, v1, v2, v3, v4, v5], [w0, w1, w2], ⟨hv0, hv1, hv2, hv3, hv4, hv5, _⟩, ⟨hw0, hw1, hw2, _⟩ =>
      cases hv0
      cases hv1
      cases hv2
      cases hv3
      cases hv4
      cases hv5
      cases hw0
      cases hw1
      cases hw2
      exact l0 τ ρ  g1 g2 g3 g4 g5 g6
set_option maxRecDepth 100000 in
theorem kb_38 {σ : pm_S} {Q : Option Value → pm_S → Prop} (x0 x1 x2 x3 x4 x5 : Int)  (hB : an_GB pm_B σ) (eF : (0 ≤ x0 ∧ x0 ≤ 1023) ∧ (1 ≤ x1 ∧ x1 ≤ 1023) ∧ (1 ≤ x2 ∧ x2 ≤ 1023) ∧ (0 ≤ x3 ∧ x3 ≤ 1023) ∧ (0 ≤ x4 ∧ x4 ≤ 9) ∧ ((-2147483648) ≤ x5 ∧ x5 ≤ 2147483647) ∧ True) (eC : (σ.1 81 (x4).toNat).toInt = x5 ∧ True)
    (l0 : ∀ (τ : pm_S) (y : Nat → Int), an_GB pm_B τ → FQ [] σ τ → ((0 ≤ x0 ∧ x0 ≤ 1023) ∧ (1 ≤ x1 ∧ x1 ≤ 1023) ∧ (1 ≤ x2 ∧ x2 ≤ 1023) ∧ (0 ≤ x3 ∧ x3 ≤ 1023) ∧ (0 ≤ x4 ∧ x4 ≤ 9) ∧ ((-2147483648) ≤ x5 ∧ x5 ≤ 2147483647) ∧ (1 ≤ y 6 ∧ y 6 ≤ 1023) ∧ True) → (y 6 ≤ x3 + 0 ∧ True) → ((an_f 3 (Int32.ofInt (x5)) (Int32.ofInt (x3))).toInt = y 6 ∧ True) → ((τ.1 81 (x4).toNat).toInt = x5 ∧ True) → Ok 71 9 49 [.ref 79, .int (Int32.ofInt (x0)), .int (Int32.ofInt (x1)), .int (Int32.ofInt (x2)), .int (Int32.ofInt (x3)), .int (Int32.ofInt (x4))] [.int (Int32.ofInt 0), .int (Int32.ofInt (x1)), .ref 82] τ Q)
    (l1 : ∀ (τ : pm_S) (y : Nat → Int), an_GB pm_B τ → FQ [] σ τ → ((0 ≤ x0 ∧ x0 ≤ 1023) ∧ (1 ≤ x1 ∧ x1 ≤ 1023) ∧ (1 ≤ x2 ∧ x2 ≤ 1023) ∧ (0 ≤ x3 ∧ x3 ≤ 1023) ∧ (0 ≤ x4 ∧ x4 ≤ 9) ∧ ((-2147483648) ≤ x5 ∧ x5 ≤ 2147483647) ∧ (0 ≤ y 6 ∧ y 6 ≤ 0) ∧ True) → (y 6 ≤ x3 + 0 ∧ True) → ((an_f 3 (Int32.ofInt (x5)) (Int32.ofInt (x3))).toInt = y 6 ∧ True) → ((τ.1 81 (x4).toNat).toInt = x5 ∧ True) → Ok 71 9 49 [.ref 79, .int (Int32.ofInt (x0)), .int (Int32.ofInt (x1)), .int (Int32.ofInt (x2)), .int (Int32.ofInt (x3)), .int (Int32.ofInt (x4))] [.int (Int32.ofInt 1), .int (Int32.ofInt (x1)), .ref 82] τ Q)
    : Ok 71 9 38 [.ref 79, .int (Int32.ofInt (x0)), .int (Int32.ofInt (x1)), .int (Int32.ofInt (x2)), .int (Int32.ofInt (x3)), .int (Int32.ofInt (x4))] [.int (Int32.ofInt 1), .int (Int32.ofInt (x1)), .ref 82] σ Q := by
  refine an_seg (B := pm_B) (F := []) (T := [81]) (S := []) (fun _ h => absurd h List.not_mem_nil) (k := 71) (d := 8) (cs := [49]) 12 38 6 [(0, 0, 1023), (1, 1, 1023), (2, 1, 1023), (3, 0, 1023), (4, 0, 9), (5, (-2147483648), 2147483647)] [(81, (0, 4, 0), (0, 5, 0))] [(2, 79, 0), (0, 0, 0), (0, 1, 0), (0, 2, 0), (0, 3, 0), (0, 4, 0)] [(1, 0, 1), (0, 1, 0), (2, 82, 0)] [(49, [(2, 79, 0), (0, 0, 0), (0, 1, 0), (0, 2, 0), (0, 3, 0), (0, 4, 0)], [(1, 0, 0), (0, 1, 0), (2, 82, 0)], [(0, 0, 1023), (1, 1, 1023), (2, 1, 1023), (3, 0, 1023), (4, 0, 9), (5, (-2147483648), 2147483647), (6, 1, 1023)], [(1, 6, 3, 0)], [(3, (0, 5, 0), (0, 3, 0), 6)], [(81, (0, 4, 0), (0, 5, 0))]),
    (49, [(2, 79, 0), (0, 0, 0), (0, 1, 0), (0, 2, 0), (0, 3, 0), (0, 4, 0)], [(1, 0, 1), (0, 1, 0), (2, 82, 0)], [(0, 0, 1023), (1, 1, 1023), (2, 1, 1023), (3, 0, 1023), (4, 0, 9), (5, (-2147483648), 2147483647), (6, 0, 0)], [(1, 6, 3, 0)], [(3, (0, 5, 0), (0, 3, 0), 6)], [(81, (0, 4, 0), (0, 5, 0))])] (by decide +kernel) (ρ0 := (fun s => [x0, x1, x2, x3, x4, x5].getD s 0)) hB eF eC ⟨rfl, ⟨rfl, ⟨rfl, ⟨rfl, ⟨rfl, ⟨rfl, trivial⟩⟩⟩⟩⟩⟩ ⟨rfl, ⟨rfl, ⟨rfl, trivial⟩⟩⟩ ?_
  refine List.forall_mem_cons.mpr ⟨?_, List.forall_mem_cons.mpr ⟨?_, fun _ h => absurd h List.not_mem_nil⟩⟩
  · intro ρ τ Lc stc hx g1 g2 g3 g4 g5 g6 g7 g8
    have e0 : ρ 0 = x0 := hx 0 (by decide)
    have e1 : ρ 1 = x1 := hx 1 (by decide)
    have e2 : ρ 2 = x2 := hx 2 (by decide)
    have e3 : ρ 3 = x3 := hx 3 (by decide)
    have e4 : ρ 4 = x4 := hx 4 (by decide)
    have e5 : ρ 5 = x5 := hx 5 (by decide)
    subst e0
    subst e1
    subst e2
    subst e3
    subst e4
    subst e5
    have g7 := g7 (by decide)
    match Lc, stc, g7, g8 with
    | [v0, v1, v2, v3, v4, v5], [w0, w1, w2], ⟨hv0, hv1, hv2, hv3, hv4, hv5, _⟩, ⟨hw0, hw1, hw2, _⟩ =>
      cases hv0
      cases hv1
      cases hv2
      cases hv3
      cases hv4
      cases hv5
      cases hw0
      cases hw1
      cases hw2
      exact l0 τ ρ  g1 g2 g3 g4 g5 g6
  · intro ρ τ Lc stc hx g1 g2 g3 g4 g5 g6 g7 g8
    have e0 : ρ 0 = x0 := hx 0 (by decide)
    have e1 : ρ 1 = x1 := hx 1 (by decide)
    have e2 : ρ 2 = x2 := hx 2 (by decide)
    have e3 : ρ 3 = x3 := hx 3 (by decide)
    have e4 : ρ 4 = x4 := hx 4 (by decide)
    have e5 : ρ 5 = x5 := hx 5 (by decide)
    subst e0
    subst e1
    subst e2
    subst e3
    subst e4
    subst e5
    have g7 := g7 (by decide)
    match Lc, stc, g7, g8 with
    | [v0, v1, v2, v3, v4, v5], [w0, w1, w2], ⟨hv0, hv1, hv2, hv3, hv4, hv5, _⟩, ⟨hw0, hw1, hw2, _⟩ =>
      cases hv0
      cases hv1
      cases hv2
      cases hv3
      cases hv4
      cases hv5
      cases hw0
      cases hw1
      cases hw2
      exact l1 τ ρ  g1 g2 g3 g4 g5 g6
set_option maxRecDepth 100000 in
theorem kb_50y {σ : pm_S} {Q : Option Value → pm_S → Prop} (x0 x1 x2 x3 x4 x5 : Int)  (hB : an_GB pm_B σ) (eF : (0 ≤ x0 ∧ x0 ≤ 1023) ∧ (1 ≤ x1 ∧ x1 ≤ 1023) ∧ (1 ≤ x2 ∧ x2 ≤ 1023) ∧ (0 ≤ x3 ∧ x3 ≤ 1023) ∧ (0 ≤ x4 ∧ x4 ≤ 9) ∧ (1 ≤ x5 ∧ x5 ≤ 1) ∧ True) (eC : (σ.1 82 (x1).toNat).toInt = x5 ∧ True)
    (l0 : ∀ (τ : pm_S) (y : Nat → Int), an_GB pm_B τ → FQ [] σ τ → ((0 ≤ x0 ∧ x0 ≤ 1023) ∧ (1 ≤ x1 ∧ x1 ≤ 1023) ∧ (1 ≤ x2 ∧ x2 ≤ 1023) ∧ (0 ≤ x3 ∧ x3 ≤ 1023) ∧ (0 ≤ x4 ∧ x4 ≤ 9) ∧ (1 ≤ x5 ∧ x5 ≤ 1) ∧ True) → (True) → (True) → ((τ.1 82 (x1).toNat).toInt = x5 ∧ True) → Ok 71 9 64 [.ref 79, .int (Int32.ofInt (x0)), .int (Int32.ofInt (x1)), .int (Int32.ofInt (x2)), .int (Int32.ofInt (x3)), .int (Int32.ofInt (x4))] [.int (Int32.ofInt 1), .int (Int32.ofInt (x1)), .ref 83] τ Q)
    : Ok 71 9 50 [.ref 79, .int (Int32.ofInt (x0)), .int (Int32.ofInt (x1)), .int (Int32.ofInt (x2)), .int (Int32.ofInt (x3)), .int (Int32.ofInt (x4))] [] σ Q := by
  refine an_seg (B := pm_B) (F := []) (T := [82]) (S := []) (fun _ h => absurd h List.not_mem_nil) (k := 71) (d := 8) (cs := [64]) 12 50 6 [(0, 0, 1023), (1, 1, 1023), (2, 1, 1023), (3, 0, 1023), (4, 0, 9), (5, 1, 1)] [(82, (0, 1, 0), (0, 5, 0))] [(2, 79, 0), (0, 0, 0), (0, 1, 0), (0, 2, 0), (0, 3, 0), (0, 4, 0)] [] [(64, [(2, 79, 0), (0, 0, 0), (0, 1, 0), (0, 2, 0), (0, 3, 0), (0, 4, 0)], [(1, 0, 1), (0, 1, 0), (2, 83, 0)], [(0, 0, 1023), (1, 1, 1023), (2, 1, 1023), (3, 0, 1023), (4, 0, 9), (5, 1, 1)], [], [], [(82, (0, 1, 0), (0, 5, 0))])] (by decide +kernel) (ρ0 := (fun s => [x0, x1, x2, x3, x4, x5].getD s 0)) hB eF eC ⟨rfl, ⟨rfl, ⟨rfl, ⟨rfl, ⟨rfl, ⟨rfl, trivial⟩⟩⟩⟩⟩⟩ trivial ?_
  refine List.forall_mem_cons.mpr ⟨?_, fun _ h => absurd h List.not_mem_nil⟩
  · intro ρ τ Lc stc hx g1 g2 g3 g4 g5 g6 g7 g8
    have e0 : ρ 0 = x0 := hx 0 (by decide)
    have e1 : ρ 1 = x1 := hx 1 (by decide)
    have e2 : ρ 2 = x2 := hx 2 (by decide)
    have e3 : ρ 3 = x3 := hx 3 (by decide)
    have e4 : ρ 4 = x4 := hx 4 (by decide)
    have e5 : ρ 5 = x5 := hx 5 (by decide)
    subst e0
    subst e1
    subst e2
    subst e3
    subst e4
    subst e5
    have g7 := g7 (by decide)
    match Lc, stc, g7, g8 with
    | [v0, v1, v2, v3, v4, v5], [w0, w1, w2], ⟨hv0, hv1, hv2, hv3, hv4, hv5, _⟩, ⟨hw0, hw1, hw2, _⟩ =>
      cases hv0
      cases hv1
      cases hv2
      cases hv3
      cases hv4
      cases hv5
      cases hw0
      cases hw1
      cases hw2
      exact l0 τ ρ  g1 g2 g3 g4 g5 g6
set_option maxRecDepth 100000 in
theorem kb_50n {σ : pm_S} {Q : Option Value → pm_S → Prop} (x0 x1 x2 x3 x4 x5 : Int)  (hB : an_GB pm_B σ) (eF : (0 ≤ x0 ∧ x0 ≤ 1023) ∧ (1 ≤ x1 ∧ x1 ≤ 1023) ∧ (1 ≤ x2 ∧ x2 ≤ 1023) ∧ (0 ≤ x3 ∧ x3 ≤ 1023) ∧ (0 ≤ x4 ∧ x4 ≤ 9) ∧ (0 ≤ x5 ∧ x5 ≤ 0) ∧ True) (eC : (σ.1 82 (x1).toNat).toInt = x5 ∧ True)
    (l0 : ∀ (τ : pm_S) (y : Nat → Int), an_GB pm_B τ → FQ [] σ τ → ((0 ≤ x0 ∧ x0 ≤ 1023) ∧ (1 ≤ x1 ∧ x1 ≤ 1023) ∧ (1 ≤ x2 ∧ x2 ≤ 1023) ∧ (0 ≤ x3 ∧ x3 ≤ 1023) ∧ (0 ≤ x4 ∧ x4 ≤ 9) ∧ (0 ≤ x5 ∧ x5 ≤ 0) ∧ True) → (True) → (True) → ((τ.1 82 (x1).toNat).toInt = x5 ∧ True) → Ok 71 9 63 [.ref 79, .int (Int32.ofInt (x0)), .int (Int32.ofInt (x1)), .int (Int32.ofInt (x2)), .int (Int32.ofInt (x3)), .int (Int32.ofInt (x4))] [.int (Int32.ofInt (x3)), .int (Int32.ofInt (x2)), .ref 79, .int (Int32.ofInt (x1)), .ref 83] τ Q)
    : Ok 71 9 50 [.ref 79, .int (Int32.ofInt (x0)), .int (Int32.ofInt (x1)), .int (Int32.ofInt (x2)), .int (Int32.ofInt (x3)), .int (Int32.ofInt (x4))] [] σ Q := by
  refine an_seg (B := pm_B) (F := []) (T := [82]) (S := []) (fun _ h => absurd h List.not_mem_nil) (k := 71) (d := 8) (cs := [63]) 13 50 6 [(0, 0, 1023), (1, 1, 1023), (2, 1, 1023), (3, 0, 1023), (4, 0, 9), (5, 0, 0)] [(82, (0, 1, 0), (0, 5, 0))] [(2, 79, 0), (0, 0, 0), (0, 1, 0), (0, 2, 0), (0, 3, 0), (0, 4, 0)] [] [(63, [(2, 79, 0), (0, 0, 0), (0, 1, 0), (0, 2, 0), (0, 3, 0), (0, 4, 0)], [(0, 3, 0), (0, 2, 0), (2, 79, 0), (0, 1, 0), (2, 83, 0)], [(0, 0, 1023), (1, 1, 1023), (2, 1, 1023), (3, 0, 1023), (4, 0, 9), (5, 0, 0)], [], [], [(82, (0, 1, 0), (0, 5, 0))])] (by decide +kernel) (ρ0 := (fun s => [x0, x1, x2, x3, x4, x5].getD s 0)) hB eF eC ⟨rfl, ⟨rfl, ⟨rfl, ⟨rfl, ⟨rfl, ⟨rfl, trivial⟩⟩⟩⟩⟩⟩ trivial ?_
  refine List.forall_mem_cons.mpr ⟨?_, fun _ h => absurd h List.not_mem_nil⟩
  · intro ρ τ Lc stc hx g1 g2 g3 g4 g5 g6 g7 g8
    have e0 : ρ 0 = x0 := hx 0 (by decide)
    have e1 : ρ 1 = x1 := hx 1 (by decide)
    have e2 : ρ 2 = x2 := hx 2 (by decide)
    have e3 : ρ 3 = x3 := hx 3 (by decide)
    have e4 : ρ 4 = x4 := hx 4 (by decide)
    have e5 : ρ 5 = x5 := hx 5 (by decide)
    subst e0
    subst e1
    subst e2
    subst e3
    subst e4
    subst e5
    have g7 := g7 (by decide)
    match Lc, stc, g7, g8 with
    | [v0, v1, v2, v3, v4, v5], [w0, w1, w2, w3, w4], ⟨hv0, hv1, hv2, hv3, hv4, hv5, _⟩, ⟨hw0, hw1, hw2, hw3, hw4, _⟩ =>
      cases hv0
      cases hv1
      cases hv2
      cases hv3
      cases hv4
      cases hv5
      cases hw0
      cases hw1
      cases hw2
      cases hw3
      cases hw4
      exact l0 τ ρ  g1 g2 g3 g4 g5 g6
set_option maxRecDepth 100000 in
theorem kb_65 {σ : pm_S} {Q : Option Value → pm_S → Prop} (x0 x1 x2 x3 x4 : Int)  (hB : an_GB pm_B σ) (eF : (0 ≤ x0 ∧ x0 ≤ 1023) ∧ (1 ≤ x1 ∧ x1 ≤ 1023) ∧ (1 ≤ x2 ∧ x2 ≤ 1023) ∧ (0 ≤ x3 ∧ x3 ≤ 1023) ∧ (0 ≤ x4 ∧ x4 ≤ 9) ∧ True)
    (l0 : ∀ (τ : pm_S) (y : Nat → Int), an_GB pm_B τ → FQ [] σ τ → ((0 ≤ x0 ∧ x0 ≤ 1023) ∧ (1 ≤ x1 ∧ x1 ≤ 1023) ∧ (1 ≤ x2 ∧ x2 ≤ 1023) ∧ (0 ≤ x3 ∧ x3 ≤ 1023) ∧ (0 ≤ x4 ∧ x4 ≤ 9) ∧ True) → (True) → (True) → (True) → Ok 71 9 12 [.ref 79, .int (Int32.ofInt (x0)), .int (Int32.ofInt (x1 + 1)), .int (Int32.ofInt (x2)), .int (Int32.ofInt (x3)), .int (Int32.ofInt (x4))] [] τ Q)
    : Ok 71 9 65 [.ref 79, .int (Int32.ofInt (x0)), .int (Int32.ofInt (x1)), .int (Int32.ofInt (x2)), .int (Int32.ofInt (x3)), .int (Int32.ofInt (x4))] [] σ Q := by
  refine an_seg (B := pm_B) (F := []) (T := []) (S := []) (fun _ h => absurd h List.not_mem_nil) (k := 71) (d := 8) (cs := [12]) 4 65 5 [(0, 0, 1023), (1, 1, 1023), (2, 1, 1023), (3, 0, 1023), (4, 0, 9)] [] [(2, 79, 0), (0, 0, 0), (0, 1, 0), (0, 2, 0), (0, 3, 0), (0, 4, 0)] [] [(12, [(2, 79, 0), (0, 0, 0), (0, 1, 1), (0, 2, 0), (0, 3, 0), (0, 4, 0)], [], [(0, 0, 1023), (1, 1, 1023), (2, 1, 1023), (3, 0, 1023), (4, 0, 9)], [], [], [])] (by decide +kernel) (ρ0 := (fun s => [x0, x1, x2, x3, x4].getD s 0)) hB eF trivial ⟨rfl, ⟨rfl, ⟨rfl, ⟨rfl, ⟨rfl, ⟨rfl, trivial⟩⟩⟩⟩⟩⟩ trivial ?_
  refine List.forall_mem_cons.mpr ⟨?_, fun _ h => absurd h List.not_mem_nil⟩
  · intro ρ τ Lc stc hx g1 g2 g3 g4 g5 g6 g7 g8
    have e0 : ρ 0 = x0 := hx 0 (by decide)
    have e1 : ρ 1 = x1 := hx 1 (by decide)
    have e2 : ρ 2 = x2 := hx 2 (by decide)
    have e3 : ρ 3 = x3 := hx 3 (by decide)
    have e4 : ρ 4 = x4 := hx 4 (by decide)
    subst e0
    subst e1
    subst e2
    subst e3
    subst e4
    have g7 := g7 (by decide)
    match Lc, stc, g7, g8 with
    | [v0, v1, v2, v3, v4, v5], [], ⟨hv0, hv1, hv2, hv3, hv4, hv5, _⟩, _ =>
      cases hv0
      cases hv1
      cases hv2
      cases hv3
      cases hv4
      cases hv5
      exact l0 τ ρ  g1 g2 g3 g4 g5 g6
set_option maxRecDepth 100000 in
theorem kb_67 {σ : pm_S} {Q : Option Value → pm_S → Prop} (x0 x1 : Int) (v3 : Value) (v4 : Value) (v5 : Value) (hv3 : v3.category = 1) (hv4 : v4.category = 1) (hv5 : v5.category = 1) (hB : an_GB pm_B σ) (eF : (0 ≤ x0 ∧ x0 ≤ 1023) ∧ (1 ≤ x1 ∧ x1 ≤ 1024) ∧ True)
    (l0 : ∀ (τ : pm_S) (y : Nat → Int), an_GB pm_B τ → FQ [] σ τ → ((0 ≤ x0 ∧ x0 ≤ 1023) ∧ (1 ≤ x1 ∧ x1 ≤ 1024) ∧ True) → (True) → (True) → (True) → Q none τ)
    : Ok 71 9 67 [.ref 79, .int (Int32.ofInt (x0)), .int (Int32.ofInt (x1)), v3, v4, v5] [] σ Q := by
  refine an_seg (B := pm_B) (F := []) (T := []) (S := []) (fun _ h => absurd h List.not_mem_nil) (k := 71) (d := 8) (cs := []) 3 67 2 [(0, 0, 1023), (1, 1, 1024)] [] [(2, 79, 0), (0, 0, 0), (0, 1, 0), (5, 0, 0), (5, 0, 0), (5, 0, 0)] [] [(9999, [], [], [(0, 0, 1023), (1, 1, 1024)], [], [], [])] (by decide +kernel) (ρ0 := (fun s => [x0, x1].getD s 0)) hB eF trivial ⟨rfl, ⟨rfl, ⟨rfl, ⟨hv3, ⟨hv4, ⟨hv5, trivial⟩⟩⟩⟩⟩⟩ trivial ?_
  refine List.forall_mem_cons.mpr ⟨?_, fun _ h => absurd h List.not_mem_nil⟩
  · intro ρ τ Lc stc hx g1 g2 g3 g4 g5 g6 g7 g8
    have e0 : ρ 0 = x0 := hx 0 (by decide)
    have e1 : ρ 1 = x1 := hx 1 (by decide)
    subst e0
    subst e1
    match stc, g8 with
    | [], _ => exact l0 τ ρ g1 g2 g3 g4 g5 g6
set_option maxRecDepth 100000 in
theorem kc_0 {σ : pm_S} {Q : Option Value → pm_S → Prop} (x0 x1 : Int) (v3 : Value) (v4 : Value) (hv3 : v3.category = 1) (hv4 : v4.category = 1) (hB : an_GB pm_B σ) (eF : (1 ≤ x0 ∧ x0 ≤ 1023) ∧ (0 ≤ x1 ∧ x1 ≤ 1023) ∧ True)
    (l0 : ∀ (τ : pm_S) (y : Nat → Int), an_GB pm_B τ → FQ [] σ τ → ((1 ≤ x0 ∧ x0 ≤ 1023) ∧ (0 ≤ x1 ∧ x1 ≤ 1023) ∧ True) → (True) → (True) → (True) → Ok 72 7 4 [.ref 79, .int (Int32.ofInt (x0)), .int (Int32.ofInt (x1)), .int (Int32.ofInt 10), .int (Int32.ofInt (x1))] [] τ Q)
    : Ok 72 7 0 [.ref 79, .int (Int32.ofInt (x0)), .int (Int32.ofInt (x1)), v3, v4] [] σ Q := by
  refine an_seg (B := pm_B) (F := []) (T := []) (S := []) (fun _ h => absurd h List.not_mem_nil) (k := 72) (d := 6) (cs := [4]) 6 0 2 [(0, 1, 1023), (1, 0, 1023)] [] [(2, 79, 0), (0, 0, 0), (0, 1, 0), (5, 0, 0), (5, 0, 0)] [] [(4, [(2, 79, 0), (0, 0, 0), (0, 1, 0), (1, 0, 10), (0, 1, 0)], [], [(0, 1, 1023), (1, 0, 1023)], [], [], [])] (by decide +kernel) (ρ0 := (fun s => [x0, x1].getD s 0)) hB eF trivial ⟨rfl, ⟨rfl, ⟨rfl, ⟨hv3, ⟨hv4, trivial⟩⟩⟩⟩⟩ trivial ?_
  refine List.forall_mem_cons.mpr ⟨?_, fun _ h => absurd h List.not_mem_nil⟩
  · intro ρ τ Lc stc hx g1 g2 g3 g4 g5 g6 g7 g8
    have e0 : ρ 0 = x0 := hx 0 (by decide)
    have e1 : ρ 1 = x1 := hx 1 (by decide)
    subst e0
    subst e1
    have g7 := g7 (by decide)
    match Lc, stc, g7, g8 with
    | [v0, v1, v2, v3, v4], [], ⟨hv0, hv1, hv2, hv3, hv4, _⟩, _ =>
      cases hv0
      cases hv1
      cases hv2
      cases hv3
      cases hv4
      exact l0 τ ρ  g1 g2 g3 g4 g5 g6
set_option maxRecDepth 100000 in
theorem kc_4 {σ : pm_S} {Q : Option Value → pm_S → Prop} (x0 x1 x2 x3 : Int)  (hB : an_GB pm_B σ) (eF : (1 ≤ x0 ∧ x0 ≤ 1023) ∧ (0 ≤ x1 ∧ x1 ≤ 1023) ∧ (0 ≤ x2 ∧ x2 ≤ 1000) ∧ (0 ≤ x3 ∧ x3 ≤ 1023) ∧ True)
    (l0 : ∀ (τ : pm_S) (y : Nat → Int), an_GB pm_B τ → FQ [] σ τ → ((1 ≤ x0 ∧ x0 ≤ 1023) ∧ (0 ≤ x1 ∧ x1 ≤ 1023) ∧ (0 ≤ x2 ∧ x2 ≤ 1000) ∧ (0 ≤ x3 ∧ x3 ≤ 0) ∧ True) → (True) → (True) → (True) → Q (some (.int (Int32.ofInt (x2)))) τ)
    (l1 : ∀ (τ : pm_S) (y : Nat → Int), an_GB pm_B τ → FQ [] σ τ → ((1 ≤ x0 ∧ x0 ≤ 1023) ∧ (0 ≤ x1 ∧ x1 ≤ 1023) ∧ (0 ≤ x2 ∧ x2 ≤ 1000) ∧ (1 ≤ x3 ∧ x3 ≤ 1023) ∧ ((-1024) ≤ y 4 ∧ y 4 ≤ (-2)) ∧ (0 ≤ y 5 ∧ y 5 ≤ 1023) ∧ (0 ≤ y 6 ∧ y 6 ≤ 1023) ∧ True) → (y 5 ≤ x1 + 0 ∧ True) → ((an_f 5 (Int32.ofInt (x3)) (Int32.ofInt ((-1)))).toInt = y 4 ∧ (an_f 3 (Int32.ofInt (x1)) (Int32.ofInt (y 4))).toInt = y 5 ∧ (an_f 4 (Int32.ofInt (x0)) (Int32.ofInt (y 5))).toInt = y 6 ∧ True) → (True) → Ok 72 7 15 [.ref 79, .int (Int32.ofInt (x0)), .int (Int32.ofInt (x1)), .int (Int32.ofInt (x2)), .int (Int32.ofInt (x3))] [.int (Int32.ofInt (y 6)), .ref 82] τ Q)
    : Ok 72 7 4 [.ref 79, .int (Int32.ofInt (x0)), .int (Int32.ofInt (x1)), .int (Int32.ofInt (x2)), .int (Int32.ofInt (x3))] [] σ Q := by
  refine an_seg (B := pm_B) (F := []) (T := []) (S := []) (fun _ h => absurd h List.not_mem_nil) (k := 72) (d := 6) (cs := [15]) 13 4 4 [(0, 1, 1023), (1, 0, 1023), (2, 0, 1000), (3, 0, 1023)] [] [(2, 79, 0), (0, 0, 0), (0, 1, 0), (0, 2, 0), (0, 3, 0)] [] [(9999, [], [(0, 2, 0)], [(0, 1, 1023), (1, 0, 1023), (2, 0, 1000), (3, 0, 0)], [], [], []),
    (15, [(2, 79, 0), (0, 0, 0), (0, 1, 0), (0, 2, 0), (0, 3, 0)], [(0, 6, 0), (2, 82, 0)], [(0, 1, 1023), (1, 0, 1023), (2, 0, 1000), (3, 1, 1023), (4, (-1024), (-2)), (5, 0, 1023), (6, 0, 1023)], [(1, 5, 1, 0)], [(5, (0, 3, 0), (1, 0, (-1)), 4), (3, (0, 1, 0), (0, 4, 0), 5), (4, (0, 0, 0), (0, 5, 0), 6)], [])] (by decide +kernel) (ρ0 := (fun s => [x0, x1, x2, x3].getD s 0)) hB eF trivial ⟨rfl, ⟨rfl, ⟨rfl, ⟨rfl, ⟨rfl, trivial⟩⟩⟩⟩⟩ trivial ?_
  refine List.forall_mem_cons.mpr ⟨?_, List.forall_mem_cons.mpr ⟨?_, fun _ h => absurd h List.not_mem_nil⟩⟩
  · intro ρ τ Lc stc hx g1 g2 g3 g4 g5 g6 g7 g8
    have e0 : ρ 0 = x0 := hx 0 (by decide)
    have e1 : ρ 1 = x1 := hx 1 (by decide)
    have e2 : ρ 2 = x2 := hx 2 (by decide)
    have e3 : ρ 3 = x3 := hx 3 (by decide)
    subst e0
    subst e1
    subst e2
    subst e3
    match stc, g8 with
    | [_], ⟨h, _⟩ => cases h; exact l0 τ ρ g1 g2 g3 g4 g5 g6
  · intro ρ τ Lc stc hx g1 g2 g3 g4 g5 g6 g7 g8
    have e0 : ρ 0 = x0 := hx 0 (by decide)
    have e1 : ρ 1 = x1 := hx 1 (by decide)
    have e2 : ρ 2 = x2 := hx 2 (by decide)
    have e3 : ρ 3 = x3 := hx 3 (by decide)
    subst e0
    subst e1
    subst e2
    subst e3
    have g7 := g7 (by decide)
    match Lc, stc, g7, g8 with
    | [v0, v1, v2, v3, v4], [w0, w1], ⟨hv0, hv1, hv2, hv3, hv4, _⟩, ⟨hw0, hw1, _⟩ =>
      cases hv0
      cases hv1
      cases hv2
      cases hv3
      cases hv4
      cases hw0
      cases hw1
      exact l1 τ ρ  g1 g2 g3 g4 g5 g6
set_option maxRecDepth 100000 in
theorem kc_16n {σ : pm_S} {Q : Option Value → pm_S → Prop} (x0 x1 x2 x3 : Int)  (hB : an_GB pm_B σ) (eF : (1 ≤ x0 ∧ x0 ≤ 1023) ∧ (0 ≤ x1 ∧ x1 ≤ 1023) ∧ (0 ≤ x2 ∧ x2 ≤ 1000) ∧ (1 ≤ x3 ∧ x3 ≤ 1023) ∧ True)
    (l0 : ∀ (τ : pm_S) (y : Nat → Int), an_GB pm_B τ → FQ [] σ τ → ((1 ≤ x0 ∧ x0 ≤ 1023) ∧ (0 ≤ x1 ∧ x1 ≤ 1023) ∧ (0 ≤ x2 ∧ x2 ≤ 1000) ∧ (1 ≤ x3 ∧ x3 ≤ 1023) ∧ (0 ≤ y 4 ∧ y 4 ≤ 1022) ∧ True) → (y 4 ≤ x3 + (-1) ∧ y 4 ≤ x1 + 0 ∧ True) → ((an_f 3 (Int32.ofInt (x3 + (-1))) (Int32.ofInt (x1))).toInt = y 4 ∧ True) → (True) → Ok 72 7 4 [.ref 79, .int (Int32.ofInt (x0)), .int (Int32.ofInt (x1)), .int (Int32.ofInt (x2)), .int (Int32.ofInt (y 4))] [] τ Q)
    : Ok 72 7 16 [.ref 79, .int (Int32.ofInt (x0)), .int (Int32.ofInt (x1)), .int (Int32.ofInt (x2)), .int (Int32.ofInt (x3))] [.int (Int32.ofInt 0)] σ Q := by
  refine an_seg (B := pm_B) (F := []) (T := []) (S := []) (fun _ h => absurd h List.not_mem_nil) (k := 72) (d := 6) (cs := [4]) 10 16 4 [(0, 1, 1023), (1, 0, 1023), (2, 0, 1000), (3, 1, 1023)] [] [(2, 79, 0), (0, 0, 0), (0, 1, 0), (0, 2, 0), (0, 3, 0)] [(1, 0, 0)] [(4, [(2, 79, 0), (0, 0, 0), (0, 1, 0), (0, 2, 0), (0, 4, 0)], [], [(0, 1, 1023), (1, 0, 1023), (2, 0, 1000), (3, 1, 1023), (4, 0, 1022)], [(1, 4, 3, (-1)), (1, 4, 1, 0)], [(3, (0, 3, (-1)), (0, 1, 0), 4)], [])] (by decide +kernel) (ρ0 := (fun s => [x0, x1, x2, x3].getD s 0)) hB eF trivial ⟨rfl, ⟨rfl, ⟨rfl, ⟨rfl, ⟨rfl, trivial⟩⟩⟩⟩⟩ ⟨rfl, trivial⟩ ?_
  refine List.forall_mem_cons.mpr ⟨?_, fun _ h => absurd h List.not_mem_nil⟩
  · intro ρ τ Lc stc hx g1 g2 g3 g4 g5 g6 g7 g8
    have e0 : ρ 0 = x0 := hx 0 (by decide)
    have e1 : ρ 1 = x1 := hx 1 (by decide)
    have e2 : ρ 2 = x2 := hx 2 (by decide)
    have e3 : ρ 3 = x3 := hx 3 (by decide)
    subst e0
    subst e1
    subst e2
    subst e3
    have g7 := g7 (by decide)
    match Lc, stc, g7, g8 with
    | [v0, v1, v2, v3, v4], [], ⟨hv0, hv1, hv2, hv3, hv4, _⟩, _ =>
      cases hv0
      cases hv1
      cases hv2
      cases hv3
      cases hv4
      exact l0 τ ρ  g1 g2 g3 g4 g5 g6
set_option maxRecDepth 100000 in
theorem kc_16 {σ : pm_S} {Q : Option Value → pm_S → Prop} (x0 x1 x2 x3 x4 : Int)  (hB : an_GB pm_B σ) (eF : (1 ≤ x0 ∧ x0 ≤ 1023) ∧ (0 ≤ x1 ∧ x1 ≤ 1023) ∧ (0 ≤ x2 ∧ x2 ≤ 1000) ∧ (1 ≤ x3 ∧ x3 ≤ 1023) ∧ (0 ≤ x4 ∧ x4 ≤ 1000) ∧ True) (eC : (σ.1 83 (x3).toNat).toInt = x4 ∧ True)
    (l0 : ∀ (τ : pm_S) (y : Nat → Int), an_GB pm_B τ → FQ [] σ τ → ((1 ≤ x0 ∧ x0 ≤ 1023) ∧ (0 ≤ x1 ∧ x1 ≤ 1023) ∧ (0 ≤ x2 ∧ x2 ≤ 1000) ∧ (1 ≤ x3 ∧ x3 ≤ 1023) ∧ (0 ≤ x4 ∧ x4 ≤ 1000) ∧ (0 ≤ y 5 ∧ y 5 ≤ 1000) ∧ (0 ≤ y 6 ∧ y 6 ≤ 1022) ∧ True) → (y 6 ≤ x3 + (-1) ∧ y 6 ≤ x1 + 0 ∧ True) → ((an_f 11 (Int32.ofInt (x2)) (Int32.ofInt (x4 + 1))).toInt = y 5 ∧ (an_f 3 (Int32.ofInt (x3 + (-1))) (Int32.ofInt (x1))).toInt = y 6 ∧ True) → ((τ.1 83 (x3).toNat).toInt = x4 ∧ True) → Ok 72 7 4 [.ref 79, .int (Int32.ofInt (x0)), .int (Int32.ofInt (x1)), .int (Int32.ofInt (y 5)), .int (Int32.ofInt (y 6))] [] τ Q)
    : Ok 72 7 16 [.ref 79, .int (Int32.ofInt (x0)), .int (Int32.ofInt (x1)), .int (Int32.ofInt (x2)), .int (Int32.ofInt (x3))] [.int (Int32.ofInt 1)] σ Q := by
  refine an_seg (B := pm_B) (F := []) (T := [83]) (S := []) (fun _ h => absurd h List.not_mem_nil) (k := 72) (d := 6) (cs := [4]) 19 16 5 [(0, 1, 1023), (1, 0, 1023), (2, 0, 1000), (3, 1, 1023), (4, 0, 1000)] [(83, (0, 3, 0), (0, 4, 0))] [(2, 79, 0), (0, 0, 0), (0, 1, 0), (0, 2, 0), (0, 3, 0)] [(1, 0, 1)] [(4, [(2, 79, 0), (0, 0, 0), (0, 1, 0), (0, 5, 0), (0, 6, 0)], [], [(0, 1, 1023), (1, 0, 1023), (2, 0, 1000), (3, 1, 1023), (4, 0, 1000), (5, 0, 1000), (6, 0, 1022)], [(1, 6, 3, (-1)), (1, 6, 1, 0)], [(11, (0, 2, 0), (0, 4, 1), 5), (3, (0, 3, (-1)), (0, 1, 0), 6)], [(83, (0, 3, 0), (0, 4, 0))])] (by decide +kernel) (ρ0 := (fun s => [x0, x1, x2, x3, x4].getD s 0)) hB eF eC ⟨rfl, ⟨rfl, ⟨rfl, ⟨rfl, ⟨rfl, trivial⟩⟩⟩⟩⟩ ⟨rfl, trivial⟩ ?_
  refine List.forall_mem_cons.mpr ⟨?_, fun _ h => absurd h List.not_mem_nil⟩
  · intro ρ τ Lc stc hx g1 g2 g3 g4 g5 g6 g7 g8
    have e0 : ρ 0 = x0 := hx 0 (by decide)
    have e1 : ρ 1 = x1 := hx 1 (by decide)
    have e2 : ρ 2 = x2 := hx 2 (by decide)
    have e3 : ρ 3 = x3 := hx 3 (by decide)
    have e4 : ρ 4 = x4 := hx 4 (by decide)
    subst e0
    subst e1
    subst e2
    subst e3
    subst e4
    have g7 := g7 (by decide)
    match Lc, stc, g7, g8 with
    | [v0, v1, v2, v3, v4], [], ⟨hv0, hv1, hv2, hv3, hv4, _⟩, _ =>
      cases hv0
      cases hv1
      cases hv2
      cases hv3
      cases hv4
      exact l0 τ ρ  g1 g2 g3 g4 g5 g6
set_option maxRecDepth 100000 in
theorem kd_0 {σ : pm_S} {Q : Option Value → pm_S → Prop} (x0 : Int) (v2 : Value) (hv2 : v2.category = 1) (hB : an_GB pm_B σ) (eF : (0 ≤ x0 ∧ x0 ≤ 1023) ∧ True)
    (l0 : ∀ (τ : pm_S) (y : Nat → Int), an_GB pm_B τ → FQ [] σ τ → ((0 ≤ x0 ∧ x0 ≤ 1023) ∧ True) → (True) → (True) → (True) → Ok 74 7 2 [.ref 79, .int (Int32.ofInt (x0)), .int (Int32.ofInt (x0))] [] τ Q)
    : Ok 74 7 0 [.ref 79, .int (Int32.ofInt (x0)), v2] [] σ Q := by
  refine an_seg (B := pm_B) (F := []) (T := []) (S := []) (fun _ h => absurd h List.not_mem_nil) (k := 74) (d := 6) (cs := [2]) 4 0 1 [(0, 0, 1023)] [] [(2, 79, 0), (0, 0, 0), (5, 0, 0)] [] [(2, [(2, 79, 0), (0, 0, 0), (0, 0, 0)], [], [(0, 0, 1023)], [], [], [])] (by decide +kernel) (ρ0 := (fun s => [x0].getD s 0)) hB eF trivial ⟨rfl, ⟨rfl, ⟨hv2, trivial⟩⟩⟩ trivial ?_
  refine List.forall_mem_cons.mpr ⟨?_, fun _ h => absurd h List.not_mem_nil⟩
  · intro ρ τ Lc stc hx g1 g2 g3 g4 g5 g6 g7 g8
    have e0 : ρ 0 = x0 := hx 0 (by decide)
    subst e0
    have g7 := g7 (by decide)
    match Lc, stc, g7, g8 with
    | [v0, v1, v2], [], ⟨hv0, hv1, hv2, _⟩, _ =>
      cases hv0
      cases hv1
      cases hv2
      exact l0 τ ρ  g1 g2 g3 g4 g5 g6
set_option maxRecDepth 100000 in
theorem kd_2z {σ : pm_S} {Q : Option Value → pm_S → Prop} (x0 x1 : Int)  (hB : an_GB pm_B σ) (eF : (0 ≤ x0 ∧ x0 ≤ 1023) ∧ (0 ≤ x1 ∧ x1 ≤ 0) ∧ True)
    (l0 : ∀ (τ : pm_S) (y : Nat → Int), an_GB pm_B τ → FQ [] σ τ → ((0 ≤ x0 ∧ x0 ≤ 1023) ∧ (0 ≤ x1 ∧ x1 ≤ 0) ∧ True) → (True) → (True) → (True) → Q (some (.int (Int32.ofInt 0))) τ)
    : Ok 74 7 2 [.ref 79, .int (Int32.ofInt (x0)), .int (Int32.ofInt (x1))] [] σ Q := by
  refine an_seg (B := pm_B) (F := []) (T := []) (S := []) (fun _ h => absurd h List.not_mem_nil) (k := 74) (d := 6) (cs := []) 6 2 2 [(0, 0, 1023), (1, 0, 0)] [] [(2, 79, 0), (0, 0, 0), (0, 1, 0)] [] [(9999, [], [(1, 0, 0)], [(0, 0, 1023), (1, 0, 0)], [], [], [])] (by decide +kernel) (ρ0 := (fun s => [x0, x1].getD s 0)) hB eF trivial ⟨rfl, ⟨rfl, ⟨rfl, trivial⟩⟩⟩ trivial ?_
  refine List.forall_mem_cons.mpr ⟨?_, fun _ h => absurd h List.not_mem_nil⟩
  · intro ρ τ Lc stc hx g1 g2 g3 g4 g5 g6 g7 g8
    have e0 : ρ 0 = x0 := hx 0 (by decide)
    have e1 : ρ 1 = x1 := hx 1 (by decide)
    subst e0
    subst e1
    match stc, g8 with
    | [_], ⟨h, _⟩ => cases h; exact l0 τ ρ g1 g2 g3 g4 g5 g6
set_option maxRecDepth 100000 in
theorem kd_2n {σ : pm_S} {Q : Option Value → pm_S → Prop} (x0 x1 x2 : Int)  (hB : an_GB pm_B σ) (eF : (0 ≤ x0 ∧ x0 ≤ 1023) ∧ (1 ≤ x1 ∧ x1 ≤ 1023) ∧ (0 ≤ x2 ∧ x2 ≤ 0) ∧ True) (eC : (σ.1 82 (x1).toNat).toInt = x2 ∧ True)
    (l0 : ∀ (τ : pm_S) (y : Nat → Int), an_GB pm_B τ → FQ [] σ τ → ((0 ≤ x0 ∧ x0 ≤ 1023) ∧ (1 ≤ x1 ∧ x1 ≤ 1023) ∧ (0 ≤ x2 ∧ x2 ≤ 0) ∧ True) → (True) → (True) → ((τ.1 82 (x1).toNat).toInt = x2 ∧ True) → Ok 74 7 26 [.ref 79, .int (Int32.ofInt (x0)), .int (Int32.ofInt (x1))] [] τ Q)
    : Ok 74 7 2 [.ref 79, .int (Int32.ofInt (x0)), .int (Int32.ofInt (x1))] [] σ Q := by
  refine an_seg (B := pm_B) (F := []) (T := [82]) (S := []) (fun _ h => absurd h List.not_mem_nil) (k := 74) (d := 6) (cs := [26]) 9 2 3 [(0, 0, 1023), (1, 1, 1023), (2, 0, 0)] [(82, (0, 1, 0), (0, 2, 0))] [(2, 79, 0), (0, 0, 0), (0, 1, 0)] [] [(26, [(2, 79, 0), (0, 0, 0), (0, 1, 0)], [], [(0, 0, 1023), (1, 1, 1023), (2, 0, 0)], [], [], [(82, (0, 1, 0), (0, 2, 0))])] (by decide +kernel) (ρ0 := (fun s => [x0, x1, x2].getD s 0)) hB eF eC ⟨rfl, ⟨rfl, ⟨rfl, trivial⟩⟩⟩ trivial ?_
  refine List.forall_mem_cons.mpr ⟨?_, fun _ h => absurd h List.not_mem_nil⟩
  · intro ρ τ Lc stc hx g1 g2 g3 g4 g5 g6 g7 g8
    have e0 : ρ 0 = x0 := hx 0 (by decide)
    have e1 : ρ 1 = x1 := hx 1 (by decide)
    have e2 : ρ 2 = x2 := hx 2 (by decide)
    subst e0
    subst e1
    subst e2
    have g7 := g7 (by decide)
    match Lc, stc, g7, g8 with
    | [v0, v1, v2], [], ⟨hv0, hv1, hv2, _⟩, _ =>
      cases hv0
      cases hv1
      cases hv2
      exact l0 τ ρ  g1 g2 g3 g4 g5 g6
set_option maxRecDepth 100000 in
theorem kd_2y {σ : pm_S} {Q : Option Value → pm_S → Prop} (x0 x1 x2 : Int)  (hB : an_GB pm_B σ) (eF : (0 ≤ x0 ∧ x0 ≤ 1023) ∧ (1 ≤ x1 ∧ x1 ≤ 1023) ∧ (1 ≤ x2 ∧ x2 ≤ 1) ∧ True) (eC : (σ.1 82 (x1).toNat).toInt = x2 ∧ True)
    (l0 : ∀ (τ : pm_S) (y : Nat → Int), an_GB pm_B τ → FQ [] σ τ → ((0 ≤ x0 ∧ x0 ≤ 1023) ∧ (1 ≤ x1 ∧ x1 ≤ 1023) ∧ (1 ≤ x2 ∧ x2 ≤ 1) ∧ ((-1024) ≤ y 3 ∧ y 3 ≤ (-2)) ∧ (0 ≤ y 4 ∧ y 4 ≤ 1023) ∧ True) → (y 4 ≤ x0 + 0 ∧ True) → ((an_f 5 (Int32.ofInt (x1)) (Int32.ofInt ((-1)))).toInt = y 3 ∧ (an_f 3 (Int32.ofInt (x0)) (Int32.ofInt (y 3))).toInt = y 4 ∧ True) → ((τ.1 82 (x1).toNat).toInt = x2 ∧ True) → Ok 74 7 16 [.ref 79, .int (Int32.ofInt (x0)), .int (Int32.ofInt (x1))] [.int (Int32.ofInt (y 4)), .ref 83] τ Q)
    : Ok 74 7 2 [.ref 79, .int (Int32.ofInt (x0)), .int (Int32.ofInt (x1))] [] σ Q := by
  refine an_seg (B := pm_B) (F := []) (T := [82]) (S := []) (fun _ h => absurd h List.not_mem_nil) (k := 74) (d := 6) (cs := [16]) 16 2 3 [(0, 0, 1023), (1, 1, 1023), (2, 1, 1)] [(82, (0, 1, 0), (0, 2, 0))] [(2, 79, 0), (0, 0, 0), (0, 1, 0)] [] [(16, [(2, 79, 0), (0, 0, 0), (0, 1, 0)], [(0, 4, 0), (2, 83, 0)], [(0, 0, 1023), (1, 1, 1023), (2, 1, 1), (3, (-1024), (-2)), (4, 0, 1023)], [(1, 4, 0, 0)], [(5, (0, 1, 0), (1, 0, (-1)), 3), (3, (0, 0, 0), (0, 3, 0), 4)], [(82, (0, 1, 0), (0, 2, 0))])] (by decide +kernel) (ρ0 := (fun s => [x0, x1, x2].getD s 0)) hB eF eC ⟨rfl, ⟨rfl, ⟨rfl, trivial⟩⟩⟩ trivial ?_
  refine List.forall_mem_cons.mpr ⟨?_, fun _ h => absurd h List.not_mem_nil⟩
  · intro ρ τ Lc stc hx g1 g2 g3 g4 g5 g6 g7 g8
    have e0 : ρ 0 = x0 := hx 0 (by decide)
    have e1 : ρ 1 = x1 := hx 1 (by decide)
    have e2 : ρ 2 = x2 := hx 2 (by decide)
    subst e0
    subst e1
    subst e2
    have g7 := g7 (by decide)
    match Lc, stc, g7, g8 with
    | [v0, v1, v2], [w0, w1], ⟨hv0, hv1, hv2, _⟩, ⟨hw0, hw1, _⟩ =>
      cases hv0
      cases hv1
      cases hv2
      cases hw0
      cases hw1
      exact l0 τ ρ  g1 g2 g3 g4 g5 g6
set_option maxRecDepth 100000 in
theorem kd_17 {σ : pm_S} {Q : Option Value → pm_S → Prop} (x0 x1 x2 x3 : Int)  (hB : an_GB pm_B σ) (eF : (0 ≤ x0 ∧ x0 ≤ 1023) ∧ (1 ≤ x1 ∧ x1 ≤ 1023) ∧ (0 ≤ x2 ∧ x2 ≤ 1000) ∧ (0 ≤ x3 ∧ x3 ≤ 1000) ∧ True) (eC : (σ.1 83 (x0).toNat).toInt = x3 ∧ True)
    (l0 : ∀ (τ : pm_S) (y : Nat → Int), an_GB pm_B τ → FQ [] σ τ → ((0 ≤ x0 ∧ x0 ≤ 1023) ∧ (1 ≤ x1 ∧ x1 ≤ 1023) ∧ (0 ≤ x2 ∧ x2 ≤ 1000) ∧ (0 ≤ x3 ∧ x3 ≤ 1000) ∧ True) → (True) → (True) → ((τ.1 83 (x0).toNat).toInt = x3 ∧ True) → Ok 74 7 23 [.ref 79, .int (Int32.ofInt (x0)), .int (Int32.ofInt (x1))] [.int (Int32.ofInt (x3 + (-1))), .int (Int32.ofInt (x2))] τ Q)
    : Ok 74 7 17 [.ref 79, .int (Int32.ofInt (x0)), .int (Int32.ofInt (x1))] [.int (Int32.ofInt (x2))] σ Q := by
  refine an_seg (B := pm_B) (F := []) (T := [83]) (S := []) (fun _ h => absurd h List.not_mem_nil) (k := 74) (d := 6) (cs := [23]) 8 17 4 [(0, 0, 1023), (1, 1, 1023), (2, 0, 1000), (3, 0, 1000)] [(83, (0, 0, 0), (0, 3, 0))] [(2, 79, 0), (0, 0, 0), (0, 1, 0)] [(0, 2, 0)] [(23, [(2, 79, 0), (0, 0, 0), (0, 1, 0)], [(0, 3, (-1)), (0, 2, 0)], [(0, 0, 1023), (1, 1, 1023), (2, 0, 1000), (3, 0, 1000)], [], [], [(83, (0, 0, 0), (0, 3, 0))])] (by decide +kernel) (ρ0 := (fun s => [x0, x1, x2, x3].getD s 0)) hB eF eC ⟨rfl, ⟨rfl, ⟨rfl, trivial⟩⟩⟩ ⟨rfl, trivial⟩ ?_
  refine List.forall_mem_cons.mpr ⟨?_, fun _ h => absurd h List.not_mem_nil⟩
  · intro ρ τ Lc stc hx g1 g2 g3 g4 g5 g6 g7 g8
    have e0 : ρ 0 = x0 := hx 0 (by decide)
    have e1 : ρ 1 = x1 := hx 1 (by decide)
    have e2 : ρ 2 = x2 := hx 2 (by decide)
    have e3 : ρ 3 = x3 := hx 3 (by decide)
    subst e0
    subst e1
    subst e2
    subst e3
    have g7 := g7 (by decide)
    match Lc, stc, g7, g8 with
    | [v0, v1, v2], [w0, w1], ⟨hv0, hv1, hv2, _⟩, ⟨hw0, hw1, _⟩ =>
      cases hv0
      cases hv1
      cases hv2
      cases hw0
      cases hw1
      exact l0 τ ρ  g1 g2 g3 g4 g5 g6
set_option maxRecDepth 100000 in
theorem kd_24 {σ : pm_S} {Q : Option Value → pm_S → Prop} (x0 x1 : Int)  (hB : an_GB pm_B σ) (eF : (0 ≤ x0 ∧ x0 ≤ 1023) ∧ (1 ≤ x1 ∧ x1 ≤ 1023) ∧ True)
    (l0 : ∀ (τ : pm_S) (y : Nat → Int), an_GB pm_B τ → FQ [] σ τ → ((0 ≤ x0 ∧ x0 ≤ 1023) ∧ (1 ≤ x1 ∧ x1 ≤ 1023) ∧ True) → (True) → (True) → (True) → Q (some (.int (Int32.ofInt (x1)))) τ)
    : Ok 74 7 24 [.ref 79, .int (Int32.ofInt (x0)), .int (Int32.ofInt (x1))] [] σ Q := by
  refine an_seg (B := pm_B) (F := []) (T := []) (S := []) (fun _ h => absurd h List.not_mem_nil) (k := 74) (d := 6) (cs := []) 4 24 2 [(0, 0, 1023), (1, 1, 1023)] [] [(2, 79, 0), (0, 0, 0), (0, 1, 0)] [] [(9999, [], [(0, 1, 0)], [(0, 0, 1023), (1, 1, 1023)], [], [], [])] (by decide +kernel) (ρ0 := (fun s => [x0, x1].getD s 0)) hB eF trivial ⟨rfl, ⟨rfl, ⟨rfl, trivial⟩⟩⟩ trivial ?_
  refine List.forall_mem_cons.mpr ⟨?_, fun _ h => absurd h List.not_mem_nil⟩
  · intro ρ τ Lc stc hx g1 g2 g3 g4 g5 g6 g7 g8
    have e0 : ρ 0 = x0 := hx 0 (by decide)
    have e1 : ρ 1 = x1 := hx 1 (by decide)
    subst e0
    subst e1
    match stc, g8 with
    | [_], ⟨h, _⟩ => cases h; exact l0 τ ρ g1 g2 g3 g4 g5 g6
set_option maxRecDepth 100000 in
theorem kd_26 {σ : pm_S} {Q : Option Value → pm_S → Prop} (x0 x1 : Int)  (hB : an_GB pm_B σ) (eF : (0 ≤ x0 ∧ x0 ≤ 1023) ∧ (1 ≤ x1 ∧ x1 ≤ 1023) ∧ True)
    (l0 : ∀ (τ : pm_S) (y : Nat → Int), an_GB pm_B τ → FQ [] σ τ → ((0 ≤ x0 ∧ x0 ≤ 1023) ∧ (1 ≤ x1 ∧ x1 ≤ 1023) ∧ (0 ≤ y 2 ∧ y 2 ≤ 1022) ∧ True) → (y 2 ≤ x1 + (-1) ∧ y 2 ≤ x0 + 0 ∧ True) → ((an_f 3 (Int32.ofInt (x1 + (-1))) (Int32.ofInt (x0))).toInt = y 2 ∧ True) → (True) → Ok 74 7 2 [.ref 79, .int (Int32.ofInt (x0)), .int (Int32.ofInt (y 2))] [] τ Q)
    : Ok 74 7 26 [.ref 79, .int (Int32.ofInt (x0)), .int (Int32.ofInt (x1))] [] σ Q := by
  refine an_seg (B := pm_B) (F := []) (T := []) (S := []) (fun _ h => absurd h List.not_mem_nil) (k := 74) (d := 6) (cs := [2]) 9 26 2 [(0, 0, 1023), (1, 1, 1023)] [] [(2, 79, 0), (0, 0, 0), (0, 1, 0)] [] [(2, [(2, 79, 0), (0, 0, 0), (0, 2, 0)], [], [(0, 0, 1023), (1, 1, 1023), (2, 0, 1022)], [(1, 2, 1, (-1)), (1, 2, 0, 0)], [(3, (0, 1, (-1)), (0, 0, 0), 2)], [])] (by decide +kernel) (ρ0 := (fun s => [x0, x1].getD s 0)) hB eF trivial ⟨rfl, ⟨rfl, ⟨rfl, trivial⟩⟩⟩ trivial ?_
  refine List.forall_mem_cons.mpr ⟨?_, fun _ h => absurd h List.not_mem_nil⟩
  · intro ρ τ Lc stc hx g1 g2 g3 g4 g5 g6 g7 g8
    have e0 : ρ 0 = x0 := hx 0 (by decide)
    have e1 : ρ 1 = x1 := hx 1 (by decide)
    subst e0
    subst e1
    have g7 := g7 (by decide)
    match Lc, stc, g7, g8 with
    | [v0, v1, v2], [], ⟨hv0, hv1, hv2, _⟩, _ =>
      cases hv0
      cases hv1
      cases hv2
      exact l0 τ ρ  g1 g2 g3 g4 g5 g6
set_option maxRecDepth 100000 in
theorem ke_0 {σ : pm_S} {Q : Option Value → pm_S → Prop} (x0 x1 : Int) (v3 : Value) (v4 : Value) (v5 : Value) (hv3 : v3.category = 1) (hv4 : v4.category = 1) (hv5 : v5.category = 1) (hB : an_GB pm_B σ) (eF : (0 ≤ x0 ∧ x0 ≤ 1000) ∧ (0 ≤ x1 ∧ x1 ≤ 1023) ∧ True)
    (l0 : ∀ (τ : pm_S) (y : Nat → Int), an_GB pm_B τ → FQ [] σ τ → ((0 ≤ x0 ∧ x0 ≤ 1000) ∧ (0 ≤ x1 ∧ x1 ≤ 1023) ∧ True) → (True) → (True) → (True) → Ok 73 9 6 [.ref 79, .int (Int32.ofInt (x0)), .int (Int32.ofInt (x1)), .int (Int32.ofInt (x1)), .int (Int32.ofInt 0), .int (Int32.ofInt 0)] [] τ Q)
    : Ok 73 9 0 [.ref 79, .int (Int32.ofInt (x0)), .int (Int32.ofInt (x1)), v3, v4, v5] [] σ Q := by
  refine an_seg (B := pm_B) (F := []) (T := []) (S := []) (fun _ h => absurd h List.not_mem_nil) (k := 73) (d := 8) (cs := [6]) 8 0 2 [(0, 0, 1000), (1, 0, 1023)] [] [(2, 79, 0), (0, 0, 0), (0, 1, 0), (5, 0, 0), (5, 0, 0), (5, 0, 0)] [] [(6, [(2, 79, 0), (0, 0, 0), (0, 1, 0), (0, 1, 0), (1, 0, 0), (1, 0, 0)], [], [(0, 0, 1000), (1, 0, 1023)], [], [], [])] (by decide +kernel) (ρ0 := (fun s => [x0, x1].getD s 0)) hB eF trivial ⟨rfl, ⟨rfl, ⟨rfl, ⟨hv3, ⟨hv4, ⟨hv5, trivial⟩⟩⟩⟩⟩⟩ trivial ?_
  refine List.forall_mem_cons.mpr ⟨?_, fun _ h => absurd h List.not_mem_nil⟩
  · intro ρ τ Lc stc hx g1 g2 g3 g4 g5 g6 g7 g8
    have e0 : ρ 0 = x0 := hx 0 (by decide)
    have e1 : ρ 1 = x1 := hx 1 (by decide)
    subst e0
    subst e1
    have g7 := g7 (by decide)
    match Lc, stc, g7, g8 with
    | [v0, v1, v2, v3, v4, v5], [], ⟨hv0, hv1, hv2, hv3, hv4, hv5, _⟩, _ =>
      cases hv0
      cases hv1
      cases hv2
      cases hv3
      cases hv4
      cases hv5
      exact l0 τ ρ  g1 g2 g3 g4 g5 g6
set_option maxRecDepth 100000 in
theorem ke_6 {σ : pm_S} {Q : Option Value → pm_S → Prop} (x0 x1 x2 x3 x4 : Int)  (hB : an_GB pm_B σ) (eF : (0 ≤ x0 ∧ x0 ≤ 1000) ∧ (0 ≤ x1 ∧ x1 ≤ 1023) ∧ (0 ≤ x2 ∧ x2 ≤ 1023) ∧ (0 ≤ x3 ∧ x3 ≤ 1023) ∧ (0 ≤ x4 ∧ x4 ≤ 10) ∧ True)
    (l0 : ∀ (τ : pm_S) (y : Nat → Int), an_GB pm_B τ → FQ [] σ τ → ((0 ≤ x0 ∧ x0 ≤ 1000) ∧ (0 ≤ x1 ∧ x1 ≤ 1023) ∧ (0 ≤ x2 ∧ x2 ≤ 1023) ∧ (0 ≤ x3 ∧ x3 ≤ 1023) ∧ (0 ≤ x4 ∧ x4 ≤ 10) ∧ True) → (True) → (True) → (True) → Ok 73 9 8 [.ref 79, .int (Int32.ofInt (x0)), .int (Int32.ofInt (x1)), .int (Int32.ofInt (x2)), .int (Int32.ofInt (x3)), .int (Int32.ofInt (x4))] [.int (Int32.ofInt (x0)), .int (Int32.ofInt (x4))] τ Q)
    : Ok 73 9 6 [.ref 79, .int (Int32.ofInt (x0)), .int (Int32.ofInt (x1)), .int (Int32.ofInt (x2)), .int (Int32.ofInt (x3)), .int (Int32.ofInt (x4))] [] σ Q := by
  refine an_seg (B := pm_B) (F := []) (T := []) (S := []) (fun _ h => absurd h List.not_mem_nil) (k := 73) (d := 8) (cs := [8]) 4 6 5 [(0, 0, 1000), (1, 0, 1023), (2, 0, 1023), (3, 0, 1023), (4, 0, 10)] [] [(2, 79, 0), (0, 0, 0), (0, 1, 0), (0, 2, 0), (0, 3, 0), (0, 4, 0)] [] [(8, [(2, 79, 0), (0, 0, 0), (0, 1, 0), (0, 2, 0), (0, 3, 0), (0, 4, 0)], [(0, 0, 0), (0, 4, 0)], [(0, 0, 1000), (1, 0, 1023), (2, 0, 1023), (3, 0, 1023), (4, 0, 10)], [], [], [])] (by decide +kernel) (ρ0 := (fun s => [x0, x1, x2, x3, x4].getD s 0)) hB eF trivial ⟨rfl, ⟨rfl, ⟨rfl, ⟨rfl, ⟨rfl, ⟨rfl, trivial⟩⟩⟩⟩⟩⟩ trivial ?_
  refine List.forall_mem_cons.mpr ⟨?_, fun _ h => absurd h List.not_mem_nil⟩
  · intro ρ τ Lc stc hx g1 g2 g3 g4 g5 g6 g7 g8
    have e0 : ρ 0 = x0 := hx 0 (by decide)
    have e1 : ρ 1 = x1 := hx 1 (by decide)
    have e2 : ρ 2 = x2 := hx 2 (by decide)
    have e3 : ρ 3 = x3 := hx 3 (by decide)
    have e4 : ρ 4 = x4 := hx 4 (by decide)
    subst e0
    subst e1
    subst e2
    subst e3
    subst e4
    have g7 := g7 (by decide)
    match Lc, stc, g7, g8 with
    | [v0, v1, v2, v3, v4, v5], [w0, w1], ⟨hv0, hv1, hv2, hv3, hv4, hv5, _⟩, ⟨hw0, hw1, _⟩ =>
      cases hv0
      cases hv1
      cases hv2
      cases hv3
      cases hv4
      cases hv5
      cases hw0
      cases hw1
      exact l0 τ ρ  g1 g2 g3 g4 g5 g6
set_option maxRecDepth 100000 in
theorem ke_9 {σ : pm_S} {Q : Option Value → pm_S → Prop} (x0 x1 x2 x3 x4 : Int)  (hB : an_GB pm_B σ) (eF : (0 ≤ x0 ∧ x0 ≤ 1000) ∧ (0 ≤ x1 ∧ x1 ≤ 1023) ∧ (0 ≤ x2 ∧ x2 ≤ 1023) ∧ (0 ≤ x3 ∧ x3 ≤ 1023) ∧ (0 ≤ x4 ∧ x4 ≤ 9) ∧ True)
    (l0 : ∀ (τ : pm_S) (y : Nat → Int), an_GB pm_B τ → FQ [] σ τ → ((0 ≤ x0 ∧ x0 ≤ 1000) ∧ (0 ≤ x1 ∧ x1 ≤ 1023) ∧ (0 ≤ x2 ∧ x2 ≤ 1023) ∧ (0 ≤ x3 ∧ x3 ≤ 1023) ∧ (0 ≤ x4 ∧ x4 ≤ 9) ∧ True) → (True) → (True) → (True) → Ok 73 9 14 [.ref 79, .int (Int32.ofInt (x0)), .int (Int32.ofInt (x1)), .int (Int32.ofInt (x2)), .int (Int32.ofInt (x3)), .int (Int32.ofInt (x4))] [.int (Int32.ofInt (x2)), .ref 79] τ Q)
    : Ok 73 9 9 [.ref 79, .int (Int32.ofInt (x0)), .int (Int32.ofInt (x1)), .int (Int32.ofInt (x2)), .int (Int32.ofInt (x3)), .int (Int32.ofInt (x4))] [] σ Q := by
  refine an_seg (B := pm_B) (F := []) (T := []) (S := []) (fun _ h => absurd h List.not_mem_nil) (k := 73) (d := 8) (cs := [14]) 7 9 5 [(0, 0, 1000), (1, 0, 1023), (2, 0, 1023), (3, 0, 1023), (4, 0, 9)] [] [(2, 79, 0), (0, 0, 0), (0, 1, 0), (0, 2, 0), (0, 3, 0), (0, 4, 0)] [] [(14, [(2, 79, 0), (0, 0, 0), (0, 1, 0), (0, 2, 0), (0, 3, 0), (0, 4, 0)], [(0, 2, 0), (2, 79, 0)], [(0, 0, 1000), (1, 0, 1023), (2, 0, 1023), (3, 0, 1023), (4, 0, 9)], [], [], [])] (by decide +kernel) (ρ0 := (fun s => [x0, x1, x2, x3, x4].getD s 0)) hB eF trivial ⟨rfl, ⟨rfl, ⟨rfl, ⟨rfl, ⟨rfl, ⟨rfl, trivial⟩⟩⟩⟩⟩⟩ trivial ?_
  refine List.forall_mem_cons.mpr ⟨?_, fun _ h => absurd h List.not_mem_nil⟩
  · intro ρ τ Lc stc hx g1 g2 g3 g4 g5 g6 g7 g8
    have e0 : ρ 0 = x0 := hx 0 (by decide)
    have e1 : ρ 1 = x1 := hx 1 (by decide)
    have e2 : ρ 2 = x2 := hx 2 (by decide)
    have e3 : ρ 3 = x3 := hx 3 (by decide)
    have e4 : ρ 4 = x4 := hx 4 (by decide)
    subst e0
    subst e1
    subst e2
    subst e3
    subst e4
    have g7 := g7 (by decide)
    match Lc, stc, g7, g8 with
    | [v0, v1, v2, v3, v4, v5], [w0, w1], ⟨hv0, hv1, hv2, hv3, hv4, hv5, _⟩, ⟨hw0, hw1, _⟩ =>
      cases hv0
      cases hv1
      cases hv2
      cases hv3
      cases hv4
      cases hv5
      cases hw0
      cases hw1
      exact l0 τ ρ  g1 g2 g3 g4 g5 g6
set_option maxRecDepth 100000 in
theorem ke_15 {σ : pm_S} {Q : Option Value → pm_S → Prop} (x0 x1 x2 x3 x4 : Int) (v4 : Value) (hv4 : v4.category = 1) (hB : an_GB pm_B σ) (eF : (0 ≤ x0 ∧ x0 ≤ 1000) ∧ (0 ≤ x1 ∧ x1 ≤ 1023) ∧ (0 ≤ x2 ∧ x2 ≤ 1023) ∧ (0 ≤ x3 ∧ x3 ≤ 9) ∧ (0 ≤ x4 ∧ x4 ≤ 1023) ∧ True)
    (l0 : ∀ (τ : pm_S) (y : Nat → Int), an_GB pm_B τ → FQ [] σ τ → ((0 ≤ x0 ∧ x0 ≤ 1000) ∧ (0 ≤ x1 ∧ x1 ≤ 1023) ∧ (0 ≤ x2 ∧ x2 ≤ 1023) ∧ (0 ≤ x3 ∧ x3 ≤ 9) ∧ (0 ≤ x4 ∧ x4 ≤ 1023) ∧ ((-1024) ≤ y 5 ∧ y 5 ≤ (-1)) ∧ (0 ≤ y 6 ∧ y 6 ≤ 1023) ∧ True) → (y 6 ≤ x2 + 0 ∧ True) → ((an_f 5 (Int32.ofInt (x4)) (Int32.ofInt ((-1)))).toInt = y 5 ∧ (an_f 3 (Int32.ofInt (x2)) (Int32.ofInt (y 5))).toInt = y 6 ∧ True) → (True) → Ok 73 9 6 [.ref 79, .int (Int32.ofInt (x0)), .int (Int32.ofInt (x1)), .int (Int32.ofInt (y 6)), .int (Int32.ofInt (x4)), .int (Int32.ofInt (x3 + 1))] [] τ Q)
    : Ok 73 9 15 [.ref 79, .int (Int32.ofInt (x0)), .int (Int32.ofInt (x1)), .int (Int32.ofInt (x2)), v4, .int (Int32.ofInt (x3))] [.int (Int32.ofInt (x4))] σ Q := by
  refine an_seg (B := pm_B) (F := []) (T := []) (S := []) (fun _ h => absurd h List.not_mem_nil) (k := 73) (d := 8) (cs := [6]) 11 15 5 [(0, 0, 1000), (1, 0, 1023), (2, 0, 1023), (3, 0, 9), (4, 0, 1023)] [] [(2, 79, 0), (0, 0, 0), (0, 1, 0), (0, 2, 0), (5, 0, 0), (0, 3, 0)] [(0, 4, 0)] [(6, [(2, 79, 0), (0, 0, 0), (0, 1, 0), (0, 6, 0), (0, 4, 0), (0, 3, 1)], [], [(0, 0, 1000), (1, 0, 1023), (2, 0, 1023), (3, 0, 9), (4, 0, 1023), (5, (-1024), (-1)), (6, 0, 1023)], [(1, 6, 2, 0)], [(5, (0, 4, 0), (1, 0, (-1)), 5), (3, (0, 2, 0), (0, 5, 0), 6)], [])] (by decide +kernel) (ρ0 := (fun s => [x0, x1, x2, x3, x4].getD s 0)) hB eF trivial ⟨rfl, ⟨rfl, ⟨rfl, ⟨rfl, ⟨hv4, ⟨rfl, trivial⟩⟩⟩⟩⟩⟩ ⟨rfl, trivial⟩ ?_
  refine List.forall_mem_cons.mpr ⟨?_, fun _ h => absurd h List.not_mem_nil⟩
  · intro ρ τ Lc stc hx g1 g2 g3 g4 g5 g6 g7 g8
    have e0 : ρ 0 = x0 := hx 0 (by decide)
    have e1 : ρ 1 = x1 := hx 1 (by decide)
    have e2 : ρ 2 = x2 := hx 2 (by decide)
    have e3 : ρ 3 = x3 := hx 3 (by decide)
    have e4 : ρ 4 = x4 := hx 4 (by decide)
    subst e0
    subst e1
    subst e2
    subst e3
    subst e4
    have g7 := g7 (by decide)
    match Lc, stc, g7, g8 with
    | [v0, v1, v2, v3, v4, v5], [], ⟨hv0, hv1, hv2, hv3, hv4, hv5, _⟩, _ =>
      cases hv0
      cases hv1
      cases hv2
      cases hv3
      cases hv4
      cases hv5
      exact l0 τ ρ  g1 g2 g3 g4 g5 g6
set_option maxRecDepth 100000 in
theorem ke_24 {σ : pm_S} {Q : Option Value → pm_S → Prop} (x0 x1 x2 x3 x4 : Int)  (hB : an_GB pm_B σ) (eF : (0 ≤ x0 ∧ x0 ≤ 1000) ∧ (0 ≤ x1 ∧ x1 ≤ 1023) ∧ (0 ≤ x2 ∧ x2 ≤ 1023) ∧ (0 ≤ x3 ∧ x3 ≤ 1023) ∧ (0 ≤ x4 ∧ x4 ≤ 10) ∧ True)
    (l0 : ∀ (τ : pm_S) (y : Nat → Int), an_GB pm_B τ → FQ [] σ τ → ((0 ≤ x0 ∧ x0 ≤ 1000) ∧ (0 ≤ x1 ∧ x1 ≤ 1023) ∧ (0 ≤ x2 ∧ x2 ≤ 1023) ∧ (0 ≤ x3 ∧ x3 ≤ 1023) ∧ (0 ≤ x4 ∧ x4 ≤ 10) ∧ True) → (True) → (True) → (True) → Q (some (.int (Int32.ofInt (x3)))) τ)
    : Ok 73 9 24 [.ref 79, .int (Int32.ofInt (x0)), .int (Int32.ofInt (x1)), .int (Int32.ofInt (x2)), .int (Int32.ofInt (x3)), .int (Int32.ofInt (x4))] [] σ Q := by
  refine an_seg (B := pm_B) (F := []) (T := []) (S := []) (fun _ h => absurd h List.not_mem_nil) (k := 73) (d := 8) (cs := []) 4 24 5 [(0, 0, 1000), (1, 0, 1023), (2, 0, 1023), (3, 0, 1023), (4, 0, 10)] [] [(2, 79, 0), (0, 0, 0), (0, 1, 0), (0, 2, 0), (0, 3, 0), (0, 4, 0)] [] [(9999, [], [(0, 3, 0)], [(0, 0, 1000), (1, 0, 1023), (2, 0, 1023), (3, 0, 1023), (4, 0, 10)], [], [], [])] (by decide +kernel) (ρ0 := (fun s => [x0, x1, x2, x3, x4].getD s 0)) hB eF trivial ⟨rfl, ⟨rfl, ⟨rfl, ⟨rfl, ⟨rfl, ⟨rfl, trivial⟩⟩⟩⟩⟩⟩ trivial ?_
  refine List.forall_mem_cons.mpr ⟨?_, fun _ h => absurd h List.not_mem_nil⟩
  · intro ρ τ Lc stc hx g1 g2 g3 g4 g5 g6 g7 g8
    have e0 : ρ 0 = x0 := hx 0 (by decide)
    have e1 : ρ 1 = x1 := hx 1 (by decide)
    have e2 : ρ 2 = x2 := hx 2 (by decide)
    have e3 : ρ 3 = x3 := hx 3 (by decide)
    have e4 : ρ 4 = x4 := hx 4 (by decide)
    subst e0
    subst e1
    subst e2
    subst e3
    subst e4
    match stc, g8 with
    | [_], ⟨h, _⟩ => cases h; exact l0 τ ρ g1 g2 g3 g4 g5 g6
set_option maxRecDepth 100000 in
theorem kf_0 {σ : pm_S} {Q : Option Value → pm_S → Prop} (x0 : Int) (v2 : Value) (hv2 : v2.category = 1) (hB : an_GB pm_B σ) (eF : ((-2147483648) ≤ x0 ∧ x0 ≤ 2147483647) ∧ True)
    (l0 : ∀ (τ : pm_S) (y : Nat → Int) (v2 : Value), v2.category = 1 → an_GB pm_B τ → FQ [] σ τ → (((-2147483648) ≤ x0 ∧ x0 ≤ 2147483647) ∧ True) → (True) → (True) → (True) → Ok 68 13 3 [.ref 79, .int (Int32.ofInt (x0)), v2] [.int (Int32.ofInt 10), .int (Int32.ofInt (-1)), .ref 79] τ Q)
    : Ok 68 13 0 [.ref 79, .int (Int32.ofInt (x0)), v2] [] σ Q := by
  refine an_seg (B := pm_B) (F := []) (T := []) (S := []) (fun _ h => absurd h List.not_mem_nil) (k := 68) (d := 12) (cs := [3]) 5 0 1 [(0, (-2147483648), 2147483647)] [] [(2, 79, 0), (0, 0, 0), (5, 0, 0)] [] [(3, [(2, 79, 0), (0, 0, 0), (5, 0, 0)], [(1, 0, 10), (1, 0, (-1)), (2, 79, 0)], [(0, (-2147483648), 2147483647)], [], [], [])] (by decide +kernel) (ρ0 := (fun s => [x0].getD s 0)) hB eF trivial ⟨rfl, ⟨rfl, ⟨hv2, trivial⟩⟩⟩ trivial ?_
  refine List.forall_mem_cons.mpr ⟨?_, fun _ h => absurd h List.not_mem_nil⟩
  · intro ρ τ Lc stc hx g1 g2 g3 g4 g5 g6 g7 g8
    have e0 : ρ 0 = x0 := hx 0 (by decide)
    subst e0
    have g7 := g7 (by decide)
    match Lc, stc, g7, g8 with
    | [v0, v1, v2], [w0, w1, w2], ⟨hv0, hv1, hv2, _⟩, ⟨hw0, hw1, hw2, _⟩ =>
      cases hv0
      cases hv1
      cases hw0
      cases hw1
      cases hw2
      exact l0 τ ρ v2 hv2 g1 g2 g3 g4 g5 g6
set_option maxRecDepth 100000 in
theorem kf_4n {σ : pm_S} {Q : Option Value → pm_S → Prop} (x0 : Int) (v2 : Value) (hv2 : v2.category = 1) (hB : an_GB pm_B σ) (eF : ((-2147483648) ≤ x0 ∧ x0 ≤ 2147483647) ∧ True)
    (l0 : ∀ (τ : pm_S) (y : Nat → Int), an_GB pm_B τ → FQ [] σ τ → (((-2147483648) ≤ x0 ∧ x0 ≤ 2147483647) ∧ True) → (True) → (True) → (True) → Q (some (.int (Int32.ofInt (-1)))) τ)
    : Ok 68 13 4 [.ref 79, .int (Int32.ofInt (x0)), v2] [.int (Int32.ofInt 0)] σ Q := by
  refine an_seg (B := pm_B) (F := []) (T := []) (S := []) (fun _ h => absurd h List.not_mem_nil) (k := 68) (d := 12) (cs := []) 5 4 1 [(0, (-2147483648), 2147483647)] [] [(2, 79, 0), (0, 0, 0), (5, 0, 0)] [(1, 0, 0)] [(9999, [], [(1, 0, (-1))], [(0, (-2147483648), 2147483647)], [], [], [])] (by decide +kernel) (ρ0 := (fun s => [x0].getD s 0)) hB eF trivial ⟨rfl, ⟨rfl, ⟨hv2, trivial⟩⟩⟩ ⟨rfl, trivial⟩ ?_
  refine List.forall_mem_cons.mpr ⟨?_, fun _ h => absurd h List.not_mem_nil⟩
  · intro ρ τ Lc stc hx g1 g2 g3 g4 g5 g6 g7 g8
    have e0 : ρ 0 = x0 := hx 0 (by decide)
    subst e0
    match stc, g8 with
    | [_], ⟨h, _⟩ => cases h; exact l0 τ ρ g1 g2 g3 g4 g5 g6
set_option maxRecDepth 100000 in
theorem kf_4 {σ : pm_S} {Q : Option Value → pm_S → Prop} (x0 x1 : Int) (v2 : Value) (hv2 : v2.category = 1) (hB : an_GB pm_B σ) (eF : ((-2147483648) ≤ x0 ∧ x0 ≤ 2147483647) ∧ (0 ≤ x1 ∧ x1 ≤ 10) ∧ True) (eC : (σ.1 79 2).toInt = x1 ∧ True)
    (l0 : ∀ (τ : pm_S) (y : Nat → Int), an_GB pm_B τ → FQ [] σ τ → (((-2147483648) ≤ x0 ∧ x0 ≤ 2147483647) ∧ (0 ≤ x1 ∧ x1 ≤ 10) ∧ (1 ≤ y 2 ∧ y 2 ≤ 1024) ∧ True) → (True) → ((an_f 6 (Int32.ofInt (1)) (Int32.ofInt (x1))).toInt = y 2 ∧ True) → ((τ.1 79 2).toInt = x1 ∧ True) → Ok 68 13 15 [.ref 79, .int (Int32.ofInt (x0)), .int (Int32.ofInt (y 2 + (-1)))] [.ref 79] τ Q)
    : Ok 68 13 4 [.ref 79, .int (Int32.ofInt (x0)), v2] [.int (Int32.ofInt 1)] σ Q := by
  refine an_seg (B := pm_B) (F := []) (T := []) (S := []) (fun _ h => absurd h List.not_mem_nil) (k := 68) (d := 12) (cs := [15]) 11 4 2 [(0, (-2147483648), 2147483647), (1, 0, 10)] [(79, (1, 0, 2), (0, 1, 0))] [(2, 79, 0), (0, 0, 0), (5, 0, 0)] [(1, 0, 1)] [(15, [(2, 79, 0), (0, 0, 0), (0, 2, (-1))], [(2, 79, 0)], [(0, (-2147483648), 2147483647), (1, 0, 10), (2, 1, 1024)], [], [(6, (1, 0, 1), (0, 1, 0), 2)], [(79, (1, 0, 2), (0, 1, 0))])] (by decide +kernel) (ρ0 := (fun s => [x0, x1].getD s 0)) hB eF eC ⟨rfl, ⟨rfl, ⟨hv2, trivial⟩⟩⟩ ⟨rfl, trivial⟩ ?_
  refine List.forall_mem_cons.mpr ⟨?_, fun _ h => absurd h List.not_mem_nil⟩
  · intro ρ τ Lc stc hx g1 g2 g3 g4 g5 g6 g7 g8
    have e0 : ρ 0 = x0 := hx 0 (by decide)
    have e1 : ρ 1 = x1 := hx 1 (by decide)
    subst e0
    subst e1
    have g7 := g7 (by decide)
    match Lc, stc, g7, g8 with
    | [v0, v1, v2], [w0], ⟨hv0, hv1, hv2, _⟩, ⟨hw0, _⟩ =>
      cases hv0
      cases hv1
      cases hv2
      cases hw0
      exact l0 τ ρ  g1 g2 g3 g4 g5 g6
set_option maxRecDepth 100000 in
theorem kf_16 {σ : pm_S} {Q : Option Value → pm_S → Prop} (x0 x1 : Int)  (hB : an_GB pm_B σ) (eF : ((-2147483648) ≤ x0 ∧ x0 ≤ 2147483647) ∧ (0 ≤ x1 ∧ x1 ≤ 1023) ∧ True)
    (l0 : ∀ (τ : pm_S) (y : Nat → Int), an_GB pm_B τ → FQ [] σ τ → (((-2147483648) ≤ x0 ∧ x0 ≤ 2147483647) ∧ (0 ≤ x1 ∧ x1 ≤ 1023) ∧ True) → (True) → (True) → (True) → Ok 68 13 18 [.ref 79, .int (Int32.ofInt (x0)), .int (Int32.ofInt (x1))] [.int (Int32.ofInt (x1)), .ref 79] τ Q)
    : Ok 68 13 16 [.ref 79, .int (Int32.ofInt (x0)), .int (Int32.ofInt (x1))] [] σ Q := by
  refine an_seg (B := pm_B) (F := []) (T := []) (S := []) (fun _ h => absurd h List.not_mem_nil) (k := 68) (d := 12) (cs := [18]) 4 16 2 [(0, (-2147483648), 2147483647), (1, 0, 1023)] [] [(2, 79, 0), (0, 0, 0), (0, 1, 0)] [] [(18, [(2, 79, 0), (0, 0, 0), (0, 1, 0)], [(0, 1, 0), (2, 79, 0)], [(0, (-2147483648), 2147483647), (1, 0, 1023)], [], [], [])] (by decide +kernel) (ρ0 := (fun s => [x0, x1].getD s 0)) hB eF trivial ⟨rfl, ⟨rfl, ⟨rfl, trivial⟩⟩⟩ trivial ?_
  refine List.forall_mem_cons.mpr ⟨?_, fun _ h => absurd h List.not_mem_nil⟩
  · intro ρ τ Lc stc hx g1 g2 g3 g4 g5 g6 g7 g8
    have e0 : ρ 0 = x0 := hx 0 (by decide)
    have e1 : ρ 1 = x1 := hx 1 (by decide)
    subst e0
    subst e1
    have g7 := g7 (by decide)
    match Lc, stc, g7, g8 with
    | [v0, v1, v2], [w0, w1], ⟨hv0, hv1, hv2, _⟩, ⟨hw0, hw1, _⟩ =>
      cases hv0
      cases hv1
      cases hv2
      cases hw0
      cases hw1
      exact l0 τ ρ  g1 g2 g3 g4 g5 g6
set_option maxRecDepth 100000 in
theorem kf_19 {σ : pm_S} {Q : Option Value → pm_S → Prop} (x0 x1 x2 : Int)  (hB : an_GB pm_B σ) (eF : ((-2147483648) ≤ x0 ∧ x0 ≤ 2147483647) ∧ (0 ≤ x1 ∧ x1 ≤ 1023) ∧ (0 ≤ x2 ∧ x2 ≤ 1000) ∧ True) (eC : (σ.1 83 (x1).toNat).toInt = x2 ∧ True)
    (l0 : ∀ (τ : pm_S) (y : Nat → Int), an_GB pm_B τ → FQ [] σ τ → (((-2147483648) ≤ x0 ∧ x0 ≤ 9) ∧ (0 ≤ x1 ∧ x1 ≤ 1023) ∧ (0 ≤ x2 ∧ x2 ≤ 1000) ∧ True) → (x0 ≠ 0 ∧ True) → (True) → ((τ.1 83 (x1).toNat).toInt = x2 ∧ True) → Q (some (.int (Int32.ofInt (-1)))) τ)
    (l1 : ∀ (τ : pm_S) (y : Nat → Int), an_GB pm_B τ → FQ [] σ τ → ((10 ≤ x0 ∧ x0 ≤ 2147483647) ∧ (0 ≤ x1 ∧ x1 ≤ 1023) ∧ (0 ≤ x2 ∧ x2 ≤ 1000) ∧ True) → (x0 ≠ 0 ∧ True) → (True) → ((τ.1 83 (x1).toNat).toInt = x2 ∧ True) → Ok 68 13 36 [.ref 79, .int (Int32.ofInt (x0)), .int (Int32.ofInt (x1))] [.int (Int32.ofInt (x2)), .int (Int32.ofInt (x0 + (-10)))] τ Q)
    (l2 : ∀ (τ : pm_S) (y : Nat → Int), an_GB pm_B τ → FQ [] σ τ → ((0 ≤ x0 ∧ x0 ≤ 0) ∧ (0 ≤ x1 ∧ x1 ≤ 1023) ∧ (0 ≤ x2 ∧ x2 ≤ 1000) ∧ True) → (True) → (True) → ((τ.1 83 (x1).toNat).toInt = x2 ∧ True) → Q (some (.int (Int32.ofInt (x2)))) τ)
    : Ok 68 13 19 [.ref 79, .int (Int32.ofInt (x0)), .int (Int32.ofInt (x1))] [] σ Q := by
  refine an_seg (B := pm_B) (F := []) (T := [83]) (S := []) (fun _ h => absurd h List.not_mem_nil) (k := 68) (d := 12) (cs := [36]) 14 19 3 [(0, (-2147483648), 2147483647), (1, 0, 1023), (2, 0, 1000)] [(83, (0, 1, 0), (0, 2, 0))] [(2, 79, 0), (0, 0, 0), (0, 1, 0)] [] [(9999, [], [(1, 0, (-1))], [(0, (-2147483648), 9), (1, 0, 1023), (2, 0, 1000)], [(3, 0, 0, 0)], [], [(83, (0, 1, 0), (0, 2, 0))]),
    (36, [(2, 79, 0), (0, 0, 0), (0, 1, 0)], [(0, 2, 0), (0, 0, (-10))], [(0, 10, 2147483647), (1, 0, 1023), (2, 0, 1000)], [(3, 0, 0, 0)], [], [(83, (0, 1, 0), (0, 2, 0))]),
    (9999, [], [(0, 2, 0)], [(0, 0, 0), (1, 0, 1023), (2, 0, 1000)], [], [], [(83, (0, 1, 0), (0, 2, 0))])] (by decide +kernel) (ρ0 := (fun s => [x0, x1, x2].getD s 0)) hB eF eC ⟨rfl, ⟨rfl, ⟨rfl, trivial⟩⟩⟩ trivial ?_
  refine List.forall_mem_cons.mpr ⟨?_, List.forall_mem_cons.mpr ⟨?_, List.forall_mem_cons.mpr ⟨?_, fun _ h => absurd h List.not_mem_nil⟩⟩⟩
  · intro ρ τ Lc stc hx g1 g2 g3 g4 g5 g6 g7 g8
    have e0 : ρ 0 = x0 := hx 0 (by decide)
    have e1 : ρ 1 = x1 := hx 1 (by decide)
    have e2 : ρ 2 = x2 := hx 2 (by decide)
    subst e0
    subst e1
    subst e2
    match stc, g8 with
    | [_], ⟨h, _⟩ => cases h; exact l0 τ ρ g1 g2 g3 g4 g5 g6
  · intro ρ τ Lc stc hx g1 g2 g3 g4 g5 g6 g7 g8
    have e0 : ρ 0 = x0 := hx 0 (by decide)
    have e1 : ρ 1 = x1 := hx 1 (by decide)
    have e2 : ρ 2 = x2 := hx 2 (by decide)
    subst e0
    subst e1
    subst e2
    have g7 := g7 (by decide)
    match Lc, stc, g7, g8 with
    | [v0, v1, v2], [w0, w1], ⟨hv0, hv1, hv2, _⟩, ⟨hw0, hw1, _⟩ =>
      cases hv0
      cases hv1
      cases hv2
      cases hw0
      cases hw1
      exact l1 τ ρ  g1 g2 g3 g4 g5 g6
  · intro ρ τ Lc stc hx g1 g2 g3 g4 g5 g6 g7 g8
    have e0 : ρ 0 = x0 := hx 0 (by decide)
    have e1 : ρ 1 = x1 := hx 1 (by decide)
    have e2 : ρ 2 = x2 := hx 2 (by decide)
    subst e0
    subst e1
    subst e2
    match stc, g8 with
    | [_], ⟨h, _⟩ => cases h; exact l2 τ ρ g1 g2 g3 g4 g5 g6
set_option maxRecDepth 100000 in
theorem kf_37 {σ : pm_S} {Q : Option Value → pm_S → Prop} (x0 x1 : Int)  (hB : an_GB pm_B σ) (eF : (10 ≤ x0 ∧ x0 ≤ 1009) ∧ (0 ≤ x1 ∧ x1 ≤ 1023) ∧ True)
    (l0 : ∀ (τ : pm_S) (y : Nat → Int), an_GB pm_B τ → FQ [] σ τ → ((10 ≤ x0 ∧ x0 ≤ 1009) ∧ (0 ≤ x1 ∧ x1 ≤ 1023) ∧ True) → (True) → (True) → (True) → Ok 68 13 42 [.ref 79, .int (Int32.ofInt (x0)), .int (Int32.ofInt (x1))] [.int (Int32.ofInt (x1)), .int (Int32.ofInt (x0 + (-10))), .ref 79] τ Q)
    : Ok 68 13 37 [.ref 79, .int (Int32.ofInt (x0)), .int (Int32.ofInt (x1))] [] σ Q := by
  refine an_seg (B := pm_B) (F := []) (T := []) (S := []) (fun _ h => absurd h List.not_mem_nil) (k := 68) (d := 12) (cs := [42]) 7 37 2 [(0, 10, 1009), (1, 0, 1023)] [] [(2, 79, 0), (0, 0, 0), (0, 1, 0)] [] [(42, [(2, 79, 0), (0, 0, 0), (0, 1, 0)], [(0, 1, 0), (0, 0, (-10)), (2, 79, 0)], [(0, 10, 1009), (1, 0, 1023)], [], [], [])] (by decide +kernel) (ρ0 := (fun s => [x0, x1].getD s 0)) hB eF trivial ⟨rfl, ⟨rfl, ⟨rfl, trivial⟩⟩⟩ trivial ?_
  refine List.forall_mem_cons.mpr ⟨?_, fun _ h => absurd h List.not_mem_nil⟩
  · intro ρ τ Lc stc hx g1 g2 g3 g4 g5 g6 g7 g8
    have e0 : ρ 0 = x0 := hx 0 (by decide)
    have e1 : ρ 1 = x1 := hx 1 (by decide)
    subst e0
    subst e1
    have g7 := g7 (by decide)
    match Lc, stc, g7, g8 with
    | [v0, v1, v2], [w0, w1, w2], ⟨hv0, hv1, hv2, _⟩, ⟨hw0, hw1, hw2, _⟩ =>
      cases hv0
      cases hv1
      cases hv2
      cases hw0
      cases hw1
      cases hw2
      exact l0 τ ρ  g1 g2 g3 g4 g5 g6
set_option maxRecDepth 100000 in
theorem kf_43 {σ : pm_S} {Q : Option Value → pm_S → Prop} (x0 x1 x2 : Int)  (hB : an_GB pm_B σ) (eF : ((-2147483648) ≤ x0 ∧ x0 ≤ 2147483647) ∧ (0 ≤ x1 ∧ x1 ≤ 1023) ∧ (0 ≤ x2 ∧ x2 ≤ 1023) ∧ True)
    (l0 : ∀ (τ : pm_S) (y : Nat → Int), an_GB pm_B τ → FQ [] σ τ → (((-2147483648) ≤ x0 ∧ x0 ≤ 2147483647) ∧ (0 ≤ x1 ∧ x1 ≤ 1023) ∧ (0 ≤ x2 ∧ x2 ≤ 1023) ∧ True) → (True) → (True) → (True) → Q (some (.int (Int32.ofInt (x2)))) τ)
    : Ok 68 13 43 [.ref 79, .int (Int32.ofInt (x0)), .int (Int32.ofInt (x1))] [.int (Int32.ofInt (x2))] σ Q := by
  refine an_seg (B := pm_B) (F := []) (T := []) (S := []) (fun _ h => absurd h List.not_mem_nil) (k := 68) (d := 12) (cs := []) 4 43 3 [(0, (-2147483648), 2147483647), (1, 0, 1023), (2, 0, 1023)] [] [(2, 79, 0), (0, 0, 0), (0, 1, 0)] [(0, 2, 0)] [(9999, [], [(0, 2, 0)], [(0, (-2147483648), 2147483647), (1, 0, 1023), (2, 0, 1023)], [], [], [])] (by decide +kernel) (ρ0 := (fun s => [x0, x1, x2].getD s 0)) hB eF trivial ⟨rfl, ⟨rfl, ⟨rfl, trivial⟩⟩⟩ ⟨rfl, trivial⟩ ?_
  refine List.forall_mem_cons.mpr ⟨?_, fun _ h => absurd h List.not_mem_nil⟩
  · intro ρ τ Lc stc hx g1 g2 g3 g4 g5 g6 g7 g8
    have e0 : ρ 0 = x0 := hx 0 (by decide)
    have e1 : ρ 1 = x1 := hx 1 (by decide)
    have e2 : ρ 2 = x2 := hx 2 (by decide)
    subst e0
    subst e1
    subst e2
    match stc, g8 with
    | [_], ⟨h, _⟩ => cases h; exact l0 τ ρ g1 g2 g3 g4 g5 g6
set_option maxRecDepth 100000 in
theorem kf_44 {σ : pm_S} {Q : Option Value → pm_S → Prop} (x0 x1 : Int)  (hB : an_GB pm_B σ) (eF : ((-2147483648) ≤ x0 ∧ x0 ≤ 2147483647) ∧ (0 ≤ x1 ∧ x1 ≤ 1023) ∧ True)
    (l0 : ∀ (τ : pm_S) (y : Nat → Int), an_GB pm_B τ → FQ [] σ τ → (((-2147483648) ≤ x0 ∧ x0 ≤ 2147483647) ∧ (0 ≤ x1 ∧ x1 ≤ 1023) ∧ True) → (True) → (True) → (True) → Q (some (.int (Int32.ofInt (-1)))) τ)
    : Ok 68 13 44 [.ref 79, .int (Int32.ofInt (x0)), .int (Int32.ofInt (x1))] [] σ Q := by
  refine an_seg (B := pm_B) (F := []) (T := []) (S := []) (fun _ h => absurd h List.not_mem_nil) (k := 68) (d := 12) (cs := []) 4 44 2 [(0, (-2147483648), 2147483647), (1, 0, 1023)] [] [(2, 79, 0), (0, 0, 0), (0, 1, 0)] [] [(9999, [], [(1, 0, (-1))], [(0, (-2147483648), 2147483647), (1, 0, 1023)], [], [], [])] (by decide +kernel) (ρ0 := (fun s => [x0, x1].getD s 0)) hB eF trivial ⟨rfl, ⟨rfl, ⟨rfl, trivial⟩⟩⟩ trivial ?_
  refine List.forall_mem_cons.mpr ⟨?_, fun _ h => absurd h List.not_mem_nil⟩
  · intro ρ τ Lc stc hx g1 g2 g3 g4 g5 g6 g7 g8
    have e0 : ρ 0 = x0 := hx 0 (by decide)
    have e1 : ρ 1 = x1 := hx 1 (by decide)
    subst e0
    subst e1
    match stc, g8 with
    | [_], ⟨h, _⟩ => cases h; exact l0 τ ρ g1 g2 g3 g4 g5 g6
set_option maxRecDepth 100000 in
theorem kg_0 {σ : pm_S} {Q : Option Value → pm_S → Prop} (x0 : Int)  (hB : an_GB pm_B σ) (eF : ((-2147483648) ≤ x0 ∧ x0 ≤ 2147483647) ∧ True)
    (l0 : ∀ (τ : pm_S) (y : Nat → Int), an_GB pm_B τ → FQ [] σ τ → (((-2147483648) ≤ x0 ∧ x0 ≤ 2147483647) ∧ True) → (True) → (True) → (True) → Ok 143 22 3 [.ref 0, .int (Int32.ofInt (x0))] [.int (Int32.ofInt (x0)), .ref 79] τ Q)
    : Ok 143 22 0 [.ref 0, .int (Int32.ofInt (x0))] [] σ Q := by
  refine an_seg (B := pm_B) (F := []) (T := []) (S := []) (fun _ h => absurd h List.not_mem_nil) (k := 143) (d := 21) (cs := [3]) 5 0 1 [(0, (-2147483648), 2147483647)] [] [(2, 0, 0), (0, 0, 0)] [] [(3, [(2, 0, 0), (0, 0, 0)], [(0, 0, 0), (2, 79, 0)], [(0, (-2147483648), 2147483647)], [], [], [])] (by decide +kernel) (ρ0 := (fun s => [x0].getD s 0)) hB eF trivial ⟨rfl, ⟨rfl, trivial⟩⟩ trivial ?_
  refine List.forall_mem_cons.mpr ⟨?_, fun _ h => absurd h List.not_mem_nil⟩
  · intro ρ τ Lc stc hx g1 g2 g3 g4 g5 g6 g7 g8
    have e0 : ρ 0 = x0 := hx 0 (by decide)
    subst e0
    have g7 := g7 (by decide)
    match Lc, stc, g7, g8 with
    | [v0, v1], [w0, w1], ⟨hv0, hv1, _⟩, ⟨hw0, hw1, _⟩ =>
      cases hv0
      cases hv1
      cases hw0
      cases hw1
      exact l0 τ ρ  g1 g2 g3 g4 g5 g6
set_option maxRecDepth 100000 in
theorem kg_4 {σ : pm_S} {Q : Option Value → pm_S → Prop} (x0 x1 : Int)  (hB : an_GB pm_B σ) (eF : ((-2147483648) ≤ x0 ∧ x0 ≤ 2147483647) ∧ ((-2147483648) ≤ x1 ∧ x1 ≤ 2147483647) ∧ True)
    (l0 : ∀ (τ : pm_S) (y : Nat → Int), an_GB pm_B τ → FQ [] σ τ → (((-2147483648) ≤ x0 ∧ x0 ≤ 2147483647) ∧ ((-2147483648) ≤ x1 ∧ x1 ≤ 2147483647) ∧ True) → (True) → (True) → (True) → Q (some (.int (Int32.ofInt (x1)))) τ)
    : Ok 143 22 4 [.ref 0, .int (Int32.ofInt (x0))] [.int (Int32.ofInt (x1))] σ Q := by
  refine an_seg (B := pm_B) (F := []) (T := []) (S := []) (fun _ h => absurd h List.not_mem_nil) (k := 143) (d := 21) (cs := []) 3 4 2 [(0, (-2147483648), 2147483647), (1, (-2147483648), 2147483647)] [] [(2, 0, 0), (0, 0, 0)] [(0, 1, 0)] [(9999, [], [(0, 1, 0)], [(0, (-2147483648), 2147483647), (1, (-2147483648), 2147483647)], [], [], [])] (by decide +kernel) (ρ0 := (fun s => [x0, x1].getD s 0)) hB eF trivial ⟨rfl, ⟨rfl, trivial⟩⟩ ⟨rfl, trivial⟩ ?_
  refine List.forall_mem_cons.mpr ⟨?_, fun _ h => absurd h List.not_mem_nil⟩
  · intro ρ τ Lc stc hx g1 g2 g3 g4 g5 g6 g7 g8
    have e0 : ρ 0 = x0 := hx 0 (by decide)
    have e1 : ρ 1 = x1 := hx 1 (by decide)
    subst e0
    subst e1
    match stc, g8 with
    | [_], ⟨h, _⟩ => cases h; exact l0 τ ρ g1 g2 g3 g4 g5 g6
set_option maxRecDepth 100000 in
theorem la_0 {σ : pm_S} {Q : Option Value → pm_S → Prop} (x0 : Int) (v2 : Value) (v3 : Value) (v4 : Value) (v5 : Value) (v6 : Value) (hv2 : v2.category = 1) (hv3 : v3.category = 1) (hv4 : v4.category = 1) (hv5 : v5.category = 1) (hv6 : v6.category = 1) (hB : an_GB pm_B σ) (eF : (0 ≤ x0 ∧ x0 ≤ 1023) ∧ True)
    (l0 : ∀ (τ : pm_S) (y : Nat → Int) (v3 : Value) (v4 : Value) (v5 : Value) (v6 : Value), v3.category = 1 → v4.category = 1 → v5.category = 1 → v6.category = 1 → an_GB pm_B τ → FQ [] σ τ → ((0 ≤ x0 ∧ x0 ≤ 1023) ∧ True) → (True) → (True) → (True) → Ok 216 6 2 [.ref 93, .int (Int32.ofInt (x0)), .int (Int32.ofInt 0), v3, v4, v5, v6] [] τ Q)
    : Ok 216 6 0 [.ref 93, .int (Int32.ofInt (x0)), v2, v3, v4, v5, v6] [] σ Q := by
  refine an_seg (B := pm_B) (F := []) (T := []) (S := []) (fun _ h => absurd h List.not_mem_nil) (k := 216) (d := 5) (cs := [2]) 4 0 1 [(0, 0, 1023)] [] [(2, 93, 0), (0, 0, 0), (5, 0, 0), (5, 0, 0), (5, 0, 0), (5, 0, 0), (5, 0, 0)] [] [(2, [(2, 93, 0), (0, 0, 0), (1, 0, 0), (5, 0, 0), (5, 0, 0), (5, 0, 0), (5, 0, 0)], [], [(0, 0, 1023)], [], [], [])] (by decide +kernel) (ρ0 := (fun s => [x0].getD s 0)) hB eF trivial ⟨rfl, ⟨rfl, ⟨hv2, ⟨hv3, ⟨hv4, ⟨hv5, ⟨hv6, trivial⟩⟩⟩⟩⟩⟩⟩ trivial ?_
  refine List.forall_mem_cons.mpr ⟨?_, fun _ h => absurd h List.not_mem_nil⟩
  · intro ρ τ Lc stc hx g1 g2 g3 g4 g5 g6 g7 g8
    have e0 : ρ 0 = x0 := hx 0 (by decide)
    subst e0
    have g7 := g7 (by decide)
    match Lc, stc, g7, g8 with
    | [v0, v1, v2, v3, v4, v5, v6], [], ⟨hv0, hv1, hv2, hv3, hv4, hv5, hv6, _⟩, _ =>
      cases hv0
      cases hv1
      cases hv2
      exact l0 τ ρ v3 v4 v5 v6 hv3 hv4 hv5 hv6 g1 g2 g3 g4 g5 g6
set_option maxRecDepth 100000 in
theorem la_2 {σ : pm_S} {Q : Option Value → pm_S → Prop} (x0 x1 x2 : Int) (v3 : Value) (v4 : Value) (v5 : Value) (v6 : Value) (hv3 : v3.category = 1) (hv4 : v4.category = 1) (hv5 : v5.category = 1) (hv6 : v6.category = 1) (hB : an_GB pm_B σ) (eF : (0 ≤ x0 ∧ x0 ≤ 1023) ∧ (0 ≤ x1 ∧ x1 ≤ 10) ∧ (0 ≤ x2 ∧ x2 ≤ 10) ∧ True) (eC : (σ.1 93 55).toInt = x2 ∧ True)
    (l0 : ∀ (τ : pm_S) (y : Nat → Int) (v3 : Value) (v4 : Value) (v5 : Value) (v6 : Value), v3.category = 1 → v4.category = 1 → v5.category = 1 → v6.category = 1 → an_GB pm_B τ → FQ [] σ τ → ((0 ≤ x0 ∧ x0 ≤ 1023) ∧ (0 ≤ x1 ∧ x1 ≤ 10) ∧ (0 ≤ x2 ∧ x2 ≤ 10) ∧ True) → (True) → (True) → ((τ.1 93 55).toInt = x2 ∧ True) → Ok 216 6 5 [.ref 93, .int (Int32.ofInt (x0)), .int (Int32.ofInt (x1)), v3, v4, v5, v6] [.int (Int32.ofInt (x2)), .int (Int32.ofInt (x1))] τ Q)
    : Ok 216 6 2 [.ref 93, .int (Int32.ofInt (x0)), .int (Int32.ofInt (x1)), v3, v4, v5, v6] [] σ Q := by
  refine an_seg (B := pm_B) (F := []) (T := []) (S := []) (fun _ h => absurd h List.not_mem_nil) (k := 216) (d := 5) (cs := [5]) 5 2 3 [(0, 0, 1023), (1, 0, 10), (2, 0, 10)] [(93, (1, 0, 55), (0, 2, 0))] [(2, 93, 0), (0, 0, 0), (0, 1, 0), (5, 0, 0), (5, 0, 0), (5, 0, 0), (5, 0, 0)] [] [(5, [(2, 93, 0), (0, 0, 0), (0, 1, 0), (5, 0, 0), (5, 0, 0), (5, 0, 0), (5, 0, 0)], [(0, 2, 0), (0, 1, 0)], [(0, 0, 1023), (1, 0, 10), (2, 0, 10)], [], [], [(93, (1, 0, 55), (0, 2, 0))])] (by decide +kernel) (ρ0 := (fun s => [x0, x1, x2].getD s 0)) hB eF eC ⟨rfl, ⟨rfl, ⟨rfl, ⟨hv3, ⟨hv4, ⟨hv5, ⟨hv6, trivial⟩⟩⟩⟩⟩⟩⟩ trivial ?_
  refine List.forall_mem_cons.mpr ⟨?_, fun _ h => absurd h List.not_mem_nil⟩
  · intro ρ τ Lc stc hx g1 g2 g3 g4 g5 g6 g7 g8
    have e0 : ρ 0 = x0 := hx 0 (by decide)
    have e1 : ρ 1 = x1 := hx 1 (by decide)
    have e2 : ρ 2 = x2 := hx 2 (by decide)
    subst e0
    subst e1
    subst e2
    have g7 := g7 (by decide)
    match Lc, stc, g7, g8 with
    | [v0, v1, v2, v3, v4, v5, v6], [w0, w1], ⟨hv0, hv1, hv2, hv3, hv4, hv5, hv6, _⟩, ⟨hw0, hw1, _⟩ =>
      cases hv0
      cases hv1
      cases hv2
      cases hw0
      cases hw1
      exact l0 τ ρ v3 v4 v5 v6 hv3 hv4 hv5 hv6 g1 g2 g3 g4 g5 g6
set_option maxRecDepth 100000 in
theorem la_6 {σ : pm_S} {Q : Option Value → pm_S → Prop} (x0 x1 : Int) (v3 : Value) (v4 : Value) (v5 : Value) (v6 : Value) (hv3 : v3.category = 1) (hv4 : v4.category = 1) (hv5 : v5.category = 1) (hv6 : v6.category = 1) (hB : an_GB pm_B σ) (eF : (0 ≤ x0 ∧ x0 ≤ 1023) ∧ (0 ≤ x1 ∧ x1 ≤ 9) ∧ True)
    (l0 : ∀ (τ : pm_S) (y : Nat → Int) (v4 : Value) (v5 : Value) (v6 : Value), v4.category = 1 → v5.category = 1 → v6.category = 1 → an_GB pm_B τ → FQ [] σ τ → ((0 ≤ x0 ∧ x0 ≤ 1023) ∧ (0 ≤ x1 ∧ x1 ≤ 9) ∧ True) → (True) → (True) → (True) → Ok 216 6 8 [.ref 93, .int (Int32.ofInt (x0)), .int (Int32.ofInt (x1)), .int (Int32.ofInt 0), v4, v5, v6] [] τ Q)
    : Ok 216 6 6 [.ref 93, .int (Int32.ofInt (x0)), .int (Int32.ofInt (x1)), v3, v4, v5, v6] [] σ Q := by
  refine an_seg (B := pm_B) (F := []) (T := []) (S := []) (fun _ h => absurd h List.not_mem_nil) (k := 216) (d := 5) (cs := [8]) 4 6 2 [(0, 0, 1023), (1, 0, 9)] [] [(2, 93, 0), (0, 0, 0), (0, 1, 0), (5, 0, 0), (5, 0, 0), (5, 0, 0), (5, 0, 0)] [] [(8, [(2, 93, 0), (0, 0, 0), (0, 1, 0), (1, 0, 0), (5, 0, 0), (5, 0, 0), (5, 0, 0)], [], [(0, 0, 1023), (1, 0, 9)], [], [], [])] (by decide +kernel) (ρ0 := (fun s => [x0, x1].getD s 0)) hB eF trivial ⟨rfl, ⟨rfl, ⟨rfl, ⟨hv3, ⟨hv4, ⟨hv5, ⟨hv6, trivial⟩⟩⟩⟩⟩⟩⟩ trivial ?_
  refine List.forall_mem_cons.mpr ⟨?_, fun _ h => absurd h List.not_mem_nil⟩
  · intro ρ τ Lc stc hx g1 g2 g3 g4 g5 g6 g7 g8
    have e0 : ρ 0 = x0 := hx 0 (by decide)
    have e1 : ρ 1 = x1 := hx 1 (by decide)
    subst e0
    subst e1
    have g7 := g7 (by decide)
    match Lc, stc, g7, g8 with
    | [v0, v1, v2, v3, v4, v5, v6], [], ⟨hv0, hv1, hv2, hv3, hv4, hv5, hv6, _⟩, _ =>
      cases hv0
      cases hv1
      cases hv2
      cases hv3
      exact l0 τ ρ v4 v5 v6 hv4 hv5 hv6 g1 g2 g3 g4 g5 g6
set_option maxRecDepth 100000 in
theorem la_8 {σ : pm_S} {Q : Option Value → pm_S → Prop} (x0 x1 x2 : Int) (v4 : Value) (v5 : Value) (v6 : Value) (hv4 : v4.category = 1) (hv5 : v5.category = 1) (hv6 : v6.category = 1) (hB : an_GB pm_B σ) (eF : (0 ≤ x0 ∧ x0 ≤ 1023) ∧ (0 ≤ x1 ∧ x1 ≤ 9) ∧ (0 ≤ x2 ∧ x2 ≤ 9) ∧ True)
    (l0 : ∀ (τ : pm_S) (y : Nat → Int) (v4 : Value) (v5 : Value) (v6 : Value), v4.category = 1 → v5.category = 1 → v6.category = 1 → an_GB pm_B τ → FQ [] σ τ → ((0 ≤ x0 ∧ x0 ≤ 1023) ∧ (0 ≤ x1 ∧ x1 ≤ 9) ∧ (0 ≤ x2 ∧ x2 ≤ 9) ∧ True) → (True) → (True) → (True) → Ok 216 6 10 [.ref 93, .int (Int32.ofInt (x0)), .int (Int32.ofInt (x1)), .int (Int32.ofInt (x2)), v4, v5, v6] [.int (Int32.ofInt (x1)), .int (Int32.ofInt (x2))] τ Q)
    : Ok 216 6 8 [.ref 93, .int (Int32.ofInt (x0)), .int (Int32.ofInt (x1)), .int (Int32.ofInt (x2)), v4, v5, v6] [] σ Q := by
  refine an_seg (B := pm_B) (F := []) (T := []) (S := []) (fun _ h => absurd h List.not_mem_nil) (k := 216) (d := 5) (cs := [10]) 4 8 3 [(0, 0, 1023), (1, 0, 9), (2, 0, 9)] [] [(2, 93, 0), (0, 0, 0), (0, 1, 0), (0, 2, 0), (5, 0, 0), (5, 0, 0), (5, 0, 0)] [] [(10, [(2, 93, 0), (0, 0, 0), (0, 1, 0), (0, 2, 0), (5, 0, 0), (5, 0, 0), (5, 0, 0)], [(0, 1, 0), (0, 2, 0)], [(0, 0, 1023), (1, 0, 9), (2, 0, 9)], [], [], [])] (by decide +kernel) (ρ0 := (fun s => [x0, x1, x2].getD s 0)) hB eF trivial ⟨rfl, ⟨rfl, ⟨rfl, ⟨rfl, ⟨hv4, ⟨hv5, ⟨hv6, trivial⟩⟩⟩⟩⟩⟩⟩ trivial ?_
  refine List.forall_mem_cons.mpr ⟨?_, fun _ h => absurd h List.not_mem_nil⟩
  · intro ρ τ Lc stc hx g1 g2 g3 g4 g5 g6 g7 g8
    have e0 : ρ 0 = x0 := hx 0 (by decide)
    have e1 : ρ 1 = x1 := hx 1 (by decide)
    have e2 : ρ 2 = x2 := hx 2 (by decide)
    subst e0
    subst e1
    subst e2
    have g7 := g7 (by decide)
    match Lc, stc, g7, g8 with
    | [v0, v1, v2, v3, v4, v5, v6], [w0, w1], ⟨hv0, hv1, hv2, hv3, hv4, hv5, hv6, _⟩, ⟨hw0, hw1, _⟩ =>
      cases hv0
      cases hv1
      cases hv2
      cases hv3
      cases hw0
      cases hw1
      exact l0 τ ρ v4 v5 v6 hv4 hv5 hv6 g1 g2 g3 g4 g5 g6
set_option maxRecDepth 100000 in
theorem la_11 {σ : pm_S} {Q : Option Value → pm_S → Prop} (x0 x1 x2 : Int) (v4 : Value) (v5 : Value) (v6 : Value) (hv4 : v4.category = 1) (hv5 : v5.category = 1) (hv6 : v6.category = 1) (hB : an_GB pm_B σ) (eF : (0 ≤ x0 ∧ x0 ≤ 1023) ∧ (0 ≤ x1 ∧ x1 ≤ 9) ∧ (0 ≤ x2 ∧ x2 ≤ 9) ∧ True)
    (l0 : ∀ (τ : pm_S) (y : Nat → Int) (v4 : Value) (v5 : Value) (v6 : Value), v4.category = 1 → v5.category = 1 → v6.category = 1 → an_GB pm_B τ → FQ [] σ τ → ((0 ≤ x0 ∧ x0 ≤ 1023) ∧ (0 ≤ x1 ∧ x1 ≤ 9) ∧ (0 ≤ x2 ∧ x2 ≤ 9) ∧ (0 ≤ y 3 ∧ y 3 ≤ 1023) ∧ (0 ≤ y 4 ∧ y 4 ≤ 0) ∧ True) → (y 4 ≤ y 3 + 0 ∧ True) → ((an_f 7 (Int32.ofInt (x0)) (Int32.ofInt (x1))).toInt = y 3 ∧ (an_f 3 (Int32.ofInt (y 3)) (Int32.ofInt (1))).toInt = y 4 ∧ True) → (True) → Ok 216 6 87 [.ref 93, .int (Int32.ofInt (x0)), .int (Int32.ofInt (x1)), .int (Int32.ofInt (x2)), v4, v5, v6] [] τ Q)
    (l1 : ∀ (τ : pm_S) (y : Nat → Int) (v4 : Value) (v5 : Value) (v6 : Value), v4.category = 1 → v5.category = 1 → v6.category = 1 → an_GB pm_B τ → FQ [] σ τ → ((0 ≤ x0 ∧ x0 ≤ 1023) ∧ (0 ≤ x1 ∧ x1 ≤ 9) ∧ (0 ≤ x2 ∧ x2 ≤ 9) ∧ (0 ≤ y 3 ∧ y 3 ≤ 1023) ∧ (1 ≤ y 4 ∧ y 4 ≤ 1) ∧ (0 ≤ y 5 ∧ y 5 ≤ 1023) ∧ (1 ≤ y 6 ∧ y 6 ≤ 1) ∧ True) → (y 6 ≤ y 5 + 0 ∧ y 4 ≤ y 3 + 0 ∧ True) → ((an_f 7 (Int32.ofInt (x0)) (Int32.ofInt (x1))).toInt = y 3 ∧ (an_f 3 (Int32.ofInt (y 3)) (Int32.ofInt (1))).toInt = y 4 ∧ (an_f 7 (Int32.ofInt (x0)) (Int32.ofInt (x2))).toInt = y 5 ∧ (an_f 3 (Int32.ofInt (y 5)) (Int32.ofInt (1))).toInt = y 6 ∧ True) → (True) → Ok 216 6 24 [.ref 93, .int (Int32.ofInt (x0)), .int (Int32.ofInt (x1)), .int (Int32.ofInt (x2)), v4, v5, v6] [] τ Q)
    (l2 : ∀ (τ : pm_S) (y : Nat → Int) (v4 : Value) (v5 : Value) (v6 : Value), v4.category = 1 → v5.category = 1 → v6.category = 1 → an_GB pm_B τ → FQ [] σ τ → ((0 ≤ x0 ∧ x0 ≤ 1023) ∧ (0 ≤ x1 ∧ x1 ≤ 9) ∧ (0 ≤ x2 ∧ x2 ≤ 9) ∧ (0 ≤ y 3 ∧ y 3 ≤ 1023) ∧ (1 ≤ y 4 ∧ y 4 ≤ 1) ∧ (0 ≤ y 5 ∧ y 5 ≤ 1023) ∧ (0 ≤ y 6 ∧ y 6 ≤ 0) ∧ True) → (y 6 ≤ y 5 + 0 ∧ y 4 ≤ y 3 + 0 ∧ True) → ((an_f 7 (Int32.ofInt (x0)) (Int32.ofInt (x1))).toInt = y 3 ∧ (an_f 3 (Int32.ofInt (y 3)) (Int32.ofInt (1))).toInt = y 4 ∧ (an_f 7 (Int32.ofInt (x0)) (Int32.ofInt (x2))).toInt = y 5 ∧ (an_f 3 (Int32.ofInt (y 5)) (Int32.ofInt (1))).toInt = y 6 ∧ True) → (True) → Ok 216 6 87 [.ref 93, .int (Int32.ofInt (x0)), .int (Int32.ofInt (x1)), .int (Int32.ofInt (x2)), v4, v5, v6] [] τ Q)
    : Ok 216 6 11 [.ref 93, .int (Int32.ofInt (x0)), .int (Int32.ofInt (x1)), .int (Int32.ofInt (x2)), v4, v5, v6] [] σ Q := by
  refine an_seg (B := pm_B) (F := []) (T := []) (S := []) (fun _ h => absurd h List.not_mem_nil) (k := 216) (d := 5) (cs := [24, 87]) 15 11 3 [(0, 0, 1023), (1, 0, 9), (2, 0, 9)] [] [(2, 93, 0), (0, 0, 0), (0, 1, 0), (0, 2, 0), (5, 0, 0), (5, 0, 0), (5, 0, 0)] [] [(87, [(2, 93, 0), (0, 0, 0), (0, 1, 0), (0, 2, 0), (5, 0, 0), (5, 0, 0), (5, 0, 0)], [], [(0, 0, 1023), (1, 0, 9), (2, 0, 9), (3, 0, 1023), (4, 0, 0)], [(1, 4, 3, 0)], [(7, (0, 0, 0), (0, 1, 0), 3), (3, (0, 3, 0), (1, 0, 1), 4)], []),
    (24, [(2, 93, 0), (0, 0, 0), (0, 1, 0), (0, 2, 0), (5, 0, 0), (5, 0, 0), (5, 0, 0)], [], [(0, 0, 1023), (1, 0, 9), (2, 0, 9), (3, 0, 1023), (4, 1, 1), (5, 0, 1023), (6, 1, 1)], [(1, 6, 5, 0), (1, 4, 3, 0)], [(7, (0, 0, 0), (0, 1, 0), 3), (3, (0, 3, 0), (1, 0, 1), 4), (7, (0, 0, 0), (0, 2, 0), 5), (3, (0, 5, 0), (1, 0, 1), 6)], []),
    (87, [(2, 93, 0), (0, 0, 0), (0, 1, 0), (0, 2, 0), (5, 0, 0), (5, 0, 0), (5, 0, 0)], [], [(0, 0, 1023), (1, 0, 9), (2, 0, 9), (3, 0, 1023), (4, 1, 1), (5, 0, 1023), (6, 0, 0)], [(1, 6, 5, 0), (1, 4, 3, 0)], [(7, (0, 0, 0), (0, 1, 0), 3), (3, (0, 3, 0), (1, 0, 1), 4), (7, (0, 0, 0), (0, 2, 0), 5), (3, (0, 5, 0), (1, 0, 1), 6)], [])] (by decide +kernel) (ρ0 := (fun s => [x0, x1, x2].getD s 0)) hB eF trivial ⟨rfl, ⟨rfl, ⟨rfl, ⟨rfl, ⟨hv4, ⟨hv5, ⟨hv6, trivial⟩⟩⟩⟩⟩⟩⟩ trivial ?_
  refine List.forall_mem_cons.mpr ⟨?_, List.forall_mem_cons.mpr ⟨?_, List.forall_mem_cons.mpr ⟨?_, fun _ h => absurd h List.not_mem_nil⟩⟩⟩
  · intro ρ τ Lc stc hx g1 g2 g3 g4 g5 g6 g7 g8
    have e0 : ρ 0 = x0 := hx 0 (by decide)
    have e1 : ρ 1 = x1 := hx 1 (by decide)
    have e2 : ρ 2 = x2 := hx 2 (by decide)
    subst e0
    subst e1
    subst e2
    have g7 := g7 (by decide)
    match Lc, stc, g7, g8 with
    | [v0, v1, v2, v3, v4, v5, v6], [], ⟨hv0, hv1, hv2, hv3, hv4, hv5, hv6, _⟩, _ =>
      cases hv0
      cases hv1
      cases hv2
      cases hv3
      exact l0 τ ρ v4 v5 v6 hv4 hv5 hv6 g1 g2 g3 g4 g5 g6
  · intro ρ τ Lc stc hx g1 g2 g3 g4 g5 g6 g7 g8
    have e0 : ρ 0 = x0 := hx 0 (by decide)
    have e1 : ρ 1 = x1 := hx 1 (by decide)
    have e2 : ρ 2 = x2 := hx 2 (by decide)
    subst e0
    subst e1
    subst e2
    have g7 := g7 (by decide)
    match Lc, stc, g7, g8 with
    | [v0, v1, v2, v3, v4, v5, v6], [], ⟨hv0, hv1, hv2, hv3, hv4, hv5, hv6, _⟩, _ =>
      cases hv0
      cases hv1
      cases hv2
      cases hv3
      exact l1 τ ρ v4 v5 v6 hv4 hv5 hv6 g1 g2 g3 g4 g5 g6
  · intro ρ τ Lc stc hx g1 g2 g3 g4 g5 g6 g7 g8
    have e0 : ρ 0 = x0 := hx 0 (by decide)
    have e1 : ρ 1 = x1 := hx 1 (by decide)
    have e2 : ρ 2 = x2 := hx 2 (by decide)
    subst e0
    subst e1
    subst e2
    have g7 := g7 (by decide)
    match Lc, stc, g7, g8 with
    | [v0, v1, v2, v3, v4, v5, v6], [], ⟨hv0, hv1, hv2, hv3, hv4, hv5, hv6, _⟩, _ =>
      cases hv0
      cases hv1
      cases hv2
      cases hv3
      exact l2 τ ρ v4 v5 v6 hv4 hv5 hv6 g1 g2 g3 g4 g5 g6
set_option maxRecDepth 100000 in
theorem la_24 {σ : pm_S} {Q : Option Value → pm_S → Prop} (x0 x1 x2 x3 x4 x5 x6 : Int) (v4 : Value) (v5 : Value) (v6 : Value) (hv4 : v4.category = 1) (hv5 : v5.category = 1) (hv6 : v6.category = 1) (hB : an_GB pm_B σ) (eF : (0 ≤ x0 ∧ x0 ≤ 1023) ∧ (0 ≤ x1 ∧ x1 ≤ 9) ∧ (0 ≤ x2 ∧ x2 ≤ 9) ∧ (0 ≤ x3 ∧ x3 ≤ 29) ∧ (0 ≤ x4 ∧ x4 ≤ 29) ∧ (0 ≤ x5 ∧ x5 ≤ 9) ∧ (0 ≤ x6 ∧ x6 ≤ 9) ∧ True) (eC : (σ.1 125 (x1).toNat).toInt = x3 ∧ (σ.1 125 (x2).toNat).toInt = x4 ∧ (σ.1 101 (x3).toNat).toInt = x5 ∧ (σ.1 101 (x4).toNat).toInt = x6 ∧ True)
    (l0 : ∀ (τ : pm_S) (y : Nat → Int) (v6 : Value), v6.category = 1 → an_GB pm_B τ → FQ [] σ τ → ((0 ≤ x0 ∧ x0 ≤ 1023) ∧ (0 ≤ x1 ∧ x1 ≤ 9) ∧ (0 ≤ x2 ∧ x2 ≤ 9) ∧ (0 ≤ x3 ∧ x3 ≤ 29) ∧ (0 ≤ x4 ∧ x4 ≤ 29) ∧ (0 ≤ x5 ∧ x5 ≤ 9) ∧ (0 ≤ x6 ∧ x6 ≤ 9) ∧ True) → (True) → (True) → ((τ.1 101 (x3).toNat).toInt = x5 ∧ (τ.1 101 (x4).toNat).toInt = x6 ∧ (τ.1 125 (x1).toNat).toInt = x3 ∧ (τ.1 125 (x2).toNat).toInt = x4 ∧ True) → Ok 216 6 42 [.ref 93, .int (Int32.ofInt (x0)), .int (Int32.ofInt (x1)), .int (Int32.ofInt (x2)), .int (Int32.ofInt (x3)), .int (Int32.ofInt (x4)), v6] [.int (Int32.ofInt (x6)), .int (Int32.ofInt (x5))] τ Q)
    : Ok 216 6 24 [.ref 93, .int (Int32.ofInt (x0)), .int (Int32.ofInt (x1)), .int (Int32.ofInt (x2)), v4, v5, v6] [] σ Q := by
  refine an_seg (B := pm_B) (F := []) (T := [125, 101]) (S := []) (fun _ h => absurd h List.not_mem_nil) (k := 216) (d := 5) (cs := [42]) 20 24 7 [(0, 0, 1023), (1, 0, 9), (2, 0, 9), (3, 0, 29), (4, 0, 29), (5, 0, 9), (6, 0, 9)] [(125, (0, 1, 0), (0, 3, 0)), (125, (0, 2, 0), (0, 4, 0)), (101, (0, 3, 0), (0, 5, 0)), (101, (0, 4, 0), (0, 6, 0))] [(2, 93, 0), (0, 0, 0), (0, 1, 0), (0, 2, 0), (5, 0, 0), (5, 0, 0), (5, 0, 0)] [] [(42, [(2, 93, 0), (0, 0, 0), (0, 1, 0), (0, 2, 0), (0, 3, 0), (0, 4, 0), (5, 0, 0)], [(0, 6, 0), (0, 5, 0)], [(0, 0, 1023), (1, 0, 9), (2, 0, 9), (3, 0, 29), (4, 0, 29), (5, 0, 9), (6, 0, 9)], [], [], [(101, (0, 3, 0), (0, 5, 0)), (101, (0, 4, 0), (0, 6, 0)), (125, (0, 1, 0), (0, 3, 0)), (125, (0, 2, 0), (0, 4, 0))])] (by decide +kernel) (ρ0 := (fun s => [x0, x1, x2, x3, x4, x5, x6].getD s 0)) hB eF eC ⟨rfl, ⟨rfl, ⟨rfl, ⟨rfl, ⟨hv4, ⟨hv5, ⟨hv6, trivial⟩⟩⟩⟩⟩⟩⟩ trivial ?_
  refine List.forall_mem_cons.mpr ⟨?_, fun _ h => absurd h List.not_mem_nil⟩
  · intro ρ τ Lc stc hx g1 g2 g3 g4 g5 g6 g7 g8
    have e0 : ρ 0 = x0 := hx 0 (by decide)
    have e1 : ρ 1 = x1 := hx 1 (by decide)
    have e2 : ρ 2 = x2 := hx 2 (by decide)
    have e3 : ρ 3 = x3 := hx 3 (by decide)
    have e4 : ρ 4 = x4 := hx 4 (by decide)
    have e5 : ρ 5 = x5 := hx 5 (by decide)
    have e6 : ρ 6 = x6 := hx 6 (by decide)
    subst e0
    subst e1
    subst e2
    subst e3
    subst e4
    subst e5
    subst e6
    have g7 := g7 (by decide)
    match Lc, stc, g7, g8 with
    | [v0, v1, v2, v3, v4, v5, v6], [w0, w1], ⟨hv0, hv1, hv2, hv3, hv4, hv5, hv6, _⟩, ⟨hw0, hw1, _⟩ =>
      cases hv0
      cases hv1
      cases hv2
      cases hv3
      cases hv4
      cases hv5
      cases hw0
      cases hw1
      exact l0 τ ρ v6 hv6 g1 g2 g3 g4 g5 g6
set_option maxRecDepth 100000 in
theorem la_43 {σ : pm_S} {Q : Option Value → pm_S → Prop} (x0 x1 x2 x3 x4 x5 x6 : Int) (v6 : Value) (hv6 : v6.category = 1) (hB : an_GB pm_B σ) (eF : (0 ≤ x0 ∧ x0 ≤ 1023) ∧ (0 ≤ x1 ∧ x1 ≤ 9) ∧ (0 ≤ x2 ∧ x2 ≤ 9) ∧ (0 ≤ x3 ∧ x3 ≤ 29) ∧ (0 ≤ x4 ∧ x4 ≤ 29) ∧ (0 ≤ x5 ∧ x5 ≤ 9) ∧ (0 ≤ x6 ∧ x6 ≤ 9) ∧ True) (eC : (σ.1 101 (x3).toNat).toInt = x5 ∧ (σ.1 102 (x4).toNat).toInt = x6 ∧ True)
    (l0 : ∀ (τ : pm_S) (y : Nat → Int) (v6 : Value), v6.category = 1 → an_GB pm_B τ → FQ [] σ τ → ((0 ≤ x0 ∧ x0 ≤ 1023) ∧ (0 ≤ x1 ∧ x1 ≤ 9) ∧ (0 ≤ x2 ∧ x2 ≤ 9) ∧ (0 ≤ x3 ∧ x3 ≤ 29) ∧ (0 ≤ x4 ∧ x4 ≤ 29) ∧ (0 ≤ x5 ∧ x5 ≤ 9) ∧ (0 ≤ x6 ∧ x6 ≤ 9) ∧ True) → (True) → (True) → ((τ.1 101 (x3).toNat).toInt = x5 ∧ (τ.1 102 (x4).toNat).toInt = x6 ∧ True) → Ok 216 6 51 [.ref 93, .int (Int32.ofInt (x0)), .int (Int32.ofInt (x1)), .int (Int32.ofInt (x2)), .int (Int32.ofInt (x3)), .int (Int32.ofInt (x4)), v6] [.int (Int32.ofInt (x6)), .int (Int32.ofInt (x5))] τ Q)
    : Ok 216 6 43 [.ref 93, .int (Int32.ofInt (x0)), .int (Int32.ofInt (x1)), .int (Int32.ofInt (x2)), .int (Int32.ofInt (x3)), .int (Int32.ofInt (x4)), v6] [] σ Q := by
  refine an_seg (B := pm_B) (F := []) (T := [101, 102]) (S := []) (fun _ h => absurd h List.not_mem_nil) (k := 216) (d := 5) (cs := [51]) 10 43 7 [(0, 0, 1023), (1, 0, 9), (2, 0, 9), (3, 0, 29), (4, 0, 29), (5, 0, 9), (6, 0, 9)] [(101, (0, 3, 0), (0, 5, 0)), (102, (0, 4, 0), (0, 6, 0))] [(2, 93, 0), (0, 0, 0), (0, 1, 0), (0, 2, 0), (0, 3, 0), (0, 4, 0), (5, 0, 0)] [] [(51, [(2, 93, 0), (0, 0, 0), (0, 1, 0), (0, 2, 0), (0, 3, 0), (0, 4, 0), (5, 0, 0)], [(0, 6, 0), (0, 5, 0)], [(0, 0, 1023), (1, 0, 9), (2, 0, 9), (3, 0, 29), (4, 0, 29), (5, 0, 9), (6, 0, 9)], [], [], [(101, (0, 3, 0), (0, 5, 0)), (102, (0, 4, 0), (0, 6, 0))])] (by decide +kernel) (ρ0 := (fun s => [x0, x1, x2, x3, x4, x5, x6].getD s 0)) hB eF eC ⟨rfl, ⟨rfl, ⟨rfl, ⟨rfl, ⟨rfl, ⟨rfl, ⟨hv6, trivial⟩⟩⟩⟩⟩⟩⟩ trivial ?_
  refine List.forall_mem_cons.mpr ⟨?_, fun _ h => absurd h List.not_mem_nil⟩
  · intro ρ τ Lc stc hx g1 g2 g3 g4 g5 g6 g7 g8
    have e0 : ρ 0 = x0 := hx 0 (by decide)
    have e1 : ρ 1 = x1 := hx 1 (by decide)
    have e2 : ρ 2 = x2 := hx 2 (by decide)
    have e3 : ρ 3 = x3 := hx 3 (by decide)
    have e4 : ρ 4 = x4 := hx 4 (by decide)
    have e5 : ρ 5 = x5 := hx 5 (by decide)
    have e6 : ρ 6 = x6 := hx 6 (by decide)
    subst e0
    subst e1
    subst e2
    subst e3
    subst e4
    subst e5
    subst e6
    have g7 := g7 (by decide)
    match Lc, stc, g7, g8 with
    | [v0, v1, v2, v3, v4, v5, v6], [w0, w1], ⟨hv0, hv1, hv2, hv3, hv4, hv5, hv6, _⟩, ⟨hw0, hw1, _⟩ =>
      cases hv0
      cases hv1
      cases hv2
      cases hv3
      cases hv4
      cases hv5
      cases hw0
      cases hw1
      exact l0 τ ρ v6 hv6 g1 g2 g3 g4 g5 g6
set_option maxRecDepth 100000 in
theorem la_52 {σ : pm_S} {Q : Option Value → pm_S → Prop} (x0 x1 x2 x3 x4 x5 x6 : Int) (v6 : Value) (hv6 : v6.category = 1) (hB : an_GB pm_B σ) (eF : (0 ≤ x0 ∧ x0 ≤ 1023) ∧ (0 ≤ x1 ∧ x1 ≤ 9) ∧ (0 ≤ x2 ∧ x2 ≤ 9) ∧ (0 ≤ x3 ∧ x3 ≤ 29) ∧ (0 ≤ x4 ∧ x4 ≤ 29) ∧ (0 ≤ x5 ∧ x5 ≤ 9) ∧ (0 ≤ x6 ∧ x6 ≤ 9) ∧ True) (eC : (σ.1 102 (x3).toNat).toInt = x5 ∧ (σ.1 101 (x4).toNat).toInt = x6 ∧ True)
    (l0 : ∀ (τ : pm_S) (y : Nat → Int) (v6 : Value), v6.category = 1 → an_GB pm_B τ → FQ [] σ τ → ((0 ≤ x0 ∧ x0 ≤ 1023) ∧ (0 ≤ x1 ∧ x1 ≤ 9) ∧ (0 ≤ x2 ∧ x2 ≤ 9) ∧ (0 ≤ x3 ∧ x3 ≤ 29) ∧ (0 ≤ x4 ∧ x4 ≤ 29) ∧ (0 ≤ x5 ∧ x5 ≤ 9) ∧ (0 ≤ x6 ∧ x6 ≤ 9) ∧ True) → (True) → (True) → ((τ.1 101 (x4).toNat).toInt = x6 ∧ (τ.1 102 (x3).toNat).toInt = x5 ∧ True) → Ok 216 6 60 [.ref 93, .int (Int32.ofInt (x0)), .int (Int32.ofInt (x1)), .int (Int32.ofInt (x2)), .int (Int32.ofInt (x3)), .int (Int32.ofInt (x4)), v6] [.int (Int32.ofInt (x6)), .int (Int32.ofInt (x5))] τ Q)
    : Ok 216 6 52 [.ref 93, .int (Int32.ofInt (x0)), .int (Int32.ofInt (x1)), .int (Int32.ofInt (x2)), .int (Int32.ofInt (x3)), .int (Int32.ofInt (x4)), v6] [] σ Q := by
  refine an_seg (B := pm_B) (F := []) (T := [101, 102]) (S := []) (fun _ h => absurd h List.not_mem_nil) (k := 216) (d := 5) (cs := [60]) 10 52 7 [(0, 0, 1023), (1, 0, 9), (2, 0, 9), (3, 0, 29), (4, 0, 29), (5, 0, 9), (6, 0, 9)] [(102, (0, 3, 0), (0, 5, 0)), (101, (0, 4, 0), (0, 6, 0))] [(2, 93, 0), (0, 0, 0), (0, 1, 0), (0, 2, 0), (0, 3, 0), (0, 4, 0), (5, 0, 0)] [] [(60, [(2, 93, 0), (0, 0, 0), (0, 1, 0), (0, 2, 0), (0, 3, 0), (0, 4, 0), (5, 0, 0)], [(0, 6, 0), (0, 5, 0)], [(0, 0, 1023), (1, 0, 9), (2, 0, 9), (3, 0, 29), (4, 0, 29), (5, 0, 9), (6, 0, 9)], [], [], [(101, (0, 4, 0), (0, 6, 0)), (102, (0, 3, 0), (0, 5, 0))])] (by decide +kernel) (ρ0 := (fun s => [x0, x1, x2, x3, x4, x5, x6].getD s 0)) hB eF eC ⟨rfl, ⟨rfl, ⟨rfl, ⟨rfl, ⟨rfl, ⟨rfl, ⟨hv6, trivial⟩⟩⟩⟩⟩⟩⟩ trivial ?_
  refine List.forall_mem_cons.mpr ⟨?_, fun _ h => absurd h List.not_mem_nil⟩
  · intro ρ τ Lc stc hx g1 g2 g3 g4 g5 g6 g7 g8
    have e0 : ρ 0 = x0 := hx 0 (by decide)
    have e1 : ρ 1 = x1 := hx 1 (by decide)
    have e2 : ρ 2 = x2 := hx 2 (by decide)
    have e3 : ρ 3 = x3 := hx 3 (by decide)
    have e4 : ρ 4 = x4 := hx 4 (by decide)
    have e5 : ρ 5 = x5 := hx 5 (by decide)
    have e6 : ρ 6 = x6 := hx 6 (by decide)
    subst e0
    subst e1
    subst e2
    subst e3
    subst e4
    subst e5
    subst e6
    have g7 := g7 (by decide)
    match Lc, stc, g7, g8 with
    | [v0, v1, v2, v3, v4, v5, v6], [w0, w1], ⟨hv0, hv1, hv2, hv3, hv4, hv5, hv6, _⟩, ⟨hw0, hw1, _⟩ =>
      cases hv0
      cases hv1
      cases hv2
      cases hv3
      cases hv4
      cases hv5
      cases hw0
      cases hw1
      exact l0 τ ρ v6 hv6 g1 g2 g3 g4 g5 g6
set_option maxRecDepth 100000 in
theorem la_61 {σ : pm_S} {Q : Option Value → pm_S → Prop} (x0 x1 x2 x3 x4 x5 x6 : Int) (v6 : Value) (hv6 : v6.category = 1) (hB : an_GB pm_B σ) (eF : (0 ≤ x0 ∧ x0 ≤ 1023) ∧ (0 ≤ x1 ∧ x1 ≤ 9) ∧ (0 ≤ x2 ∧ x2 ≤ 9) ∧ (0 ≤ x3 ∧ x3 ≤ 29) ∧ (0 ≤ x4 ∧ x4 ≤ 29) ∧ (0 ≤ x5 ∧ x5 ≤ 9) ∧ (0 ≤ x6 ∧ x6 ≤ 9) ∧ True) (eC : (σ.1 102 (x3).toNat).toInt = x5 ∧ (σ.1 102 (x4).toNat).toInt = x6 ∧ True)
    (l0 : ∀ (τ : pm_S) (y : Nat → Int) (v6 : Value), v6.category = 1 → an_GB pm_B τ → FQ [] σ τ → ((0 ≤ x0 ∧ x0 ≤ 1023) ∧ (0 ≤ x1 ∧ x1 ≤ 9) ∧ (0 ≤ x2 ∧ x2 ≤ 9) ∧ (0 ≤ x3 ∧ x3 ≤ 29) ∧ (0 ≤ x4 ∧ x4 ≤ 29) ∧ (0 ≤ x5 ∧ x5 ≤ 9) ∧ (0 ≤ x6 ∧ x6 ≤ 9) ∧ True) → (True) → (True) → ((τ.1 102 (x3).toNat).toInt = x5 ∧ (τ.1 102 (x4).toNat).toInt = x6 ∧ True) → Ok 216 6 69 [.ref 93, .int (Int32.ofInt (x0)), .int (Int32.ofInt (x1)), .int (Int32.ofInt (x2)), .int (Int32.ofInt (x3)), .int (Int32.ofInt (x4)), v6] [.int (Int32.ofInt (x6)), .int (Int32.ofInt (x5))] τ Q)
    : Ok 216 6 61 [.ref 93, .int (Int32.ofInt (x0)), .int (Int32.ofInt (x1)), .int (Int32.ofInt (x2)), .int (Int32.ofInt (x3)), .int (Int32.ofInt (x4)), v6] [] σ Q := by
  refine an_seg (B := pm_B) (F := []) (T := [102]) (S := []) (fun _ h => absurd h List.not_mem_nil) (k := 216) (d := 5) (cs := [69]) 10 61 7 [(0, 0, 1023), (1, 0, 9), (2, 0, 9), (3, 0, 29), (4, 0, 29), (5, 0, 9), (6, 0, 9)] [(102, (0, 3, 0), (0, 5, 0)), (102, (0, 4, 0), (0, 6, 0))] [(2, 93, 0), (0, 0, 0), (0, 1, 0), (0, 2, 0), (0, 3, 0), (0, 4, 0), (5, 0, 0)] [] [(69, [(2, 93, 0), (0, 0, 0), (0, 1, 0), (0, 2, 0), (0, 3, 0), (0, 4, 0), (5, 0, 0)], [(0, 6, 0), (0, 5, 0)], [(0, 0, 1023), (1, 0, 9), (2, 0, 9), (3, 0, 29), (4, 0, 29), (5, 0, 9), (6, 0, 9)], [], [], [(102, (0, 3, 0), (0, 5, 0)), (102, (0, 4, 0), (0, 6, 0))])] (by decide +kernel) (ρ0 := (fun s => [x0, x1, x2, x3, x4, x5, x6].getD s 0)) hB eF eC ⟨rfl, ⟨rfl, ⟨rfl, ⟨rfl, ⟨rfl, ⟨rfl, ⟨hv6, trivial⟩⟩⟩⟩⟩⟩⟩ trivial ?_
  refine List.forall_mem_cons.mpr ⟨?_, fun _ h => absurd h List.not_mem_nil⟩
  · intro ρ τ Lc stc hx g1 g2 g3 g4 g5 g6 g7 g8
    have e0 : ρ 0 = x0 := hx 0 (by decide)
    have e1 : ρ 1 = x1 := hx 1 (by decide)
    have e2 : ρ 2 = x2 := hx 2 (by decide)
    have e3 : ρ 3 = x3 := hx 3 (by decide)
    have e4 : ρ 4 = x4 := hx 4 (by decide)
    have e5 : ρ 5 = x5 := hx 5 (by decide)
    have e6 : ρ 6 = x6 := hx 6 (by decide)
    subst e0
    subst e1
    subst e2
    subst e3
    subst e4
    subst e5
    subst e6
    have g7 := g7 (by decide)
    match Lc, stc, g7, g8 with
    | [v0, v1, v2, v3, v4, v5, v6], [w0, w1], ⟨hv0, hv1, hv2, hv3, hv4, hv5, hv6, _⟩, ⟨hw0, hw1, _⟩ =>
      cases hv0
      cases hv1
      cases hv2
      cases hv3
      cases hv4
      cases hv5
      cases hw0
      cases hw1
      exact l0 τ ρ v6 hv6 g1 g2 g3 g4 g5 g6
set_option maxRecDepth 100000 in
theorem la_70 {σ : pm_S} {Q : Option Value → pm_S → Prop} (x0 x1 x2 x3 x4 x5 x6 : Int) (v6 : Value) (hv6 : v6.category = 1) (hB : an_GB pm_B σ) (eF : (0 ≤ x0 ∧ x0 ≤ 1023) ∧ (0 ≤ x1 ∧ x1 ≤ 9) ∧ (0 ≤ x2 ∧ x2 ≤ 9) ∧ (0 ≤ x3 ∧ x3 ≤ 29) ∧ (0 ≤ x4 ∧ x4 ≤ 29) ∧ (0 ≤ x5 ∧ x5 ≤ 9) ∧ (0 ≤ x6 ∧ x6 ≤ 9) ∧ True) (eC : (σ.1 104 (x3).toNat).toInt = x5 ∧ (σ.1 104 (x4).toNat).toInt = x6 ∧ True)
    (l0 : ∀ (τ : pm_S) (y : Nat → Int), an_GB pm_B τ → FQ [] σ τ → ((0 ≤ x0 ∧ x0 ≤ 1023) ∧ (0 ≤ x1 ∧ x1 ≤ 9) ∧ (0 ≤ x2 ∧ x2 ≤ 9) ∧ (0 ≤ x3 ∧ x3 ≤ 29) ∧ (0 ≤ x4 ∧ x4 ≤ 29) ∧ (0 ≤ x5 ∧ x5 ≤ 9) ∧ (0 ≤ x6 ∧ x6 ≤ 9) ∧ True) → (True) → (True) → ((τ.1 104 (x3).toNat).toInt = x5 ∧ (τ.1 104 (x4).toNat).toInt = x6 ∧ True) → Ok 216 6 84 [.ref 93, .int (Int32.ofInt (x0)), .int (Int32.ofInt (x1)), .int (Int32.ofInt (x2)), .int (Int32.ofInt (x3)), .int (Int32.ofInt (x4)), .int (Int32.ofInt 1)] [.int (Int32.ofInt (x6)), .int (Int32.ofInt (x5))] τ Q)
    : Ok 216 6 70 [.ref 93, .int (Int32.ofInt (x0)), .int (Int32.ofInt (x1)), .int (Int32.ofInt (x2)), .int (Int32.ofInt (x3)), .int (Int32.ofInt (x4)), v6] [] σ Q := by
  refine an_seg (B := pm_B) (F := []) (T := [104]) (S := []) (fun _ h => absurd h List.not_mem_nil) (k := 216) (d := 5) (cs := [84]) 15 70 7 [(0, 0, 1023), (1, 0, 9), (2, 0, 9), (3, 0, 29), (4, 0, 29), (5, 0, 9), (6, 0, 9)] [(104, (0, 3, 0), (0, 5, 0)), (104, (0, 4, 0), (0, 6, 0))] [(2, 93, 0), (0, 0, 0), (0, 1, 0), (0, 2, 0), (0, 3, 0), (0, 4, 0), (5, 0, 0)] [] [(84, [(2, 93, 0), (0, 0, 0), (0, 1, 0), (0, 2, 0), (0, 3, 0), (0, 4, 0), (1, 0, 1)], [(0, 6, 0), (0, 5, 0)], [(0, 0, 1023), (1, 0, 9), (2, 0, 9), (3, 0, 29), (4, 0, 29), (5, 0, 9), (6, 0, 9)], [], [], [(104, (0, 3, 0), (0, 5, 0)), (104, (0, 4, 0), (0, 6, 0))])] (by decide +kernel) (ρ0 := (fun s => [x0, x1, x2, x3, x4, x5, x6].getD s 0)) hB eF eC ⟨rfl, ⟨rfl, ⟨rfl, ⟨rfl, ⟨rfl, ⟨rfl, ⟨hv6, trivial⟩⟩⟩⟩⟩⟩⟩ trivial ?_
  refine List.forall_mem_cons.mpr ⟨?_, fun _ h => absurd h List.not_mem_nil⟩
  · intro ρ τ Lc stc hx g1 g2 g3 g4 g5 g6 g7 g8
    have e0 : ρ 0 = x0 := hx 0 (by decide)
    have e1 : ρ 1 = x1 := hx 1 (by decide)
    have e2 : ρ 2 = x2 := hx 2 (by decide)
    have e3 : ρ 3 = x3 := hx 3 (by decide)
    have e4 : ρ 4 = x4 := hx 4 (by decide)
    have e5 : ρ 5 = x5 := hx 5 (by decide)
    have e6 : ρ 6 = x6 := hx 6 (by decide)
    subst e0
    subst e1
    subst e2
    subst e3
    subst e4
    subst e5
    subst e6
    have g7 := g7 (by decide)
    match Lc, stc, g7, g8 with
    | [v0, v1, v2, v3, v4, v5, v6], [w0, w1], ⟨hv0, hv1, hv2, hv3, hv4, hv5, hv6, _⟩, ⟨hw0, hw1, _⟩ =>
      cases hv0
      cases hv1
      cases hv2
      cases hv3
      cases hv4
      cases hv5
      cases hv6
      cases hw0
      cases hw1
      exact l0 τ ρ  g1 g2 g3 g4 g5 g6
set_option maxRecDepth 100000 in
theorem la_72 {σ : pm_S} {Q : Option Value → pm_S → Prop} (x0 x1 x2 x3 x4 : Int) (v6 : Value) (hv6 : v6.category = 1) (hB : an_GB pm_B σ) (eF : (0 ≤ x0 ∧ x0 ≤ 1023) ∧ (0 ≤ x1 ∧ x1 ≤ 9) ∧ (0 ≤ x2 ∧ x2 ≤ 9) ∧ (0 ≤ x3 ∧ x3 ≤ 29) ∧ (0 ≤ x4 ∧ x4 ≤ 29) ∧ True)
    (l0 : ∀ (τ : pm_S) (y : Nat → Int), an_GB pm_B τ → FQ [] σ τ → ((0 ≤ x0 ∧ x0 ≤ 1023) ∧ (0 ≤ x1 ∧ x1 ≤ 9) ∧ (0 ≤ x2 ∧ x2 ≤ 9) ∧ (0 ≤ x3 ∧ x3 ≤ 29) ∧ (0 ≤ x4 ∧ x4 ≤ 29) ∧ True) → (True) → (True) → (True) → Ok 216 6 87 [.ref 93, .int (Int32.ofInt (x0)), .int (Int32.ofInt (x1)), .int (Int32.ofInt (x2)), .int (Int32.ofInt (x3)), .int (Int32.ofInt (x4)), .int (Int32.ofInt 0)] [] τ Q)
    : Ok 216 6 72 [.ref 93, .int (Int32.ofInt (x0)), .int (Int32.ofInt (x1)), .int (Int32.ofInt (x2)), .int (Int32.ofInt (x3)), .int (Int32.ofInt (x4)), v6] [] σ Q := by
  refine an_seg (B := pm_B) (F := []) (T := []) (S := []) (fun _ h => absurd h List.not_mem_nil) (k := 216) (d := 5) (cs := [87]) 6 72 5 [(0, 0, 1023), (1, 0, 9), (2, 0, 9), (3, 0, 29), (4, 0, 29)] [] [(2, 93, 0), (0, 0, 0), (0, 1, 0), (0, 2, 0), (0, 3, 0), (0, 4, 0), (5, 0, 0)] [] [(87, [(2, 93, 0), (0, 0, 0), (0, 1, 0), (0, 2, 0), (0, 3, 0), (0, 4, 0), (1, 0, 0)], [], [(0, 0, 1023), (1, 0, 9), (2, 0, 9), (3, 0, 29), (4, 0, 29)], [], [], [])] (by decide +kernel) (ρ0 := (fun s => [x0, x1, x2, x3, x4].getD s 0)) hB eF trivial ⟨rfl, ⟨rfl, ⟨rfl, ⟨rfl, ⟨rfl, ⟨rfl, ⟨hv6, trivial⟩⟩⟩⟩⟩⟩⟩ trivial ?_
  refine List.forall_mem_cons.mpr ⟨?_, fun _ h => absurd h List.not_mem_nil⟩
  · intro ρ τ Lc stc hx g1 g2 g3 g4 g5 g6 g7 g8
    have e0 : ρ 0 = x0 := hx 0 (by decide)
    have e1 : ρ 1 = x1 := hx 1 (by decide)
    have e2 : ρ 2 = x2 := hx 2 (by decide)
    have e3 : ρ 3 = x3 := hx 3 (by decide)
    have e4 : ρ 4 = x4 := hx 4 (by decide)
    subst e0
    subst e1
    subst e2
    subst e3
    subst e4
    have g7 := g7 (by decide)
    match Lc, stc, g7, g8 with
    | [v0, v1, v2, v3, v4, v5, v6], [], ⟨hv0, hv1, hv2, hv3, hv4, hv5, hv6, _⟩, _ =>
      cases hv0
      cases hv1
      cases hv2
      cases hv3
      cases hv4
      cases hv5
      cases hv6
      exact l0 τ ρ  g1 g2 g3 g4 g5 g6
set_option maxRecDepth 100000 in
theorem la_85 {σ : pm_S} {Q : Option Value → pm_S → Prop} (x0 x1 x2 : Int) (v4 : Value) (v5 : Value) (v6 : Value) (hv4 : v4.category = 1) (hv5 : v5.category = 1) (hv6 : v6.category = 1) (hB : an_GB pm_B σ) (eF : (0 ≤ x0 ∧ x0 ≤ 1023) ∧ (0 ≤ x1 ∧ x1 ≤ 9) ∧ (0 ≤ x2 ∧ x2 ≤ 9) ∧ True)
    (l0 : ∀ (τ : pm_S) (y : Nat → Int), an_GB pm_B τ → FQ [] σ τ → ((0 ≤ x0 ∧ x0 ≤ 1023) ∧ (0 ≤ x1 ∧ x1 ≤ 9) ∧ (0 ≤ x2 ∧ x2 ≤ 9) ∧ True) → (True) → (True) → (True) → Q (some (.int (Int32.ofInt 0))) τ)
    : Ok 216 6 85 [.ref 93, .int (Int32.ofInt (x0)), .int (Int32.ofInt (x1)), .int (Int32.ofInt (x2)), v4, v5, v6] [] σ Q := by
  refine an_seg (B := pm_B) (F := []) (T := []) (S := []) (fun _ h => absurd h List.not_mem_nil) (k := 216) (d := 5) (cs := []) 4 85 3 [(0, 0, 1023), (1, 0, 9), (2, 0, 9)] [] [(2, 93, 0), (0, 0, 0), (0, 1, 0), (0, 2, 0), (5, 0, 0), (5, 0, 0), (5, 0, 0)] [] [(9999, [], [(1, 0, 0)], [(0, 0, 1023), (1, 0, 9), (2, 0, 9)], [], [], [])] (by decide +kernel) (ρ0 := (fun s => [x0, x1, x2].getD s 0)) hB eF trivial ⟨rfl, ⟨rfl, ⟨rfl, ⟨rfl, ⟨hv4, ⟨hv5, ⟨hv6, trivial⟩⟩⟩⟩⟩⟩⟩ trivial ?_
  refine List.forall_mem_cons.mpr ⟨?_, fun _ h => absurd h List.not_mem_nil⟩
  · intro ρ τ Lc stc hx g1 g2 g3 g4 g5 g6 g7 g8
    have e0 : ρ 0 = x0 := hx 0 (by decide)
    have e1 : ρ 1 = x1 := hx 1 (by decide)
    have e2 : ρ 2 = x2 := hx 2 (by decide)
    subst e0
    subst e1
    subst e2
    match stc, g8 with
    | [_], ⟨h, _⟩ => cases h; exact l0 τ ρ g1 g2 g3 g4 g5 g6
set_option maxRecDepth 100000 in
theorem la_87 {σ : pm_S} {Q : Option Value → pm_S → Prop} (x0 x1 x2 : Int) (v4 : Value) (v5 : Value) (v6 : Value) (hv4 : v4.category = 1) (hv5 : v5.category = 1) (hv6 : v6.category = 1) (hB : an_GB pm_B σ) (eF : (0 ≤ x0 ∧ x0 ≤ 1023) ∧ (0 ≤ x1 ∧ x1 ≤ 9) ∧ (0 ≤ x2 ∧ x2 ≤ 9) ∧ True)
    (l0 : ∀ (τ : pm_S) (y : Nat → Int) (v4 : Value) (v5 : Value) (v6 : Value), v4.category = 1 → v5.category = 1 → v6.category = 1 → an_GB pm_B τ → FQ [] σ τ → ((0 ≤ x0 ∧ x0 ≤ 1023) ∧ (0 ≤ x1 ∧ x1 ≤ 9) ∧ (0 ≤ x2 ∧ x2 ≤ 9) ∧ True) → (True) → (True) → (True) → Ok 216 6 8 [.ref 93, .int (Int32.ofInt (x0)), .int (Int32.ofInt (x1)), .int (Int32.ofInt (x2 + 1)), v4, v5, v6] [] τ Q)
    : Ok 216 6 87 [.ref 93, .int (Int32.ofInt (x0)), .int (Int32.ofInt (x1)), .int (Int32.ofInt (x2)), v4, v5, v6] [] σ Q := by
  refine an_seg (B := pm_B) (F := []) (T := []) (S := []) (fun _ h => absurd h List.not_mem_nil) (k := 216) (d := 5) (cs := [8]) 4 87 3 [(0, 0, 1023), (1, 0, 9), (2, 0, 9)] [] [(2, 93, 0), (0, 0, 0), (0, 1, 0), (0, 2, 0), (5, 0, 0), (5, 0, 0), (5, 0, 0)] [] [(8, [(2, 93, 0), (0, 0, 0), (0, 1, 0), (0, 2, 1), (5, 0, 0), (5, 0, 0), (5, 0, 0)], [], [(0, 0, 1023), (1, 0, 9), (2, 0, 9)], [], [], [])] (by decide +kernel) (ρ0 := (fun s => [x0, x1, x2].getD s 0)) hB eF trivial ⟨rfl, ⟨rfl, ⟨rfl, ⟨rfl, ⟨hv4, ⟨hv5, ⟨hv6, trivial⟩⟩⟩⟩⟩⟩⟩ trivial ?_
  refine List.forall_mem_cons.mpr ⟨?_, fun _ h => absurd h List.not_mem_nil⟩
  · intro ρ τ Lc stc hx g1 g2 g3 g4 g5 g6 g7 g8
    have e0 : ρ 0 = x0 := hx 0 (by decide)
    have e1 : ρ 1 = x1 := hx 1 (by decide)
    have e2 : ρ 2 = x2 := hx 2 (by decide)
    subst e0
    subst e1
    subst e2
    have g7 := g7 (by decide)
    match Lc, stc, g7, g8 with
    | [v0, v1, v2, v3, v4, v5, v6], [], ⟨hv0, hv1, hv2, hv3, hv4, hv5, hv6, _⟩, _ =>
      cases hv0
      cases hv1
      cases hv2
      cases hv3
      exact l0 τ ρ v4 v5 v6 hv4 hv5 hv6 g1 g2 g3 g4 g5 g6
set_option maxRecDepth 100000 in
theorem la_89 {σ : pm_S} {Q : Option Value → pm_S → Prop} (x0 x1 : Int) (v3 : Value) (v4 : Value) (v5 : Value) (v6 : Value) (hv3 : v3.category = 1) (hv4 : v4.category = 1) (hv5 : v5.category = 1) (hv6 : v6.category = 1) (hB : an_GB pm_B σ) (eF : (0 ≤ x0 ∧ x0 ≤ 1023) ∧ (0 ≤ x1 ∧ x1 ≤ 9) ∧ True)
    (l0 : ∀ (τ : pm_S) (y : Nat → Int) (v3 : Value) (v4 : Value) (v5 : Value) (v6 : Value), v3.category = 1 → v4.category = 1 → v5.category = 1 → v6.category = 1 → an_GB pm_B τ → FQ [] σ τ → ((0 ≤ x0 ∧ x0 ≤ 1023) ∧ (0 ≤ x1 ∧ x1 ≤ 9) ∧ True) → (True) → (True) → (True) → Ok 216 6 2 [.ref 93, .int (Int32.ofInt (x0)), .int (Int32.ofInt (x1 + 1)), v3, v4, v5, v6] [] τ Q)
    : Ok 216 6 89 [.ref 93, .int (Int32.ofInt (x0)), .int (Int32.ofInt (x1)), v3, v4, v5, v6] [] σ Q := by
  refine an_seg (B := pm_B) (F := []) (T := []) (S := []) (fun _ h => absurd h List.not_mem_nil) (k := 216) (d := 5) (cs := [2]) 4 89 2 [(0, 0, 1023), (1, 0, 9)] [] [(2, 93, 0), (0, 0, 0), (0, 1, 0), (5, 0, 0), (5, 0, 0), (5, 0, 0), (5, 0, 0)] [] [(2, [(2, 93, 0), (0, 0, 0), (0, 1, 1), (5, 0, 0), (5, 0, 0), (5, 0, 0), (5, 0, 0)], [], [(0, 0, 1023), (1, 0, 9)], [], [], [])] (by decide +kernel) (ρ0 := (fun s => [x0, x1].getD s 0)) hB eF trivial ⟨rfl, ⟨rfl, ⟨rfl, ⟨hv3, ⟨hv4, ⟨hv5, ⟨hv6, trivial⟩⟩⟩⟩⟩⟩⟩ trivial ?_
  refine List.forall_mem_cons.mpr ⟨?_, fun _ h => absurd h List.not_mem_nil⟩
  · intro ρ τ Lc stc hx g1 g2 g3 g4 g5 g6 g7 g8
    have e0 : ρ 0 = x0 := hx 0 (by decide)
    have e1 : ρ 1 = x1 := hx 1 (by decide)
    subst e0
    subst e1
    have g7 := g7 (by decide)
    match Lc, stc, g7, g8 with
    | [v0, v1, v2, v3, v4, v5, v6], [], ⟨hv0, hv1, hv2, hv3, hv4, hv5, hv6, _⟩, _ =>
      cases hv0
      cases hv1
      cases hv2
      exact l0 τ ρ v3 v4 v5 v6 hv3 hv4 hv5 hv6 g1 g2 g3 g4 g5 g6
set_option maxRecDepth 100000 in
theorem la_91 {σ : pm_S} {Q : Option Value → pm_S → Prop} (x0 x1 : Int) (v3 : Value) (v4 : Value) (v5 : Value) (v6 : Value) (hv3 : v3.category = 1) (hv4 : v4.category = 1) (hv5 : v5.category = 1) (hv6 : v6.category = 1) (hB : an_GB pm_B σ) (eF : (0 ≤ x0 ∧ x0 ≤ 1023) ∧ (0 ≤ x1 ∧ x1 ≤ 10) ∧ True)
    (l0 : ∀ (τ : pm_S) (y : Nat → Int), an_GB pm_B τ → FQ [] σ τ → ((0 ≤ x0 ∧ x0 ≤ 1023) ∧ (0 ≤ x1 ∧ x1 ≤ 10) ∧ True) → (True) → (True) → (True) → Q (some (.int (Int32.ofInt 1))) τ)
    : Ok 216 6 91 [.ref 93, .int (Int32.ofInt (x0)), .int (Int32.ofInt (x1)), v3, v4, v5, v6] [] σ Q := by
  refine an_seg (B := pm_B) (F := []) (T := []) (S := []) (fun _ h => absurd h List.not_mem_nil) (k := 216) (d := 5) (cs := []) 4 91 2 [(0, 0, 1023), (1, 0, 10)] [] [(2, 93, 0), (0, 0, 0), (0, 1, 0), (5, 0, 0), (5, 0, 0), (5, 0, 0), (5, 0, 0)] [] [(9999, [], [(1, 0, 1)], [(0, 0, 1023), (1, 0, 10)], [], [], [])] (by decide +kernel) (ρ0 := (fun s => [x0, x1].getD s 0)) hB eF trivial ⟨rfl, ⟨rfl, ⟨rfl, ⟨hv3, ⟨hv4, ⟨hv5, ⟨hv6, trivial⟩⟩⟩⟩⟩⟩⟩ trivial ?_
  refine List.forall_mem_cons.mpr ⟨?_, fun _ h => absurd h List.not_mem_nil⟩
  · intro ρ τ Lc stc hx g1 g2 g3 g4 g5 g6 g7 g8
    have e0 : ρ 0 = x0 := hx 0 (by decide)
    have e1 : ρ 1 = x1 := hx 1 (by decide)
    subst e0
    subst e1
    match stc, g8 with
    | [_], ⟨h, _⟩ => cases h; exact l0 τ ρ g1 g2 g3 g4 g5 g6
set_option maxRecDepth 100000 in
theorem lb_0 {σ : pm_S} {Q : Option Value → pm_S → Prop} (x0 x1 : Int) (v3 : Value) (hv3 : v3.category = 1) (hB : an_GB pm_B σ) (eF : (0 ≤ x0 ∧ x0 ≤ 1023) ∧ ((-1) ≤ x1 ∧ x1 ≤ 1023) ∧ True)
    (l0 : ∀ (τ : pm_S) (y : Nat → Int), an_GB pm_B τ → FQ [] σ τ → ((0 ≤ x0 ∧ x0 ≤ 1023) ∧ ((-1) ≤ x1 ∧ x1 ≤ 1023) ∧ True) → (True) → (True) → (True) → Ok 217 6 2 [.ref 93, .int (Int32.ofInt (x0)), .int (Int32.ofInt (x1)), .int (Int32.ofInt (x0))] [] τ Q)
    : Ok 217 6 0 [.ref 93, .int (Int32.ofInt (x0)), .int (Int32.ofInt (x1)), v3] [] σ Q := by
  refine an_seg (B := pm_B) (F := []) (T := []) (S := []) (fun _ h => absurd h List.not_mem_nil) (k := 217) (d := 5) (cs := [2]) 4 0 2 [(0, 0, 1023), (1, (-1), 1023)] [] [(2, 93, 0), (0, 0, 0), (0, 1, 0), (5, 0, 0)] [] [(2, [(2, 93, 0), (0, 0, 0), (0, 1, 0), (0, 0, 0)], [], [(0, 0, 1023), (1, (-1), 1023)], [], [], [])] (by decide +kernel) (ρ0 := (fun s => [x0, x1].getD s 0)) hB eF trivial ⟨rfl, ⟨rfl, ⟨rfl, ⟨hv3, trivial⟩⟩⟩⟩ trivial ?_
  refine List.forall_mem_cons.mpr ⟨?_, fun _ h => absurd h List.not_mem_nil⟩
  · intro ρ τ Lc stc hx g1 g2 g3 g4 g5 g6 g7 g8
    have e0 : ρ 0 = x0 := hx 0 (by decide)
    have e1 : ρ 1 = x1 := hx 1 (by decide)
    subst e0
    subst e1
    have g7 := g7 (by decide)
    match Lc, stc, g7, g8 with
    | [v0, v1, v2, v3], [], ⟨hv0, hv1, hv2, hv3, _⟩, _ =>
      cases hv0
      cases hv1
      cases hv2
      cases hv3
      exact l0 τ ρ  g1 g2 g3 g4 g5 g6
set_option maxRecDepth 100000 in
theorem lb_2z {σ : pm_S} {Q : Option Value → pm_S → Prop} (x0 x1 x2 : Int)  (hB : an_GB pm_B σ) (eF : (0 ≤ x0 ∧ x0 ≤ 1023) ∧ ((-1) ≤ x1 ∧ x1 ≤ 1023) ∧ (0 ≤ x2 ∧ x2 ≤ 0) ∧ True)
    (l0 : ∀ (τ : pm_S) (y : Nat → Int), an_GB pm_B τ → FQ [] σ τ → ((0 ≤ x0 ∧ x0 ≤ 1023) ∧ ((-1) ≤ x1 ∧ x1 ≤ 1023) ∧ (0 ≤ x2 ∧ x2 ≤ 0) ∧ True) → (True) → (True) → (True) → Q (some (.int (Int32.ofInt 0))) τ)
    : Ok 217 6 2 [.ref 93, .int (Int32.ofInt (x0)), .int (Int32.ofInt (x1)), .int (Int32.ofInt (x2))] [] σ Q := by
  refine an_seg (B := pm_B) (F := []) (T := []) (S := []) (fun _ h => absurd h List.not_mem_nil) (k := 217) (d := 5) (cs := []) 6 2 3 [(0, 0, 1023), (1, (-1), 1023), (2, 0, 0)] [] [(2, 93, 0), (0, 0, 0), (0, 1, 0), (0, 2, 0)] [] [(9999, [], [(1, 0, 0)], [(0, 0, 1023), (1, (-1), 1023), (2, 0, 0)], [], [], [])] (by decide +kernel) (ρ0 := (fun s => [x0, x1, x2].getD s 0)) hB eF trivial ⟨rfl, ⟨rfl, ⟨rfl, ⟨rfl, trivial⟩⟩⟩⟩ trivial ?_
  refine List.forall_mem_cons.mpr ⟨?_, fun _ h => absurd h List.not_mem_nil⟩
  · intro ρ τ Lc stc hx g1 g2 g3 g4 g5 g6 g7 g8
    have e0 : ρ 0 = x0 := hx 0 (by decide)
    have e1 : ρ 1 = x1 := hx 1 (by decide)
    have e2 : ρ 2 = x2 := hx 2 (by decide)
    subst e0
    subst e1
    subst e2
    match stc, g8 with
    | [_], ⟨h, _⟩ => cases h; exact l0 τ ρ g1 g2 g3 g4 g5 g6
set_option maxRecDepth 100000 in
theorem lb_2n {σ : pm_S} {Q : Option Value → pm_S → Prop} (x0 x1 x2 x3 : Int)  (hB : an_GB pm_B σ) (eF : (0 ≤ x0 ∧ x0 ≤ 1023) ∧ ((-1) ≤ x1 ∧ x1 ≤ 1023) ∧ (1 ≤ x2 ∧ x2 ≤ 1023) ∧ (0 ≤ x3 ∧ x3 ≤ 0) ∧ True) (eC : (σ.1 127 (x2).toNat).toInt = x3 ∧ True)
    (l0 : ∀ (τ : pm_S) (y : Nat → Int), an_GB pm_B τ → FQ [] σ τ → ((0 ≤ x0 ∧ x0 ≤ 1023) ∧ ((-1) ≤ x1 ∧ x1 ≤ 1023) ∧ (1 ≤ x2 ∧ x2 ≤ 1023) ∧ (0 ≤ x3 ∧ x3 ≤ 0) ∧ True) → (True) → (True) → ((τ.1 127 (x2).toNat).toInt = x3 ∧ True) → Ok 217 6 19 [.ref 93, .int (Int32.ofInt (x0)), .int (Int32.ofInt (x1)), .int (Int32.ofInt (x2))] [] τ Q)
    : Ok 217 6 2 [.ref 93, .int (Int32.ofInt (x0)), .int (Int32.ofInt (x1)), .int (Int32.ofInt (x2))] [] σ Q := by
  refine an_seg (B := pm_B) (F := []) (T := [127]) (S := []) (fun _ h => absurd h List.not_mem_nil) (k := 217) (d := 5) (cs := [19]) 9 2 4 [(0, 0, 1023), (1, (-1), 1023), (2, 1, 1023), (3, 0, 0)] [(127, (0, 2, 0), (0, 3, 0))] [(2, 93, 0), (0, 0, 0), (0, 1, 0), (0, 2, 0)] [] [(19, [(2, 93, 0), (0, 0, 0), (0, 1, 0), (0, 2, 0)], [], [(0, 0, 1023), (1, (-1), 1023), (2, 1, 1023), (3, 0, 0)], [], [], [(127, (0, 2, 0), (0, 3, 0))])] (by decide +kernel) (ρ0 := (fun s => [x0, x1, x2, x3].getD s 0)) hB eF eC ⟨rfl, ⟨rfl, ⟨rfl, ⟨rfl, trivial⟩⟩⟩⟩ trivial ?_
  refine List.forall_mem_cons.mpr ⟨?_, fun _ h => absurd h List.not_mem_nil⟩
  · intro ρ τ Lc stc hx g1 g2 g3 g4 g5 g6 g7 g8
    have e0 : ρ 0 = x0 := hx 0 (by decide)
    have e1 : ρ 1 = x1 := hx 1 (by decide)
    have e2 : ρ 2 = x2 := hx 2 (by decide)
    have e3 : ρ 3 = x3 := hx 3 (by decide)
    subst e0
    subst e1
    subst e2
    subst e3
    have g7 := g7 (by decide)
    match Lc, stc, g7, g8 with
    | [v0, v1, v2, v3], [], ⟨hv0, hv1, hv2, hv3, _⟩, _ =>
      cases hv0
      cases hv1
      cases hv2
      cases hv3
      exact l0 τ ρ  g1 g2 g3 g4 g5 g6
set_option maxRecDepth 100000 in
theorem lb_2y {σ : pm_S} {Q : Option Value → pm_S → Prop} (x0 x1 x2 x3 : Int)  (hB : an_GB pm_B σ) (eF : (0 ≤ x0 ∧ x0 ≤ 1023) ∧ ((-1) ≤ x1 ∧ x1 ≤ 1023) ∧ (1 ≤ x2 ∧ x2 ≤ 1023) ∧ (1 ≤ x3 ∧ x3 ≤ 1) ∧ True) (eC : (σ.1 127 (x2).toNat).toInt = x3 ∧ True)
    (l0 : ∀ (τ : pm_S) (y : Nat → Int), an_GB pm_B τ → FQ [] σ τ → ((0 ≤ x0 ∧ x0 ≤ 1023) ∧ ((-1) ≤ x1 ∧ x1 ≤ 1023) ∧ (1 ≤ x2 ∧ x2 ≤ 1023) ∧ (1 ≤ x3 ∧ x3 ≤ 1) ∧ ((-1024) ≤ y 4 ∧ y 4 ≤ (-2)) ∧ (0 ≤ y 5 ∧ y 5 ≤ 1023) ∧ True) → (y 5 ≤ x0 + 0 ∧ True) → ((an_f 5 (Int32.ofInt (x2)) (Int32.ofInt ((-1)))).toInt = y 4 ∧ (an_f 3 (Int32.ofInt (x0)) (Int32.ofInt (y 4))).toInt = y 5 ∧ True) → ((τ.1 127 (x2).toNat).toInt = x3 ∧ True) → Ok 217 6 16 [.ref 93, .int (Int32.ofInt (x0)), .int (Int32.ofInt (x1)), .int (Int32.ofInt (x2))] [.int (Int32.ofInt (y 5)), .ref 126] τ Q)
    : Ok 217 6 2 [.ref 93, .int (Int32.ofInt (x0)), .int (Int32.ofInt (x1)), .int (Int32.ofInt (x2))] [] σ Q := by
  refine an_seg (B := pm_B) (F := []) (T := [127]) (S := []) (fun _ h => absurd h List.not_mem_nil) (k := 217) (d := 5) (cs := [16]) 16 2 4 [(0, 0, 1023), (1, (-1), 1023), (2, 1, 1023), (3, 1, 1)] [(127, (0, 2, 0), (0, 3, 0))] [(2, 93, 0), (0, 0, 0), (0, 1, 0), (0, 2, 0)] [] [(16, [(2, 93, 0), (0, 0, 0), (0, 1, 0), (0, 2, 0)], [(0, 5, 0), (2, 126, 0)], [(0, 0, 1023), (1, (-1), 1023), (2, 1, 1023), (3, 1, 1), (4, (-1024), (-2)), (5, 0, 1023)], [(1, 5, 0, 0)], [(5, (0, 2, 0), (1, 0, (-1)), 4), (3, (0, 0, 0), (0, 4, 0), 5)], [(127, (0, 2, 0), (0, 3, 0))])] (by decide +kernel) (ρ0 := (fun s => [x0, x1, x2, x3].getD s 0)) hB eF eC ⟨rfl, ⟨rfl, ⟨rfl, ⟨rfl, trivial⟩⟩⟩⟩ trivial ?_
  refine List.forall_mem_cons.mpr ⟨?_, fun _ h => absurd h List.not_mem_nil⟩
  · intro ρ τ Lc stc hx g1 g2 g3 g4 g5 g6 g7 g8
    have e0 : ρ 0 = x0 := hx 0 (by decide)
    have e1 : ρ 1 = x1 := hx 1 (by decide)
    have e2 : ρ 2 = x2 := hx 2 (by decide)
    have e3 : ρ 3 = x3 := hx 3 (by decide)
    subst e0
    subst e1
    subst e2
    subst e3
    have g7 := g7 (by decide)
    match Lc, stc, g7, g8 with
    | [v0, v1, v2, v3], [w0, w1], ⟨hv0, hv1, hv2, hv3, _⟩, ⟨hw0, hw1, _⟩ =>
      cases hv0
      cases hv1
      cases hv2
      cases hv3
      cases hw0
      cases hw1
      exact l0 τ ρ  g1 g2 g3 g4 g5 g6
set_option maxRecDepth 100000 in
theorem lb_17 {σ : pm_S} {Q : Option Value → pm_S → Prop} (x0 x1 x2 x3 : Int)  (hB : an_GB pm_B σ) (eF : (0 ≤ x0 ∧ x0 ≤ 1023) ∧ ((-1) ≤ x1 ∧ x1 ≤ 1023) ∧ (1 ≤ x2 ∧ x2 ≤ 1023) ∧ (0 ≤ x3 ∧ x3 ≤ 1000) ∧ True)
    (l0 : ∀ (τ : pm_S) (y : Nat → Int), an_GB pm_B τ → FQ [] σ τ → ((0 ≤ x0 ∧ x0 ≤ 1023) ∧ ((-1) ≤ x1 ∧ x1 ≤ 1023) ∧ (1 ≤ x2 ∧ x2 ≤ 1023) ∧ (0 ≤ x3 ∧ x3 ≤ 1000) ∧ True) → (True) → (True) → (True) → Ok 217 6 18 [.ref 93, .int (Int32.ofInt (x0)), .int (Int32.ofInt (x1)), .int (Int32.ofInt (x2))] [.int (Int32.ofInt (x1)), .int (Int32.ofInt (x3))] τ Q)
    : Ok 217 6 17 [.ref 93, .int (Int32.ofInt (x0)), .int (Int32.ofInt (x1)), .int (Int32.ofInt (x2))] [.int (Int32.ofInt (x3))] σ Q := by
  refine an_seg (B := pm_B) (F := []) (T := []) (S := []) (fun _ h => absurd h List.not_mem_nil) (k := 217) (d := 5) (cs := [18]) 3 17 4 [(0, 0, 1023), (1, (-1), 1023), (2, 1, 1023), (3, 0, 1000)] [] [(2, 93, 0), (0, 0, 0), (0, 1, 0), (0, 2, 0)] [(0, 3, 0)] [(18, [(2, 93, 0), (0, 0, 0), (0, 1, 0), (0, 2, 0)], [(0, 1, 0), (0, 3, 0)], [(0, 0, 1023), (1, (-1), 1023), (2, 1, 1023), (3, 0, 1000)], [], [], [])] (by decide +kernel) (ρ0 := (fun s => [x0, x1, x2, x3].getD s 0)) hB eF trivial ⟨rfl, ⟨rfl, ⟨rfl, ⟨rfl, trivial⟩⟩⟩⟩ ⟨rfl, trivial⟩ ?_
  refine List.forall_mem_cons.mpr ⟨?_, fun _ h => absurd h List.not_mem_nil⟩
  · intro ρ τ Lc stc hx g1 g2 g3 g4 g5 g6 g7 g8
    have e0 : ρ 0 = x0 := hx 0 (by decide)
    have e1 : ρ 1 = x1 := hx 1 (by decide)
    have e2 : ρ 2 = x2 := hx 2 (by decide)
    have e3 : ρ 3 = x3 := hx 3 (by decide)
    subst e0
    subst e1
    subst e2
    subst e3
    have g7 := g7 (by decide)
    match Lc, stc, g7, g8 with
    | [v0, v1, v2, v3], [w0, w1], ⟨hv0, hv1, hv2, hv3, _⟩, ⟨hw0, hw1, _⟩ =>
      cases hv0
      cases hv1
      cases hv2
      cases hv3
      cases hw0
      cases hw1
      exact l0 τ ρ  g1 g2 g3 g4 g5 g6
set_option maxRecDepth 100000 in
theorem lb_19 {σ : pm_S} {Q : Option Value → pm_S → Prop} (x0 x1 x2 : Int)  (hB : an_GB pm_B σ) (eF : (0 ≤ x0 ∧ x0 ≤ 1023) ∧ ((-1) ≤ x1 ∧ x1 ≤ 1023) ∧ (1 ≤ x2 ∧ x2 ≤ 1023) ∧ True)
    (l0 : ∀ (τ : pm_S) (y : Nat → Int), an_GB pm_B τ → FQ [] σ τ → ((0 ≤ x0 ∧ x0 ≤ 1023) ∧ ((-1) ≤ x1 ∧ x1 ≤ 1023) ∧ (1 ≤ x2 ∧ x2 ≤ 1023) ∧ (0 ≤ y 3 ∧ y 3 ≤ 1022) ∧ True) → (y 3 ≤ x2 + (-1) ∧ y 3 ≤ x0 + 0 ∧ True) → ((an_f 3 (Int32.ofInt (x2 + (-1))) (Int32.ofInt (x0))).toInt = y 3 ∧ True) → (True) → Ok 217 6 2 [.ref 93, .int (Int32.ofInt (x0)), .int (Int32.ofInt (x1)), .int (Int32.ofInt (y 3))] [] τ Q)
    : Ok 217 6 19 [.ref 93, .int (Int32.ofInt (x0)), .int (Int32.ofInt (x1)), .int (Int32.ofInt (x2))] [] σ Q := by
  refine an_seg (B := pm_B) (F := []) (T := []) (S := []) (fun _ h => absurd h List.not_mem_nil) (k := 217) (d := 5) (cs := [2]) 9 19 3 [(0, 0, 1023), (1, (-1), 1023), (2, 1, 1023)] [] [(2, 93, 0), (0, 0, 0), (0, 1, 0), (0, 2, 0)] [] [(2, [(2, 93, 0), (0, 0, 0), (0, 1, 0), (0, 3, 0)], [], [(0, 0, 1023), (1, (-1), 1023), (2, 1, 1023), (3, 0, 1022)], [(1, 3, 2, (-1)), (1, 3, 0, 0)], [(3, (0, 2, (-1)), (0, 0, 0), 3)], [])] (by decide +kernel) (ρ0 := (fun s => [x0, x1, x2].getD s 0)) hB eF trivial ⟨rfl, ⟨rfl, ⟨rfl, ⟨rfl, trivial⟩⟩⟩⟩ trivial ?_
  refine List.forall_mem_cons.mpr ⟨?_, fun _ h => absurd h List.not_mem_nil⟩
  · intro ρ τ Lc stc hx g1 g2 g3 g4 g5 g6 g7 g8
    have e0 : ρ 0 = x0 := hx 0 (by decide)
    have e1 : ρ 1 = x1 := hx 1 (by decide)
    have e2 : ρ 2 = x2 := hx 2 (by decide)
    subst e0
    subst e1
    subst e2
    have g7 := g7 (by decide)
    match Lc, stc, g7, g8 with
    | [v0, v1, v2, v3], [], ⟨hv0, hv1, hv2, hv3, _⟩, _ =>
      cases hv0
      cases hv1
      cases hv2
      cases hv3
      exact l0 τ ρ  g1 g2 g3 g4 g5 g6
set_option maxRecDepth 100000 in
theorem lb_26 {σ : pm_S} {Q : Option Value → pm_S → Prop} (x0 x1 x2 : Int)  (hB : an_GB pm_B σ) (eF : (0 ≤ x0 ∧ x0 ≤ 1023) ∧ ((-1) ≤ x1 ∧ x1 ≤ 1023) ∧ (1 ≤ x2 ∧ x2 ≤ 1023) ∧ True)
    (l0 : ∀ (τ : pm_S) (y : Nat → Int), an_GB pm_B τ → FQ [] σ τ → ((0 ≤ x0 ∧ x0 ≤ 1023) ∧ ((-1) ≤ x1 ∧ x1 ≤ 1023) ∧ (1 ≤ x2 ∧ x2 ≤ 1023) ∧ True) → (True) → (True) → (True) → Q (some (.int (Int32.ofInt (x2)))) τ)
    : Ok 217 6 26 [.ref 93, .int (Int32.ofInt (x0)), .int (Int32.ofInt (x1)), .int (Int32.ofInt (x2))] [] σ Q := by
  refine an_seg (B := pm_B) (F := []) (T := []) (S := []) (fun _ h => absurd h List.not_mem_nil) (k := 217) (d := 5) (cs := []) 4 26 3 [(0, 0, 1023), (1, (-1), 1023), (2, 1, 1023)] [] [(2, 93, 0), (0, 0, 0), (0, 1, 0), (0, 2, 0)] [] [(9999, [], [(0, 2, 0)], [(0, 0, 1023), (1, (-1), 1023), (2, 1, 1023)], [], [], [])] (by decide +kernel) (ρ0 := (fun s => [x0, x1, x2].getD s 0)) hB eF trivial ⟨rfl, ⟨rfl, ⟨rfl, ⟨rfl, trivial⟩⟩⟩⟩ trivial ?_
  refine List.forall_mem_cons.mpr ⟨?_, fun _ h => absurd h List.not_mem_nil⟩
  · intro ρ τ Lc stc hx g1 g2 g3 g4 g5 g6 g7 g8
    have e0 : ρ 0 = x0 := hx 0 (by decide)
    have e1 : ρ 1 = x1 := hx 1 (by decide)
    have e2 : ρ 2 = x2 := hx 2 (by decide)
    subst e0
    subst e1
    subst e2
    match stc, g8 with
    | [_], ⟨h, _⟩ => cases h; exact l0 τ ρ g1 g2 g3 g4 g5 g6
set_option maxRecDepth 100000 in
theorem lc_0 {σ : pm_S} {Q : Option Value → pm_S → Prop} (x0 : Int) (v2 : Value) (v3 : Value) (hv2 : v2.category = 1) (hv3 : v3.category = 1) (hB : an_GB pm_B σ) (eF : (0 ≤ x0 ∧ x0 ≤ 1023) ∧ True)
    (l0 : ∀ (τ : pm_S) (y : Nat → Int), an_GB pm_B τ → FQ [] σ τ → ((0 ≤ x0 ∧ x0 ≤ 1023) ∧ True) → (True) → (True) → (True) → Ok 218 6 4 [.ref 93, .int (Int32.ofInt (x0)), .int (Int32.ofInt 1000000000), .int (Int32.ofInt (x0))] [] τ Q)
    : Ok 218 6 0 [.ref 93, .int (Int32.ofInt (x0)), v2, v3] [] σ Q := by
  refine an_seg (B := pm_B) (F := []) (T := []) (S := []) (fun _ h => absurd h List.not_mem_nil) (k := 218) (d := 5) (cs := [4]) 6 0 1 [(0, 0, 1023)] [] [(2, 93, 0), (0, 0, 0), (5, 0, 0), (5, 0, 0)] [] [(4, [(2, 93, 0), (0, 0, 0), (1, 0, 1000000000), (0, 0, 0)], [], [(0, 0, 1023)], [], [], [])] (by decide +kernel) (ρ0 := (fun s => [x0].getD s 0)) hB eF trivial ⟨rfl, ⟨rfl, ⟨hv2, ⟨hv3, trivial⟩⟩⟩⟩ trivial ?_
  refine List.forall_mem_cons.mpr ⟨?_, fun _ h => absurd h List.not_mem_nil⟩
  · intro ρ τ Lc stc hx g1 g2 g3 g4 g5 g6 g7 g8
    have e0 : ρ 0 = x0 := hx 0 (by decide)
    subst e0
    have g7 := g7 (by decide)
    match Lc, stc, g7, g8 with
    | [v0, v1, v2, v3], [], ⟨hv0, hv1, hv2, hv3, _⟩, _ =>
      cases hv0
      cases hv1
      cases hv2
      cases hv3
      exact l0 τ ρ  g1 g2 g3 g4 g5 g6
set_option maxRecDepth 100000 in
theorem lc_4z {σ : pm_S} {Q : Option Value → pm_S → Prop} (x0 x1 x2 : Int)  (hB : an_GB pm_B σ) (eF : (0 ≤ x0 ∧ x0 ≤ 1023) ∧ (0 ≤ x1 ∧ x1 ≤ 1000000000) ∧ (0 ≤ x2 ∧ x2 ≤ 0) ∧ True)
    (l0 : ∀ (τ : pm_S) (y : Nat → Int), an_GB pm_B τ → FQ [] σ τ → ((0 ≤ x0 ∧ x0 ≤ 1023) ∧ (0 ≤ x1 ∧ x1 ≤ 1000000000) ∧ (0 ≤ x2 ∧ x2 ≤ 0) ∧ True) → (True) → (True) → (True) → Q (some (.int (Int32.ofInt (x1)))) τ)
    : Ok 218 6 4 [.ref 93, .int (Int32.ofInt (x0)), .int (Int32.ofInt (x1)), .int (Int32.ofInt (x2))] [] σ Q := by
  refine an_seg (B := pm_B) (F := []) (T := []) (S := []) (fun _ h => absurd h List.not_mem_nil) (k := 218) (d := 5) (cs := []) 6 4 3 [(0, 0, 1023), (1, 0, 1000000000), (2, 0, 0)] [] [(2, 93, 0), (0, 0, 0), (0, 1, 0), (0, 2, 0)] [] [(9999, [], [(0, 1, 0)], [(0, 0, 1023), (1, 0, 1000000000), (2, 0, 0)], [], [], [])] (by decide +kernel) (ρ0 := (fun s => [x0, x1, x2].getD s 0)) hB eF trivial ⟨rfl, ⟨rfl, ⟨rfl, ⟨rfl, trivial⟩⟩⟩⟩ trivial ?_
  refine List.forall_mem_cons.mpr ⟨?_, fun _ h => absurd h List.not_mem_nil⟩
  · intro ρ τ Lc stc hx g1 g2 g3 g4 g5 g6 g7 g8
    have e0 : ρ 0 = x0 := hx 0 (by decide)
    have e1 : ρ 1 = x1 := hx 1 (by decide)
    have e2 : ρ 2 = x2 := hx 2 (by decide)
    subst e0
    subst e1
    subst e2
    match stc, g8 with
    | [_], ⟨h, _⟩ => cases h; exact l0 τ ρ g1 g2 g3 g4 g5 g6
set_option maxRecDepth 100000 in
theorem lc_4n {σ : pm_S} {Q : Option Value → pm_S → Prop} (x0 x1 x2 x3 : Int)  (hB : an_GB pm_B σ) (eF : (0 ≤ x0 ∧ x0 ≤ 1023) ∧ (0 ≤ x1 ∧ x1 ≤ 1000000000) ∧ (1 ≤ x2 ∧ x2 ≤ 1023) ∧ (0 ≤ x3 ∧ x3 ≤ 0) ∧ True) (eC : (σ.1 127 (x2).toNat).toInt = x3 ∧ True)
    (l0 : ∀ (τ : pm_S) (y : Nat → Int), an_GB pm_B τ → FQ [] σ τ → ((0 ≤ x0 ∧ x0 ≤ 1023) ∧ (0 ≤ x1 ∧ x1 ≤ 1000000000) ∧ (1 ≤ x2 ∧ x2 ≤ 1023) ∧ (0 ≤ x3 ∧ x3 ≤ 0) ∧ True) → (True) → (True) → ((τ.1 127 (x2).toNat).toInt = x3 ∧ True) → Ok 218 6 34 [.ref 93, .int (Int32.ofInt (x0)), .int (Int32.ofInt (x1)), .int (Int32.ofInt (x2))] [] τ Q)
    : Ok 218 6 4 [.ref 93, .int (Int32.ofInt (x0)), .int (Int32.ofInt (x1)), .int (Int32.ofInt (x2))] [] σ Q := by
  refine an_seg (B := pm_B) (F := []) (T := [127]) (S := []) (fun _ h => absurd h List.not_mem_nil) (k := 218) (d := 5) (cs := [34]) 9 4 4 [(0, 0, 1023), (1, 0, 1000000000), (2, 1, 1023), (3, 0, 0)] [(127, (0, 2, 0), (0, 3, 0))] [(2, 93, 0), (0, 0, 0), (0, 1, 0), (0, 2, 0)] [] [(34, [(2, 93, 0), (0, 0, 0), (0, 1, 0), (0, 2, 0)], [], [(0, 0, 1023), (1, 0, 1000000000), (2, 1, 1023), (3, 0, 0)], [], [], [(127, (0, 2, 0), (0, 3, 0))])] (by decide +kernel) (ρ0 := (fun s => [x0, x1, x2, x3].getD s 0)) hB eF eC ⟨rfl, ⟨rfl, ⟨rfl, ⟨rfl, trivial⟩⟩⟩⟩ trivial ?_
  refine List.forall_mem_cons.mpr ⟨?_, fun _ h => absurd h List.not_mem_nil⟩
  · intro ρ τ Lc stc hx g1 g2 g3 g4 g5 g6 g7 g8
    have e0 : ρ 0 = x0 := hx 0 (by decide)
    have e1 : ρ 1 = x1 := hx 1 (by decide)
    have e2 : ρ 2 = x2 := hx 2 (by decide)
    have e3 : ρ 3 = x3 := hx 3 (by decide)
    subst e0
    subst e1
    subst e2
    subst e3
    have g7 := g7 (by decide)
    match Lc, stc, g7, g8 with
    | [v0, v1, v2, v3], [], ⟨hv0, hv1, hv2, hv3, _⟩, _ =>
      cases hv0
      cases hv1
      cases hv2
      cases hv3
      exact l0 τ ρ  g1 g2 g3 g4 g5 g6
set_option maxRecDepth 100000 in
theorem lc_4y {σ : pm_S} {Q : Option Value → pm_S → Prop} (x0 x1 x2 x3 : Int)  (hB : an_GB pm_B σ) (eF : (0 ≤ x0 ∧ x0 ≤ 1023) ∧ (0 ≤ x1 ∧ x1 ≤ 1000000000) ∧ (1 ≤ x2 ∧ x2 ≤ 1023) ∧ (1 ≤ x3 ∧ x3 ≤ 1) ∧ True) (eC : (σ.1 127 (x2).toNat).toInt = x3 ∧ True)
    (l0 : ∀ (τ : pm_S) (y : Nat → Int), an_GB pm_B τ → FQ [] σ τ → ((0 ≤ x0 ∧ x0 ≤ 1023) ∧ (0 ≤ x1 ∧ x1 ≤ 1000000000) ∧ (1 ≤ x2 ∧ x2 ≤ 1023) ∧ (1 ≤ x3 ∧ x3 ≤ 1) ∧ ((-1024) ≤ y 4 ∧ y 4 ≤ (-2)) ∧ (0 ≤ y 5 ∧ y 5 ≤ 1023) ∧ True) → (y 5 ≤ x0 + 0 ∧ True) → ((an_f 5 (Int32.ofInt (x2)) (Int32.ofInt ((-1)))).toInt = y 4 ∧ (an_f 3 (Int32.ofInt (x0)) (Int32.ofInt (y 4))).toInt = y 5 ∧ True) → ((τ.1 127 (x2).toNat).toInt = x3 ∧ True) → Ok 218 6 18 [.ref 93, .int (Int32.ofInt (x0)), .int (Int32.ofInt (x1)), .int (Int32.ofInt (x2))] [.int (Int32.ofInt (y 5)), .ref 126] τ Q)
    : Ok 218 6 4 [.ref 93, .int (Int32.ofInt (x0)), .int (Int32.ofInt (x1)), .int (Int32.ofInt (x2))] [] σ Q := by
  refine an_seg (B := pm_B) (F := []) (T := [127]) (S := []) (fun _ h => absurd h List.not_mem_nil) (k := 218) (d := 5) (cs := [18]) 16 4 4 [(0, 0, 1023), (1, 0, 1000000000), (2, 1, 1023), (3, 1, 1)] [(127, (0, 2, 0), (0, 3, 0))] [(2, 93, 0), (0, 0, 0), (0, 1, 0), (0, 2, 0)] [] [(18, [(2, 93, 0), (0, 0, 0), (0, 1, 0), (0, 2, 0)], [(0, 5, 0), (2, 126, 0)], [(0, 0, 1023), (1, 0, 1000000000), (2, 1, 1023), (3, 1, 1), (4, (-1024), (-2)), (5, 0, 1023)], [(1, 5, 0, 0)], [(5, (0, 2, 0), (1, 0, (-1)), 4), (3, (0, 0, 0), (0, 4, 0), 5)], [(127, (0, 2, 0), (0, 3, 0))])] (by decide +kernel) (ρ0 := (fun s => [x0, x1, x2, x3].getD s 0)) hB eF eC ⟨rfl, ⟨rfl, ⟨rfl, ⟨rfl, trivial⟩⟩⟩⟩ trivial ?_
  refine List.forall_mem_cons.mpr ⟨?_, fun _ h => absurd h List.not_mem_nil⟩
  · intro ρ τ Lc stc hx g1 g2 g3 g4 g5 g6 g7 g8
    have e0 : ρ 0 = x0 := hx 0 (by decide)
    have e1 : ρ 1 = x1 := hx 1 (by decide)
    have e2 : ρ 2 = x2 := hx 2 (by decide)
    have e3 : ρ 3 = x3 := hx 3 (by decide)
    subst e0
    subst e1
    subst e2
    subst e3
    have g7 := g7 (by decide)
    match Lc, stc, g7, g8 with
    | [v0, v1, v2, v3], [w0, w1], ⟨hv0, hv1, hv2, hv3, _⟩, ⟨hw0, hw1, _⟩ =>
      cases hv0
      cases hv1
      cases hv2
      cases hv3
      cases hw0
      cases hw1
      exact l0 τ ρ  g1 g2 g3 g4 g5 g6
set_option maxRecDepth 100000 in
theorem lc_19 {σ : pm_S} {Q : Option Value → pm_S → Prop} (x0 x1 x2 x3 : Int)  (hB : an_GB pm_B σ) (eF : (0 ≤ x0 ∧ x0 ≤ 1023) ∧ (0 ≤ x1 ∧ x1 ≤ 1000000000) ∧ (1 ≤ x2 ∧ x2 ≤ 1023) ∧ (0 ≤ x3 ∧ x3 ≤ 1000) ∧ True)
    (l0 : ∀ (τ : pm_S) (y : Nat → Int), an_GB pm_B τ → FQ [] σ τ → ((0 ≤ x0 ∧ x0 ≤ 1023) ∧ (0 ≤ x1 ∧ x1 ≤ 1000000000) ∧ (1 ≤ x2 ∧ x2 ≤ 1023) ∧ (0 ≤ x3 ∧ x3 ≤ 1000) ∧ True) → (True) → (True) → (True) → Ok 218 6 22 [.ref 93, .int (Int32.ofInt (x0)), .int (Int32.ofInt (x1)), .int (Int32.ofInt (x2))] [.int (Int32.ofInt (x1)), .int (Int32.ofInt (x3 + 1))] τ Q)
    : Ok 218 6 19 [.ref 93, .int (Int32.ofInt (x0)), .int (Int32.ofInt (x1)), .int (Int32.ofInt (x2))] [.int (Int32.ofInt (x3))] σ Q := by
  refine an_seg (B := pm_B) (F := []) (T := []) (S := []) (fun _ h => absurd h List.not_mem_nil) (k := 218) (d := 5) (cs := [22]) 5 19 4 [(0, 0, 1023), (1, 0, 1000000000), (2, 1, 1023), (3, 0, 1000)] [] [(2, 93, 0), (0, 0, 0), (0, 1, 0), (0, 2, 0)] [(0, 3, 0)] [(22, [(2, 93, 0), (0, 0, 0), (0, 1, 0), (0, 2, 0)], [(0, 1, 0), (0, 3, 1)], [(0, 0, 1023), (1, 0, 1000000000), (2, 1, 1023), (3, 0, 1000)], [], [], [])] (by decide +kernel) (ρ0 := (fun s => [x0, x1, x2, x3].getD s 0)) hB eF trivial ⟨rfl, ⟨rfl, ⟨rfl, ⟨rfl, trivial⟩⟩⟩⟩ ⟨rfl, trivial⟩ ?_
  refine List.forall_mem_cons.mpr ⟨?_, fun _ h => absurd h List.not_mem_nil⟩
  · intro ρ τ Lc stc hx g1 g2 g3 g4 g5 g6 g7 g8
    have e0 : ρ 0 = x0 := hx 0 (by decide)
    have e1 : ρ 1 = x1 := hx 1 (by decide)
    have e2 : ρ 2 = x2 := hx 2 (by decide)
    have e3 : ρ 3 = x3 := hx 3 (by decide)
    subst e0
    subst e1
    subst e2
    subst e3
    have g7 := g7 (by decide)
    match Lc, stc, g7, g8 with
    | [v0, v1, v2, v3], [w0, w1], ⟨hv0, hv1, hv2, hv3, _⟩, ⟨hw0, hw1, _⟩ =>
      cases hv0
      cases hv1
      cases hv2
      cases hv3
      cases hw0
      cases hw1
      exact l0 τ ρ  g1 g2 g3 g4 g5 g6
set_option maxRecDepth 100000 in
theorem lc_23 {σ : pm_S} {Q : Option Value → pm_S → Prop} (x0 x1 x2 : Int)  (hB : an_GB pm_B σ) (eF : (0 ≤ x0 ∧ x0 ≤ 1023) ∧ (0 ≤ x1 ∧ x1 ≤ 1000000000) ∧ (1 ≤ x2 ∧ x2 ≤ 1023) ∧ True)
    (l0 : ∀ (τ : pm_S) (y : Nat → Int), an_GB pm_B τ → FQ [] σ τ → ((0 ≤ x0 ∧ x0 ≤ 1023) ∧ (0 ≤ x1 ∧ x1 ≤ 1000000000) ∧ (1 ≤ x2 ∧ x2 ≤ 1023) ∧ ((-1024) ≤ y 3 ∧ y 3 ≤ (-2)) ∧ (0 ≤ y 4 ∧ y 4 ≤ 1023) ∧ True) → (y 4 ≤ x0 + 0 ∧ True) → ((an_f 5 (Int32.ofInt (x2)) (Int32.ofInt ((-1)))).toInt = y 3 ∧ (an_f 3 (Int32.ofInt (x0)) (Int32.ofInt (y 3))).toInt = y 4 ∧ True) → (True) → Ok 218 6 30 [.ref 93, .int (Int32.ofInt (x0)), .int (Int32.ofInt (x1)), .int (Int32.ofInt (x2))] [.int (Int32.ofInt (y 4)), .ref 126] τ Q)
    : Ok 218 6 23 [.ref 93, .int (Int32.ofInt (x0)), .int (Int32.ofInt (x1)), .int (Int32.ofInt (x2))] [] σ Q := by
  refine an_seg (B := pm_B) (F := []) (T := []) (S := []) (fun _ h => absurd h List.not_mem_nil) (k := 218) (d := 5) (cs := [30]) 9 23 3 [(0, 0, 1023), (1, 0, 1000000000), (2, 1, 1023)] [] [(2, 93, 0), (0, 0, 0), (0, 1, 0), (0, 2, 0)] [] [(30, [(2, 93, 0), (0, 0, 0), (0, 1, 0), (0, 2, 0)], [(0, 4, 0), (2, 126, 0)], [(0, 0, 1023), (1, 0, 1000000000), (2, 1, 1023), (3, (-1024), (-2)), (4, 0, 1023)], [(1, 4, 0, 0)], [(5, (0, 2, 0), (1, 0, (-1)), 3), (3, (0, 0, 0), (0, 3, 0), 4)], [])] (by decide +kernel) (ρ0 := (fun s => [x0, x1, x2].getD s 0)) hB eF trivial ⟨rfl, ⟨rfl, ⟨rfl, ⟨rfl, trivial⟩⟩⟩⟩ trivial ?_
  refine List.forall_mem_cons.mpr ⟨?_, fun _ h => absurd h List.not_mem_nil⟩
  · intro ρ τ Lc stc hx g1 g2 g3 g4 g5 g6 g7 g8
    have e0 : ρ 0 = x0 := hx 0 (by decide)
    have e1 : ρ 1 = x1 := hx 1 (by decide)
    have e2 : ρ 2 = x2 := hx 2 (by decide)
    subst e0
    subst e1
    subst e2
    have g7 := g7 (by decide)
    match Lc, stc, g7, g8 with
    | [v0, v1, v2, v3], [w0, w1], ⟨hv0, hv1, hv2, hv3, _⟩, ⟨hw0, hw1, _⟩ =>
      cases hv0
      cases hv1
      cases hv2
      cases hv3
      cases hw0
      cases hw1
      exact l0 τ ρ  g1 g2 g3 g4 g5 g6
set_option maxRecDepth 100000 in
theorem lc_31 {σ : pm_S} {Q : Option Value → pm_S → Prop} (x0 x1 x2 : Int) (v2 : Value) (hv2 : v2.category = 1) (hB : an_GB pm_B σ) (eF : (0 ≤ x0 ∧ x0 ≤ 1023) ∧ (1 ≤ x1 ∧ x1 ≤ 1023) ∧ (0 ≤ x2 ∧ x2 ≤ 1000) ∧ True)
    (l0 : ∀ (τ : pm_S) (y : Nat → Int), an_GB pm_B τ → FQ [] σ τ → ((0 ≤ x0 ∧ x0 ≤ 1023) ∧ (1 ≤ x1 ∧ x1 ≤ 1023) ∧ (0 ≤ x2 ∧ x2 ≤ 1000) ∧ True) → (True) → (True) → (True) → Ok 218 6 34 [.ref 93, .int (Int32.ofInt (x0)), .int (Int32.ofInt (x2 + 1)), .int (Int32.ofInt (x1))] [] τ Q)
    : Ok 218 6 31 [.ref 93, .int (Int32.ofInt (x0)), v2, .int (Int32.ofInt (x1))] [.int (Int32.ofInt (x2))] σ Q := by
  refine an_seg (B := pm_B) (F := []) (T := []) (S := []) (fun _ h => absurd h List.not_mem_nil) (k := 218) (d := 5) (cs := [34]) 5 31 3 [(0, 0, 1023), (1, 1, 1023), (2, 0, 1000)] [] [(2, 93, 0), (0, 0, 0), (5, 0, 0), (0, 1, 0)] [(0, 2, 0)] [(34, [(2, 93, 0), (0, 0, 0), (0, 2, 1), (0, 1, 0)], [], [(0, 0, 1023), (1, 1, 1023), (2, 0, 1000)], [], [], [])] (by decide +kernel) (ρ0 := (fun s => [x0, x1, x2].getD s 0)) hB eF trivial ⟨rfl, ⟨rfl, ⟨hv2, ⟨rfl, trivial⟩⟩⟩⟩ ⟨rfl, trivial⟩ ?_
  refine List.forall_mem_cons.mpr ⟨?_, fun _ h => absurd h List.not_mem_nil⟩
  · intro ρ τ Lc stc hx g1 g2 g3 g4 g5 g6 g7 g8
    have e0 : ρ 0 = x0 := hx 0 (by decide)
    have e1 : ρ 1 = x1 := hx 1 (by decide)
    have e2 : ρ 2 = x2 := hx 2 (by decide)
    subst e0
    subst e1
    subst e2
    have g7 := g7 (by decide)
    match Lc, stc, g7, g8 with
    | [v0, v1, v2, v3], [], ⟨hv0, hv1, hv2, hv3, _⟩, _ =>
      cases hv0
      cases hv1
      cases hv2
      cases hv3
      exact l0 τ ρ  g1 g2 g3 g4 g5 g6
set_option maxRecDepth 100000 in
theorem lc_34 {σ : pm_S} {Q : Option Value → pm_S → Prop} (x0 x1 x2 : Int)  (hB : an_GB pm_B σ) (eF : (0 ≤ x0 ∧ x0 ≤ 1023) ∧ (0 ≤ x1 ∧ x1 ≤ 1000000000) ∧ (1 ≤ x2 ∧ x2 ≤ 1023) ∧ True)
    (l0 : ∀ (τ : pm_S) (y : Nat → Int), an_GB pm_B τ → FQ [] σ τ → ((0 ≤ x0 ∧ x0 ≤ 1023) ∧ (0 ≤ x1 ∧ x1 ≤ 1000000000) ∧ (1 ≤ x2 ∧ x2 ≤ 1023) ∧ (0 ≤ y 3 ∧ y 3 ≤ 1022) ∧ True) → (y 3 ≤ x2 + (-1) ∧ y 3 ≤ x0 + 0 ∧ True) → ((an_f 3 (Int32.ofInt (x2 + (-1))) (Int32.ofInt (x0))).toInt = y 3 ∧ True) → (True) → Ok 218 6 4 [.ref 93, .int (Int32.ofInt (x0)), .int (Int32.ofInt (x1)), .int (Int32.ofInt (y 3))] [] τ Q)
    : Ok 218 6 34 [.ref 93, .int (Int32.ofInt (x0)), .int (Int32.ofInt (x1)), .int (Int32.ofInt (x2))] [] σ Q := by
  refine an_seg (B := pm_B) (F := []) (T := []) (S := []) (fun _ h => absurd h List.not_mem_nil) (k := 218) (d := 5) (cs := [4]) 9 34 3 [(0, 0, 1023), (1, 0, 1000000000), (2, 1, 1023)] [] [(2, 93, 0), (0, 0, 0), (0, 1, 0), (0, 2, 0)] [] [(4, [(2, 93, 0), (0, 0, 0), (0, 1, 0), (0, 3, 0)], [], [(0, 0, 1023), (1, 0, 1000000000), (2, 1, 1023), (3, 0, 1022)], [(1, 3, 2, (-1)), (1, 3, 0, 0)], [(3, (0, 2, (-1)), (0, 0, 0), 3)], [])] (by decide +kernel) (ρ0 := (fun s => [x0, x1, x2].getD s 0)) hB eF trivial ⟨rfl, ⟨rfl, ⟨rfl, ⟨rfl, trivial⟩⟩⟩⟩ trivial ?_
  refine List.forall_mem_cons.mpr ⟨?_, fun _ h => absurd h List.not_mem_nil⟩
  · intro ρ τ Lc stc hx g1 g2 g3 g4 g5 g6 g7 g8
    have e0 : ρ 0 = x0 := hx 0 (by decide)
    have e1 : ρ 1 = x1 := hx 1 (by decide)
    have e2 : ρ 2 = x2 := hx 2 (by decide)
    subst e0
    subst e1
    subst e2
    have g7 := g7 (by decide)
    match Lc, stc, g7, g8 with
    | [v0, v1, v2, v3], [], ⟨hv0, hv1, hv2, hv3, _⟩, _ =>
      cases hv0
      cases hv1
      cases hv2
      cases hv3
      exact l0 τ ρ  g1 g2 g3 g4 g5 g6
set_option maxRecDepth 100000 in
theorem ld_0 {σ : pm_S} {Q : Option Value → pm_S → Prop} (x0 : Int) (v2 : Value) (v3 : Value) (v4 : Value) (v5 : Value) (hv2 : v2.category = 1) (hv3 : v3.category = 1) (hv4 : v4.category = 1) (hv5 : v5.category = 1) (hB : an_GB pm_B σ) (eF : ((-2147483648) ≤ x0 ∧ x0 ≤ 2147483647) ∧ True)
    (l0 : ∀ (τ : pm_S) (y : Nat → Int) (v2 : Value) (v3 : Value) (v4 : Value) (v5 : Value), v2.category = 1 → v3.category = 1 → v4.category = 1 → v5.category = 1 → an_GB pm_B τ → FQ [(93, 0)] σ τ → (((-2147483648) ≤ x0 ∧ x0 ≤ 2147483647) ∧ True) → (True) → (True) → ((τ.1 93 0).toInt = 0 ∧ True) → Ok 220 22 5 [.ref 93, .int (Int32.ofInt (x0)), v2, v3, v4, v5] [.int (Int32.ofInt (-1)), .ref 93] τ Q)
    : Ok 220 22 0 [.ref 93, .int (Int32.ofInt (x0)), v2, v3, v4, v5] [] σ Q := by
  refine an_seg (B := pm_B) (F := [(93, 0)]) (T := []) (S := []) (fun _ h => absurd h List.not_mem_nil) (k := 220) (d := 21) (cs := [5]) 7 0 1 [(0, (-2147483648), 2147483647)] [] [(2, 93, 0), (0, 0, 0), (5, 0, 0), (5, 0, 0), (5, 0, 0), (5, 0, 0)] [] [(5, [(2, 93, 0), (0, 0, 0), (5, 0, 0), (5, 0, 0), (5, 0, 0), (5, 0, 0)], [(1, 0, (-1)), (2, 93, 0)], [(0, (-2147483648), 2147483647)], [], [], [(93, (1, 0, 0), (1, 0, 0))])] (by decide +kernel) (ρ0 := (fun s => [x0].getD s 0)) hB eF trivial ⟨rfl, ⟨rfl, ⟨hv2, ⟨hv3, ⟨hv4, ⟨hv5, trivial⟩⟩⟩⟩⟩⟩ trivial ?_
  refine List.forall_mem_cons.mpr ⟨?_, fun _ h => absurd h List.not_mem_nil⟩
  · intro ρ τ Lc stc hx g1 g2 g3 g4 g5 g6 g7 g8
    have e0 : ρ 0 = x0 := hx 0 (by decide)
    subst e0
    have g7 := g7 (by decide)
    match Lc, stc, g7, g8 with
    | [v0, v1, v2, v3, v4, v5], [w0, w1], ⟨hv0, hv1, hv2, hv3, hv4, hv5, _⟩, ⟨hw0, hw1, _⟩ =>
      cases hv0
      cases hv1
      cases hw0
      cases hw1
      exact l0 τ ρ v2 v3 v4 v5 hv2 hv3 hv4 hv5 g1 g2 g3 g4 g5 g6
set_option maxRecDepth 100000 in
theorem ld_6 {σ : pm_S} {Q : Option Value → pm_S → Prop} (x0 x1 : Int) (v2 : Value) (v3 : Value) (v4 : Value) (v5 : Value) (hv2 : v2.category = 1) (hv3 : v3.category = 1) (hv4 : v4.category = 1) (hv5 : v5.category = 1) (hB : an_GB pm_B σ) (eF : ((-2147483648) ≤ x0 ∧ x0 ≤ 2147483647) ∧ (0 ≤ x1 ∧ x1 ≤ 30) ∧ True) (eC : (σ.1 93 55).toInt = x1 ∧ True)
    (l0 : ∀ (τ : pm_S) (y : Nat → Int) (v3 : Value) (v4 : Value) (v5 : Value), v3.category = 1 → v4.category = 1 → v5.category = 1 → an_GB pm_B τ → FQ [] σ τ → (((-2147483648) ≤ x0 ∧ x0 ≤ 2147483647) ∧ (0 ≤ x1 ∧ x1 ≤ 10) ∧ (1 ≤ y 2 ∧ y 2 ≤ 1024) ∧ True) → (True) → ((an_f 6 (Int32.ofInt (1)) (Int32.ofInt (x1))).toInt = y 2 ∧ True) → ((τ.1 93 55).toInt = x1 ∧ True) → Ok 220 22 23 [.ref 93, .int (Int32.ofInt (x0)), .int (Int32.ofInt (y 2 + (-1))), v3, v4, v5] [.int (Int32.ofInt 0), .int (Int32.ofInt 0), .ref 126] τ Q)
    (l1 : ∀ (τ : pm_S) (y : Nat → Int), an_GB pm_B τ → FQ [] σ τ → (((-2147483648) ≤ x0 ∧ x0 ≤ 2147483647) ∧ (11 ≤ x1 ∧ x1 ≤ 30) ∧ True) → (True) → (True) → ((τ.1 93 55).toInt = x1 ∧ True) → Q (some (.int (Int32.ofInt (-1)))) τ)
    : Ok 220 22 6 [.ref 93, .int (Int32.ofInt (x0)), v2, v3, v4, v5] [] σ Q := by
  refine an_seg (B := pm_B) (F := []) (T := []) (S := []) (fun _ h => absurd h List.not_mem_nil) (k := 220) (d := 21) (cs := [23]) 17 6 2 [(0, (-2147483648), 2147483647), (1, 0, 30)] [(93, (1, 0, 55), (0, 1, 0))] [(2, 93, 0), (0, 0, 0), (5, 0, 0), (5, 0, 0), (5, 0, 0), (5, 0, 0)] [] [(23, [(2, 93, 0), (0, 0, 0), (0, 2, (-1)), (5, 0, 0), (5, 0, 0), (5, 0, 0)], [(1, 0, 0), (1, 0, 0), (2, 126, 0)], [(0, (-2147483648), 2147483647), (1, 0, 10), (2, 1, 1024)], [], [(6, (1, 0, 1), (0, 1, 0), 2)], [(93, (1, 0, 55), (0, 1, 0))]),
    (9999, [], [(1, 0, (-1))], [(0, (-2147483648), 2147483647), (1, 11, 30)], [], [], [(93, (1, 0, 55), (0, 1, 0))])] (by decide +kernel) (ρ0 := (fun s => [x0, x1].getD s 0)) hB eF eC ⟨rfl, ⟨rfl, ⟨hv2, ⟨hv3, ⟨hv4, ⟨hv5, trivial⟩⟩⟩⟩⟩⟩ trivial ?_
  refine List.forall_mem_cons.mpr ⟨?_, List.forall_mem_cons.mpr ⟨?_, fun _ h => absurd h List.not_mem_nil⟩⟩
  · intro ρ τ Lc stc hx g1 g2 g3 g4 g5 g6 g7 g8
    have e0 : ρ 0 = x0 := hx 0 (by decide)
    have e1 : ρ 1 = x1 := hx 1 (by decide)
    subst e0
    subst e1
    have g7 := g7 (by decide)
    match Lc, stc, g7, g8 with
    | [v0, v1, v2, v3, v4, v5], [w0, w1, w2], ⟨hv0, hv1, hv2, hv3, hv4, hv5, _⟩, ⟨hw0, hw1, hw2, _⟩ =>
      cases hv0
      cases hv1
      cases hv2
      cases hw0
      cases hw1
      cases hw2
      exact l0 τ ρ v3 v4 v5 hv3 hv4 hv5 g1 g2 g3 g4 g5 g6
  · intro ρ τ Lc stc hx g1 g2 g3 g4 g5 g6 g7 g8
    have e0 : ρ 0 = x0 := hx 0 (by decide)
    have e1 : ρ 1 = x1 := hx 1 (by decide)
    subst e0
    subst e1
    match stc, g8 with
    | [_], ⟨h, _⟩ => cases h; exact l1 τ ρ g1 g2 g3 g4 g5 g6
set_option maxRecDepth 100000 in
theorem ld_24 {σ : pm_S} {Q : Option Value → pm_S → Prop} (x0 x1 : Int) (v3 : Value) (v4 : Value) (v5 : Value) (hv3 : v3.category = 1) (hv4 : v4.category = 1) (hv5 : v5.category = 1) (hB : an_GB pm_B σ) (eF : ((-2147483648) ≤ x0 ∧ x0 ≤ 2147483647) ∧ (0 ≤ x1 ∧ x1 ≤ 1023) ∧ True)
    (l0 : ∀ (τ : pm_S) (y : Nat → Int) (v4 : Value) (v5 : Value), v4.category = 1 → v5.category = 1 → an_GB pm_B τ → FQ [] σ τ → (((-2147483648) ≤ x0 ∧ x0 ≤ 2147483647) ∧ (0 ≤ x1 ∧ x1 ≤ 1023) ∧ True) → (True) → (True) → (True) → Ok 220 22 26 [.ref 93, .int (Int32.ofInt (x0)), .int (Int32.ofInt (x1)), .int (Int32.ofInt 1), v4, v5] [] τ Q)
    : Ok 220 22 24 [.ref 93, .int (Int32.ofInt (x0)), .int (Int32.ofInt (x1)), v3, v4, v5] [] σ Q := by
  refine an_seg (B := pm_B) (F := []) (T := []) (S := []) (fun _ h => absurd h List.not_mem_nil) (k := 220) (d := 21) (cs := [26]) 4 24 2 [(0, (-2147483648), 2147483647), (1, 0, 1023)] [] [(2, 93, 0), (0, 0, 0), (0, 1, 0), (5, 0, 0), (5, 0, 0), (5, 0, 0)] [] [(26, [(2, 93, 0), (0, 0, 0), (0, 1, 0), (1, 0, 1), (5, 0, 0), (5, 0, 0)], [], [(0, (-2147483648), 2147483647), (1, 0, 1023)], [], [], [])] (by decide +kernel) (ρ0 := (fun s => [x0, x1].getD s 0)) hB eF trivial ⟨rfl, ⟨rfl, ⟨rfl, ⟨hv3, ⟨hv4, ⟨hv5, trivial⟩⟩⟩⟩⟩⟩ trivial ?_
  refine List.forall_mem_cons.mpr ⟨?_, fun _ h => absurd h List.not_mem_nil⟩
  · intro ρ τ Lc stc hx g1 g2 g3 g4 g5 g6 g7 g8
    have e0 : ρ 0 = x0 := hx 0 (by decide)
    have e1 : ρ 1 = x1 := hx 1 (by decide)
    subst e0
    subst e1
    have g7 := g7 (by decide)
    match Lc, stc, g7, g8 with
    | [v0, v1, v2, v3, v4, v5], [], ⟨hv0, hv1, hv2, hv3, hv4, hv5, _⟩, _ =>
      cases hv0
      cases hv1
      cases hv2
      cases hv3
      exact l0 τ ρ v4 v5 hv4 hv5 g1 g2 g3 g4 g5 g6
set_option maxRecDepth 100000 in
theorem ld_26 {σ : pm_S} {Q : Option Value → pm_S → Prop} (x0 x1 x2 : Int) (v4 : Value) (v5 : Value) (hv4 : v4.category = 1) (hv5 : v5.category = 1) (hB : an_GB pm_B σ) (eF : ((-2147483648) ≤ x0 ∧ x0 ≤ 2147483647) ∧ (0 ≤ x1 ∧ x1 ≤ 1023) ∧ (1 ≤ x2 ∧ x2 ≤ 1024) ∧ True)
    (l0 : ∀ (τ : pm_S) (y : Nat → Int) (v4 : Value) (v5 : Value), v4.category = 1 → v5.category = 1 → an_GB pm_B τ → FQ [] σ τ → (((-2147483648) ≤ x0 ∧ x0 ≤ 2147483647) ∧ (0 ≤ x1 ∧ x1 ≤ 1023) ∧ (1 ≤ x2 ∧ x2 ≤ 1024) ∧ True) → (True) → (True) → (True) → Ok 220 22 28 [.ref 93, .int (Int32.ofInt (x0)), .int (Int32.ofInt (x1)), .int (Int32.ofInt (x2)), v4, v5] [.int (Int32.ofInt (x1)), .int (Int32.ofInt (x2))] τ Q)
    : Ok 220 22 26 [.ref 93, .int (Int32.ofInt (x0)), .int (Int32.ofInt (x1)), .int (Int32.ofInt (x2)), v4, v5] [] σ Q := by
  refine an_seg (B := pm_B) (F := []) (T := []) (S := []) (fun _ h => absurd h List.not_mem_nil) (k := 220) (d := 21) (cs := [28]) 4 26 3 [(0, (-2147483648), 2147483647), (1, 0, 1023), (2, 1, 1024)] [] [(2, 93, 0), (0, 0, 0), (0, 1, 0), (0, 2, 0), (5, 0, 0), (5, 0, 0)] [] [(28, [(2, 93, 0), (0, 0, 0), (0, 1, 0), (0, 2, 0), (5, 0, 0), (5, 0, 0)], [(0, 1, 0), (0, 2, 0)], [(0, (-2147483648), 2147483647), (1, 0, 1023), (2, 1, 1024)], [], [], [])] (by decide +kernel) (ρ0 := (fun s => [x0, x1, x2].getD s 0)) hB eF trivial ⟨rfl, ⟨rfl, ⟨rfl, ⟨rfl, ⟨hv4, ⟨hv5, trivial⟩⟩⟩⟩⟩⟩ trivial ?_
  refine List.forall_mem_cons.mpr ⟨?_, fun _ h => absurd h List.not_mem_nil⟩
  · intro ρ τ Lc stc hx g1 g2 g3 g4 g5 g6 g7 g8
    have e0 : ρ 0 = x0 := hx 0 (by decide)
    have e1 : ρ 1 = x1 := hx 1 (by decide)
    have e2 : ρ 2 = x2 := hx 2 (by decide)
    subst e0
    subst e1
    subst e2
    have g7 := g7 (by decide)
    match Lc, stc, g7, g8 with
    | [v0, v1, v2, v3, v4, v5], [w0, w1], ⟨hv0, hv1, hv2, hv3, hv4, hv5, _⟩, ⟨hw0, hw1, _⟩ =>
      cases hv0
      cases hv1
      cases hv2
      cases hv3
      cases hw0
      cases hw1
      exact l0 τ ρ v4 v5 hv4 hv5 g1 g2 g3 g4 g5 g6
set_option maxRecDepth 100000 in
theorem ld_29 {σ : pm_S} {Q : Option Value → pm_S → Prop} (x0 x1 x2 : Int) (v4 : Value) (v5 : Value) (hv4 : v4.category = 1) (hv5 : v5.category = 1) (hB : an_GB pm_B σ) (eF : ((-2147483648) ≤ x0 ∧ x0 ≤ 2147483647) ∧ (0 ≤ x1 ∧ x1 ≤ 1023) ∧ (1 ≤ x2 ∧ x2 ≤ 1023) ∧ True)
    (l0 : ∀ (τ : pm_S) (y : Nat → Int) (v4 : Value) (v5 : Value), v4.category = 1 → v5.category = 1 → an_GB pm_B τ → FQ [] σ τ → (((-2147483648) ≤ x0 ∧ x0 ≤ 2147483647) ∧ (0 ≤ x1 ∧ x1 ≤ 1023) ∧ (1 ≤ x2 ∧ x2 ≤ 1023) ∧ True) → (True) → (True) → (True) → Ok 220 22 34 [.ref 93, .int (Int32.ofInt (x0)), .int (Int32.ofInt (x1)), .int (Int32.ofInt (x2)), v4, v5] [.int (Int32.ofInt (x2)), .ref 93, .int (Int32.ofInt (x2)), .ref 127] τ Q)
    : Ok 220 22 29 [.ref 93, .int (Int32.ofInt (x0)), .int (Int32.ofInt (x1)), .int (Int32.ofInt (x2)), v4, v5] [] σ Q := by
  refine an_seg (B := pm_B) (F := []) (T := []) (S := []) (fun _ h => absurd h List.not_mem_nil) (k := 220) (d := 21) (cs := [34]) 7 29 3 [(0, (-2147483648), 2147483647), (1, 0, 1023), (2, 1, 1023)] [] [(2, 93, 0), (0, 0, 0), (0, 1, 0), (0, 2, 0), (5, 0, 0), (5, 0, 0)] [] [(34, [(2, 93, 0), (0, 0, 0), (0, 1, 0), (0, 2, 0), (5, 0, 0), (5, 0, 0)], [(0, 2, 0), (2, 93, 0), (0, 2, 0), (2, 127, 0)], [(0, (-2147483648), 2147483647), (1, 0, 1023), (2, 1, 1023)], [], [], [])] (by decide +kernel) (ρ0 := (fun s => [x0, x1, x2].getD s 0)) hB eF trivial ⟨rfl, ⟨rfl, ⟨rfl, ⟨rfl, ⟨hv4, ⟨hv5, trivial⟩⟩⟩⟩⟩⟩ trivial ?_
  refine List.forall_mem_cons.mpr ⟨?_, fun _ h => absurd h List.not_mem_nil⟩
  · intro ρ τ Lc stc hx g1 g2 g3 g4 g5 g6 g7 g8
    have e0 : ρ 0 = x0 := hx 0 (by decide)
    have e1 : ρ 1 = x1 := hx 1 (by decide)
    have e2 : ρ 2 = x2 := hx 2 (by decide)
    subst e0
    subst e1
    subst e2
    have g7 := g7 (by decide)
    match Lc, stc, g7, g8 with
    | [v0, v1, v2, v3, v4, v5], [w0, w1, w2, w3], ⟨hv0, hv1, hv2, hv3, hv4, hv5, _⟩, ⟨hw0, hw1, hw2, hw3, _⟩ =>
      cases hv0
      cases hv1
      cases hv2
      cases hv3
      cases hw0
      cases hw1
      cases hw2
      cases hw3
      exact l0 τ ρ v4 v5 hv4 hv5 g1 g2 g3 g4 g5 g6
set_option maxRecDepth 100000 in
theorem ld_36 {σ : pm_S} {Q : Option Value → pm_S → Prop} (x0 x1 x2 : Int) (v4 : Value) (v5 : Value) (hv4 : v4.category = 1) (hv5 : v5.category = 1) (hB : an_GB pm_B σ) (eF : ((-2147483648) ≤ x0 ∧ x0 ≤ 2147483647) ∧ (0 ≤ x1 ∧ x1 ≤ 1023) ∧ (1 ≤ x2 ∧ x2 ≤ 1023) ∧ True)
    (l0 : ∀ (τ : pm_S) (y : Nat → Int) (v4 : Value) (v5 : Value), v4.category = 1 → v5.category = 1 → an_GB pm_B τ → FQ [] σ τ → (((-2147483648) ≤ x0 ∧ x0 ≤ 2147483647) ∧ (0 ≤ x1 ∧ x1 ≤ 1023) ∧ (1 ≤ x2 ∧ x2 ≤ 1023) ∧ True) → (True) → (True) → (True) → Ok 220 22 26 [.ref 93, .int (Int32.ofInt (x0)), .int (Int32.ofInt (x1)), .int (Int32.ofInt (x2 + 1)), v4, v5] [] τ Q)
    : Ok 220 22 36 [.ref 93, .int (Int32.ofInt (x0)), .int (Int32.ofInt (x1)), .int (Int32.ofInt (x2)), v4, v5] [] σ Q := by
  refine an_seg (B := pm_B) (F := []) (T := []) (S := []) (fun _ h => absurd h List.not_mem_nil) (k := 220) (d := 21) (cs := [26]) 4 36 3 [(0, (-2147483648), 2147483647), (1, 0, 1023), (2, 1, 1023)] [] [(2, 93, 0), (0, 0, 0), (0, 1, 0), (0, 2, 0), (5, 0, 0), (5, 0, 0)] [] [(26, [(2, 93, 0), (0, 0, 0), (0, 1, 0), (0, 2, 1), (5, 0, 0), (5, 0, 0)], [], [(0, (-2147483648), 2147483647), (1, 0, 1023), (2, 1, 1023)], [], [], [])] (by decide +kernel) (ρ0 := (fun s => [x0, x1, x2].getD s 0)) hB eF trivial ⟨rfl, ⟨rfl, ⟨rfl, ⟨rfl, ⟨hv4, ⟨hv5, trivial⟩⟩⟩⟩⟩⟩ trivial ?_
  refine List.forall_mem_cons.mpr ⟨?_, fun _ h => absurd h List.not_mem_nil⟩
  · intro ρ τ Lc stc hx g1 g2 g3 g4 g5 g6 g7 g8
    have e0 : ρ 0 = x0 := hx 0 (by decide)
    have e1 : ρ 1 = x1 := hx 1 (by decide)
    have e2 : ρ 2 = x2 := hx 2 (by decide)
    subst e0
    subst e1
    subst e2
    have g7 := g7 (by decide)
    match Lc, stc, g7, g8 with
    | [v0, v1, v2, v3, v4, v5], [], ⟨hv0, hv1, hv2, hv3, hv4, hv5, _⟩, _ =>
      cases hv0
      cases hv1
      cases hv2
      cases hv3
      exact l0 τ ρ v4 v5 hv4 hv5 g1 g2 g3 g4 g5 g6
set_option maxRecDepth 100000 in
theorem ld_38 {σ : pm_S} {Q : Option Value → pm_S → Prop} (x0 x1 : Int) (v3 : Value) (v4 : Value) (v5 : Value) (hv3 : v3.category = 1) (hv4 : v4.category = 1) (hv5 : v5.category = 1) (hB : an_GB pm_B σ) (eF : ((-2147483648) ≤ x0 ∧ x0 ≤ 2147483647) ∧ (0 ≤ x1 ∧ x1 ≤ 1023) ∧ True)
    (l0 : ∀ (τ : pm_S) (y : Nat → Int) (v4 : Value) (v5 : Value), v4.category = 1 → v5.category = 1 → an_GB pm_B τ → FQ [] σ τ → (((-2147483648) ≤ x0 ∧ x0 ≤ 2147483647) ∧ (0 ≤ x1 ∧ x1 ≤ 1023) ∧ True) → (True) → (True) → (True) → Ok 220 22 40 [.ref 93, .int (Int32.ofInt (x0)), .int (Int32.ofInt (x1)), .int (Int32.ofInt 1), v4, v5] [] τ Q)
    : Ok 220 22 38 [.ref 93, .int (Int32.ofInt (x0)), .int (Int32.ofInt (x1)), v3, v4, v5] [] σ Q := by
  refine an_seg (B := pm_B) (F := []) (T := []) (S := []) (fun _ h => absurd h List.not_mem_nil) (k := 220) (d := 21) (cs := [40]) 4 38 2 [(0, (-2147483648), 2147483647), (1, 0, 1023)] [] [(2, 93, 0), (0, 0, 0), (0, 1, 0), (5, 0, 0), (5, 0, 0), (5, 0, 0)] [] [(40, [(2, 93, 0), (0, 0, 0), (0, 1, 0), (1, 0, 1), (5, 0, 0), (5, 0, 0)], [], [(0, (-2147483648), 2147483647), (1, 0, 1023)], [], [], [])] (by decide +kernel) (ρ0 := (fun s => [x0, x1].getD s 0)) hB eF trivial ⟨rfl, ⟨rfl, ⟨rfl, ⟨hv3, ⟨hv4, ⟨hv5, trivial⟩⟩⟩⟩⟩⟩ trivial ?_
  refine List.forall_mem_cons.mpr ⟨?_, fun _ h => absurd h List.not_mem_nil⟩
  · intro ρ τ Lc stc hx g1 g2 g3 g4 g5 g6 g7 g8
    have e0 : ρ 0 = x0 := hx 0 (by decide)
    have e1 : ρ 1 = x1 := hx 1 (by decide)
    subst e0
    subst e1
    have g7 := g7 (by decide)
    match Lc, stc, g7, g8 with
    | [v0, v1, v2, v3, v4, v5], [], ⟨hv0, hv1, hv2, hv3, hv4, hv5, _⟩, _ =>
      cases hv0
      cases hv1
      cases hv2
      cases hv3
      exact l0 τ ρ v4 v5 hv4 hv5 g1 g2 g3 g4 g5 g6
set_option maxRecDepth 100000 in
theorem ld_40 {σ : pm_S} {Q : Option Value → pm_S → Prop} (x0 x1 x2 : Int) (v4 : Value) (v5 : Value) (hv4 : v4.category = 1) (hv5 : v5.category = 1) (hB : an_GB pm_B σ) (eF : ((-2147483648) ≤ x0 ∧ x0 ≤ 2147483647) ∧ (0 ≤ x1 ∧ x1 ≤ 1023) ∧ (1 ≤ x2 ∧ x2 ≤ 1024) ∧ True)
    (l0 : ∀ (τ : pm_S) (y : Nat → Int) (v4 : Value) (v5 : Value), v4.category = 1 → v5.category = 1 → an_GB pm_B τ → FQ [] σ τ → (((-2147483648) ≤ x0 ∧ x0 ≤ 2147483647) ∧ (0 ≤ x1 ∧ x1 ≤ 1023) ∧ (1 ≤ x2 ∧ x2 ≤ 1024) ∧ True) → (True) → (True) → (True) → Ok 220 22 42 [.ref 93, .int (Int32.ofInt (x0)), .int (Int32.ofInt (x1)), .int (Int32.ofInt (x2)), v4, v5] [.int (Int32.ofInt (x1)), .int (Int32.ofInt (x2))] τ Q)
    : Ok 220 22 40 [.ref 93, .int (Int32.ofInt (x0)), .int (Int32.ofInt (x1)), .int (Int32.ofInt (x2)), v4, v5] [] σ Q := by
  refine an_seg (B := pm_B) (F := []) (T := []) (S := []) (fun _ h => absurd h List.not_mem_nil) (k := 220) (d := 21) (cs := [42]) 4 40 3 [(0, (-2147483648), 2147483647), (1, 0, 1023), (2, 1, 1024)] [] [(2, 93, 0), (0, 0, 0), (0, 1, 0), (0, 2, 0), (5, 0, 0), (5, 0, 0)] [] [(42, [(2, 93, 0), (0, 0, 0), (0, 1, 0), (0, 2, 0), (5, 0, 0), (5, 0, 0)], [(0, 1, 0), (0, 2, 0)], [(0, (-2147483648), 2147483647), (1, 0, 1023), (2, 1, 1024)], [], [], [])] (by decide +kernel) (ρ0 := (fun s => [x0, x1, x2].getD s 0)) hB eF trivial ⟨rfl, ⟨rfl, ⟨rfl, ⟨rfl, ⟨hv4, ⟨hv5, trivial⟩⟩⟩⟩⟩⟩ trivial ?_
  refine List.forall_mem_cons.mpr ⟨?_, fun _ h => absurd h List.not_mem_nil⟩
  · intro ρ τ Lc stc hx g1 g2 g3 g4 g5 g6 g7 g8
    have e0 : ρ 0 = x0 := hx 0 (by decide)
    have e1 : ρ 1 = x1 := hx 1 (by decide)
    have e2 : ρ 2 = x2 := hx 2 (by decide)
    subst e0
    subst e1
    subst e2
    have g7 := g7 (by decide)
    match Lc, stc, g7, g8 with
    | [v0, v1, v2, v3, v4, v5], [w0, w1], ⟨hv0, hv1, hv2, hv3, hv4, hv5, _⟩, ⟨hw0, hw1, _⟩ =>
      cases hv0
      cases hv1
      cases hv2
      cases hv3
      cases hw0
      cases hw1
      exact l0 τ ρ v4 v5 hv4 hv5 g1 g2 g3 g4 g5 g6
set_option maxRecDepth 100000 in
theorem ld_43 {σ : pm_S} {Q : Option Value → pm_S → Prop} (x0 x1 x2 : Int) (v4 : Value) (v5 : Value) (hv4 : v4.category = 1) (hv5 : v5.category = 1) (hB : an_GB pm_B σ) (eF : ((-2147483648) ≤ x0 ∧ x0 ≤ 2147483647) ∧ (0 ≤ x1 ∧ x1 ≤ 1023) ∧ (1 ≤ x2 ∧ x2 ≤ 1023) ∧ True)
    (l0 : ∀ (τ : pm_S) (y : Nat → Int) (v4 : Value) (v5 : Value), v4.category = 1 → v5.category = 1 → an_GB pm_B τ → FQ [] σ τ → (((-2147483648) ≤ x0 ∧ x0 ≤ 2147483647) ∧ (0 ≤ x1 ∧ x1 ≤ 1023) ∧ (1 ≤ x2 ∧ x2 ≤ 1023) ∧ True) → (True) → (True) → (True) → Ok 220 22 48 [.ref 93, .int (Int32.ofInt (x0)), .int (Int32.ofInt (x1)), .int (Int32.ofInt (x2)), v4, v5] [.int (Int32.ofInt (x2)), .ref 93, .int (Int32.ofInt (x2)), .ref 126] τ Q)
    : Ok 220 22 43 [.ref 93, .int (Int32.ofInt (x0)), .int (Int32.ofInt (x1)), .int (Int32.ofInt (x2)), v4, v5] [] σ Q := by
  refine an_seg (B := pm_B) (F := []) (T := []) (S := []) (fun _ h => absurd h List.not_mem_nil) (k := 220) (d := 21) (cs := [48]) 7 43 3 [(0, (-2147483648), 2147483647), (1, 0, 1023), (2, 1, 1023)] [] [(2, 93, 0), (0, 0, 0), (0, 1, 0), (0, 2, 0), (5, 0, 0), (5, 0, 0)] [] [(48, [(2, 93, 0), (0, 0, 0), (0, 1, 0), (0, 2, 0), (5, 0, 0), (5, 0, 0)], [(0, 2, 0), (2, 93, 0), (0, 2, 0), (2, 126, 0)], [(0, (-2147483648), 2147483647), (1, 0, 1023), (2, 1, 1023)], [], [], [])] (by decide +kernel) (ρ0 := (fun s => [x0, x1, x2].getD s 0)) hB eF trivial ⟨rfl, ⟨rfl, ⟨rfl, ⟨rfl, ⟨hv4, ⟨hv5, trivial⟩⟩⟩⟩⟩⟩ trivial ?_
  refine List.forall_mem_cons.mpr ⟨?_, fun _ h => absurd h List.not_mem_nil⟩
  · intro ρ τ Lc stc hx g1 g2 g3 g4 g5 g6 g7 g8
    have e0 : ρ 0 = x0 := hx 0 (by decide)
    have e1 : ρ 1 = x1 := hx 1 (by decide)
    have e2 : ρ 2 = x2 := hx 2 (by decide)
    subst e0
    subst e1
    subst e2
    have g7 := g7 (by decide)
    match Lc, stc, g7, g8 with
    | [v0, v1, v2, v3, v4, v5], [w0, w1, w2, w3], ⟨hv0, hv1, hv2, hv3, hv4, hv5, _⟩, ⟨hw0, hw1, hw2, hw3, _⟩ =>
      cases hv0
      cases hv1
      cases hv2
      cases hv3
      cases hw0
      cases hw1
      cases hw2
      cases hw3
      exact l0 τ ρ v4 v5 hv4 hv5 g1 g2 g3 g4 g5 g6
set_option maxRecDepth 100000 in
theorem ld_50 {σ : pm_S} {Q : Option Value → pm_S → Prop} (x0 x1 x2 : Int) (v4 : Value) (v5 : Value) (hv4 : v4.category = 1) (hv5 : v5.category = 1) (hB : an_GB pm_B σ) (eF : ((-2147483648) ≤ x0 ∧ x0 ≤ 2147483647) ∧ (0 ≤ x1 ∧ x1 ≤ 1023) ∧ (1 ≤ x2 ∧ x2 ≤ 1023) ∧ True)
    (l0 : ∀ (τ : pm_S) (y : Nat → Int) (v4 : Value) (v5 : Value), v4.category = 1 → v5.category = 1 → an_GB pm_B τ → FQ [] σ τ → (((-2147483648) ≤ x0 ∧ x0 ≤ 2147483647) ∧ (0 ≤ x1 ∧ x1 ≤ 1023) ∧ (1 ≤ x2 ∧ x2 ≤ 1023) ∧ True) → (True) → (True) → (True) → Ok 220 22 40 [.ref 93, .int (Int32.ofInt (x0)), .int (Int32.ofInt (x1)), .int (Int32.ofInt (x2 + 1)), v4, v5] [] τ Q)
    : Ok 220 22 50 [.ref 93, .int (Int32.ofInt (x0)), .int (Int32.ofInt (x1)), .int (Int32.ofInt (x2)), v4, v5] [] σ Q := by
  refine an_seg (B := pm_B) (F := []) (T := []) (S := []) (fun _ h => absurd h List.not_mem_nil) (k := 220) (d := 21) (cs := [40]) 4 50 3 [(0, (-2147483648), 2147483647), (1, 0, 1023), (2, 1, 1023)] [] [(2, 93, 0), (0, 0, 0), (0, 1, 0), (0, 2, 0), (5, 0, 0), (5, 0, 0)] [] [(40, [(2, 93, 0), (0, 0, 0), (0, 1, 0), (0, 2, 1), (5, 0, 0), (5, 0, 0)], [], [(0, (-2147483648), 2147483647), (1, 0, 1023), (2, 1, 1023)], [], [], [])] (by decide +kernel) (ρ0 := (fun s => [x0, x1, x2].getD s 0)) hB eF trivial ⟨rfl, ⟨rfl, ⟨rfl, ⟨rfl, ⟨hv4, ⟨hv5, trivial⟩⟩⟩⟩⟩⟩ trivial ?_
  refine List.forall_mem_cons.mpr ⟨?_, fun _ h => absurd h List.not_mem_nil⟩
  · intro ρ τ Lc stc hx g1 g2 g3 g4 g5 g6 g7 g8
    have e0 : ρ 0 = x0 := hx 0 (by decide)
    have e1 : ρ 1 = x1 := hx 1 (by decide)
    have e2 : ρ 2 = x2 := hx 2 (by decide)
    subst e0
    subst e1
    subst e2
    have g7 := g7 (by decide)
    match Lc, stc, g7, g8 with
    | [v0, v1, v2, v3, v4, v5], [], ⟨hv0, hv1, hv2, hv3, hv4, hv5, _⟩, _ =>
      cases hv0
      cases hv1
      cases hv2
      cases hv3
      exact l0 τ ρ v4 v5 hv4 hv5 g1 g2 g3 g4 g5 g6
set_option maxRecDepth 100000 in
theorem ld_52 {σ : pm_S} {Q : Option Value → pm_S → Prop} (x0 x1 x2 : Int) (v3 : Value) (v4 : Value) (v5 : Value) (hv3 : v3.category = 1) (hv4 : v4.category = 1) (hv5 : v5.category = 1) (hB : an_GB pm_B σ) (eF : ((-2147483648) ≤ x0 ∧ x0 ≤ 2147483647) ∧ (0 ≤ x1 ∧ x1 ≤ 1023) ∧ (0 ≤ x2 ∧ x2 ≤ 1000) ∧ True) (eC : (σ.1 126 (x1).toNat).toInt = x2 ∧ True)
    (l0 : ∀ (τ : pm_S) (y : Nat → Int) (v3 : Value) (v4 : Value) (v5 : Value), v3.category = 1 → v4.category = 1 → v5.category = 1 → an_GB pm_B τ → FQ [] σ τ → (((-2147483648) ≤ x0 ∧ x0 ≤ 2147483647) ∧ (0 ≤ x1 ∧ x1 ≤ 1023) ∧ (0 ≤ x2 ∧ x2 ≤ 1000) ∧ True) → (x0 ≠ 0 ∧ True) → (True) → ((τ.1 126 (x1).toNat).toInt = x2 ∧ True) → Ok 220 22 68 [.ref 93, .int (Int32.ofInt (x0)), .int (Int32.ofInt (x1)), v3, v4, v5] [.int (Int32.ofInt (x2 + 9)), .int (Int32.ofInt 10), .int (Int32.ofInt (x0)), .ref 93] τ Q)
    (l1 : ∀ (τ : pm_S) (y : Nat → Int), an_GB pm_B τ → FQ [] σ τ → ((0 ≤ x0 ∧ x0 ≤ 0) ∧ (0 ≤ x1 ∧ x1 ≤ 1023) ∧ (0 ≤ x2 ∧ x2 ≤ 1000) ∧ True) → (True) → (True) → ((τ.1 126 (x1).toNat).toInt = x2 ∧ True) → Q (some (.int (Int32.ofInt (x2)))) τ)
    : Ok 220 22 52 [.ref 93, .int (Int32.ofInt (x0)), .int (Int32.ofInt (x1)), v3, v4, v5] [] σ Q := by
  refine an_seg (B := pm_B) (F := []) (T := [126]) (S := []) (fun _ h => absurd h List.not_mem_nil) (k := 220) (d := 21) (cs := [68]) 13 52 3 [(0, (-2147483648), 2147483647), (1, 0, 1023), (2, 0, 1000)] [(126, (0, 1, 0), (0, 2, 0))] [(2, 93, 0), (0, 0, 0), (0, 1, 0), (5, 0, 0), (5, 0, 0), (5, 0, 0)] [] [(68, [(2, 93, 0), (0, 0, 0), (0, 1, 0), (5, 0, 0), (5, 0, 0), (5, 0, 0)], [(0, 2, 9), (1, 0, 10), (0, 0, 0), (2, 93, 0)], [(0, (-2147483648), 2147483647), (1, 0, 1023), (2, 0, 1000)], [(3, 0, 0, 0)], [], [(126, (0, 1, 0), (0, 2, 0))]),
    (9999, [], [(0, 2, 0)], [(0, 0, 0), (1, 0, 1023), (2, 0, 1000)], [], [], [(126, (0, 1, 0), (0, 2, 0))])] (by decide +kernel) (ρ0 := (fun s => [x0, x1, x2].getD s 0)) hB eF eC ⟨rfl, ⟨rfl, ⟨rfl, ⟨hv3, ⟨hv4, ⟨hv5, trivial⟩⟩⟩⟩⟩⟩ trivial ?_
  refine List.forall_mem_cons.mpr ⟨?_, List.forall_mem_cons.mpr ⟨?_, fun _ h => absurd h List.not_mem_nil⟩⟩
  · intro ρ τ Lc stc hx g1 g2 g3 g4 g5 g6 g7 g8
    have e0 : ρ 0 = x0 := hx 0 (by decide)
    have e1 : ρ 1 = x1 := hx 1 (by decide)
    have e2 : ρ 2 = x2 := hx 2 (by decide)
    subst e0
    subst e1
    subst e2
    have g7 := g7 (by decide)
    match Lc, stc, g7, g8 with
    | [v0, v1, v2, v3, v4, v5], [w0, w1, w2, w3], ⟨hv0, hv1, hv2, hv3, hv4, hv5, _⟩, ⟨hw0, hw1, hw2, hw3, _⟩ =>
      cases hv0
      cases hv1
      cases hv2
      cases hw0
      cases hw1
      cases hw2
      cases hw3
      exact l0 τ ρ v3 v4 v5 hv3 hv4 hv5 g1 g2 g3 g4 g5 g6
  · intro ρ τ Lc stc hx g1 g2 g3 g4 g5 g6 g7 g8
    have e0 : ρ 0 = x0 := hx 0 (by decide)
    have e1 : ρ 1 = x1 := hx 1 (by decide)
    have e2 : ρ 2 = x2 := hx 2 (by decide)
    subst e0
    subst e1
    subst e2
    match stc, g8 with
    | [_], ⟨h, _⟩ => cases h; exact l1 τ ρ g1 g2 g3 g4 g5 g6
set_option maxRecDepth 100000 in
theorem ld_69n {σ : pm_S} {Q : Option Value → pm_S → Prop} (x0 x1 : Int) (v3 : Value) (v4 : Value) (v5 : Value) (hv3 : v3.category = 1) (hv4 : v4.category = 1) (hv5 : v5.category = 1) (hB : an_GB pm_B σ) (eF : ((-2147483648) ≤ x0 ∧ x0 ≤ 2147483647) ∧ (0 ≤ x1 ∧ x1 ≤ 1023) ∧ True)
    (l0 : ∀ (τ : pm_S) (y : Nat → Int), an_GB pm_B τ → FQ [] σ τ → (((-2147483648) ≤ x0 ∧ x0 ≤ 2147483647) ∧ (0 ≤ x1 ∧ x1 ≤ 1023) ∧ True) → (True) → (True) → (True) → Q (some (.int (Int32.ofInt (-1)))) τ)
    : Ok 220 22 69 [.ref 93, .int (Int32.ofInt (x0)), .int (Int32.ofInt (x1)), v3, v4, v5] [.int (Int32.ofInt 0)] σ Q := by
  refine an_seg (B := pm_B) (F := []) (T := []) (S := []) (fun _ h => absurd h List.not_mem_nil) (k := 220) (d := 21) (cs := []) 5 69 2 [(0, (-2147483648), 2147483647), (1, 0, 1023)] [] [(2, 93, 0), (0, 0, 0), (0, 1, 0), (5, 0, 0), (5, 0, 0), (5, 0, 0)] [(1, 0, 0)] [(9999, [], [(1, 0, (-1))], [(0, (-2147483648), 2147483647), (1, 0, 1023)], [], [], [])] (by decide +kernel) (ρ0 := (fun s => [x0, x1].getD s 0)) hB eF trivial ⟨rfl, ⟨rfl, ⟨rfl, ⟨hv3, ⟨hv4, ⟨hv5, trivial⟩⟩⟩⟩⟩⟩ ⟨rfl, trivial⟩ ?_
  refine List.forall_mem_cons.mpr ⟨?_, fun _ h => absurd h List.not_mem_nil⟩
  · intro ρ τ Lc stc hx g1 g2 g3 g4 g5 g6 g7 g8
    have e0 : ρ 0 = x0 := hx 0 (by decide)
    have e1 : ρ 1 = x1 := hx 1 (by decide)
    subst e0
    subst e1
    match stc, g8 with
    | [_], ⟨h, _⟩ => cases h; exact l0 τ ρ g1 g2 g3 g4 g5 g6
set_option maxRecDepth 100000 in
theorem ld_69 {σ : pm_S} {Q : Option Value → pm_S → Prop} (x0 x1 : Int) (v3 : Value) (v4 : Value) (v5 : Value) (hv3 : v3.category = 1) (hv4 : v4.category = 1) (hv5 : v5.category = 1) (hB : an_GB pm_B σ) (eF : ((-2147483648) ≤ x0 ∧ x0 ≤ 2147483647) ∧ (0 ≤ x1 ∧ x1 ≤ 1023) ∧ True)
    (l0 : ∀ (τ : pm_S) (y : Nat → Int), an_GB pm_B τ → FQ [] σ τ → (((-2147483648) ≤ x0 ∧ x0 ≤ 2147483647) ∧ (0 ≤ x1 ∧ x1 ≤ 1023) ∧ True) → (True) → (True) → (True) → Ok 220 22 78 [.ref 93, .int (Int32.ofInt (x0)), .int (Int32.ofInt (x1)), .int (Int32.ofInt (x1)), .int (Int32.ofInt 0), .int (Int32.ofInt 0)] [] τ Q)
    : Ok 220 22 69 [.ref 93, .int (Int32.ofInt (x0)), .int (Int32.ofInt (x1)), v3, v4, v5] [.int (Int32.ofInt 1)] σ Q := by
  refine an_seg (B := pm_B) (F := []) (T := []) (S := []) (fun _ h => absurd h List.not_mem_nil) (k := 220) (d := 21) (cs := [78]) 9 69 2 [(0, (-2147483648), 2147483647), (1, 0, 1023)] [] [(2, 93, 0), (0, 0, 0), (0, 1, 0), (5, 0, 0), (5, 0, 0), (5, 0, 0)] [(1, 0, 1)] [(78, [(2, 93, 0), (0, 0, 0), (0, 1, 0), (0, 1, 0), (1, 0, 0), (1, 0, 0)], [], [(0, (-2147483648), 2147483647), (1, 0, 1023)], [], [], [])] (by decide +kernel) (ρ0 := (fun s => [x0, x1].getD s 0)) hB eF trivial ⟨rfl, ⟨rfl, ⟨rfl, ⟨hv3, ⟨hv4, ⟨hv5, trivial⟩⟩⟩⟩⟩⟩ ⟨rfl, trivial⟩ ?_
  refine List.forall_mem_cons.mpr ⟨?_, fun _ h => absurd h List.not_mem_nil⟩
  · intro ρ τ Lc stc hx g1 g2 g3 g4 g5 g6 g7 g8
    have e0 : ρ 0 = x0 := hx 0 (by decide)
    have e1 : ρ 1 = x1 := hx 1 (by decide)
    subst e0
    subst e1
    have g7 := g7 (by decide)
    match Lc, stc, g7, g8 with
    | [v0, v1, v2, v3, v4, v5], [], ⟨hv0, hv1, hv2, hv3, hv4, hv5, _⟩, _ =>
      cases hv0
      cases hv1
      cases hv2
      cases hv3
      cases hv4
      cases hv5
      exact l0 τ ρ  g1 g2 g3 g4 g5 g6
set_option maxRecDepth 100000 in
theorem ld_78 {σ : pm_S} {Q : Option Value → pm_S → Prop} (x0 x1 x2 x3 x4 : Int)  (hB : an_GB pm_B σ) (eF : (10 ≤ x0 ∧ x0 ≤ 1009) ∧ (0 ≤ x1 ∧ x1 ≤ 1023) ∧ (0 ≤ x2 ∧ x2 ≤ 1023) ∧ (0 ≤ x3 ∧ x3 ≤ 1023) ∧ (0 ≤ x4 ∧ x4 ≤ 1000) ∧ True)
    (l0 : ∀ (τ : pm_S) (y : Nat → Int), an_GB pm_B τ → FQ [] σ τ → ((10 ≤ x0 ∧ x0 ≤ 1009) ∧ (0 ≤ x1 ∧ x1 ≤ 1023) ∧ (0 ≤ x2 ∧ x2 ≤ 1023) ∧ (0 ≤ x3 ∧ x3 ≤ 1023) ∧ (0 ≤ x4 ∧ x4 ≤ 1000) ∧ True) → (True) → (True) → (True) → Ok 220 22 82 [.ref 93, .int (Int32.ofInt (x0)), .int (Int32.ofInt (x1)), .int (Int32.ofInt (x2)), .int (Int32.ofInt (x3)), .int (Int32.ofInt (x4))] [.int (Int32.ofInt (x0 + (-10))), .int (Int32.ofInt (x4))] τ Q)
    : Ok 220 22 78 [.ref 93, .int (Int32.ofInt (x0)), .int (Int32.ofInt (x1)), .int (Int32.ofInt (x2)), .int (Int32.ofInt (x3)), .int (Int32.ofInt (x4))] [] σ Q := by
  refine an_seg (B := pm_B) (F := []) (T := []) (S := []) (fun _ h => absurd h List.not_mem_nil) (k := 220) (d := 21) (cs := [82]) 6 78 5 [(0, 10, 1009), (1, 0, 1023), (2, 0, 1023), (3, 0, 1023), (4, 0, 1000)] [] [(2, 93, 0), (0, 0, 0), (0, 1, 0), (0, 2, 0), (0, 3, 0), (0, 4, 0)] [] [(82, [(2, 93, 0), (0, 0, 0), (0, 1, 0), (0, 2, 0), (0, 3, 0), (0, 4, 0)], [(0, 0, (-10)), (0, 4, 0)], [(0, 10, 1009), (1, 0, 1023), (2, 0, 1023), (3, 0, 1023), (4, 0, 1000)], [], [], [])] (by decide +kernel) (ρ0 := (fun s => [x0, x1, x2, x3, x4].getD s 0)) hB eF trivial ⟨rfl, ⟨rfl, ⟨rfl, ⟨rfl, ⟨rfl, ⟨rfl, trivial⟩⟩⟩⟩⟩⟩ trivial ?_
  refine List.forall_mem_cons.mpr ⟨?_, fun _ h => absurd h List.not_mem_nil⟩
  · intro ρ τ Lc stc hx g1 g2 g3 g4 g5 g6 g7 g8
    have e0 : ρ 0 = x0 := hx 0 (by decide)
    have e1 : ρ 1 = x1 := hx 1 (by decide)
    have e2 : ρ 2 = x2 := hx 2 (by decide)
    have e3 : ρ 3 = x3 := hx 3 (by decide)
    have e4 : ρ 4 = x4 := hx 4 (by decide)
    subst e0
    subst e1
    subst e2
    subst e3
    subst e4
    have g7 := g7 (by decide)
    match Lc, stc, g7, g8 with
    | [v0, v1, v2, v3, v4, v5], [w0, w1], ⟨hv0, hv1, hv2, hv3, hv4, hv5, _⟩, ⟨hw0, hw1, _⟩ =>
      cases hv0
      cases hv1
      cases hv2
      cases hv3
      cases hv4
      cases hv5
      cases hw0
      cases hw1
      exact l0 τ ρ  g1 g2 g3 g4 g5 g6
set_option maxRecDepth 100000 in
theorem ld_83 {σ : pm_S} {Q : Option Value → pm_S → Prop} (x0 x1 x2 x3 x4 x5 : Int)  (hB : an_GB pm_B σ) (eF : (10 ≤ x0 ∧ x0 ≤ 1009) ∧ (0 ≤ x1 ∧ x1 ≤ 1023) ∧ (0 ≤ x2 ∧ x2 ≤ 1023) ∧ (0 ≤ x3 ∧ x3 ≤ 1023) ∧ (0 ≤ x4 ∧ x4 ≤ 1000) ∧ (0 ≤ x5 ∧ x5 ≤ 1000) ∧ True) (eC : (σ.1 126 (x2).toNat).toInt = x5 ∧ True)
    (l0 : ∀ (τ : pm_S) (y : Nat → Int), an_GB pm_B τ → FQ [] σ τ → ((10 ≤ x0 ∧ x0 ≤ 1009) ∧ (0 ≤ x1 ∧ x1 ≤ 1023) ∧ (0 ≤ x2 ∧ x2 ≤ 1023) ∧ (0 ≤ x3 ∧ x3 ≤ 1023) ∧ (0 ≤ x4 ∧ x4 ≤ 1000) ∧ (0 ≤ x5 ∧ x5 ≤ 1000) ∧ True) → (True) → (True) → ((τ.1 126 (x2).toNat).toInt = x5 ∧ True) → Ok 220 22 91 [.ref 93, .int (Int32.ofInt (x0)), .int (Int32.ofInt (x1)), .int (Int32.ofInt (x2)), .int (Int32.ofInt (x3)), .int (Int32.ofInt (x4))] [.int (Int32.ofInt (x5 + (-1))), .int (Int32.ofInt (x2)), .ref 93] τ Q)
    : Ok 220 22 83 [.ref 93, .int (Int32.ofInt (x0)), .int (Int32.ofInt (x1)), .int (Int32.ofInt (x2)), .int (Int32.ofInt (x3)), .int (Int32.ofInt (x4))] [] σ Q := by
  refine an_seg (B := pm_B) (F := []) (T := [126]) (S := []) (fun _ h => absurd h List.not_mem_nil) (k := 220) (d := 21) (cs := [91]) 10 83 6 [(0, 10, 1009), (1, 0, 1023), (2, 0, 1023), (3, 0, 1023), (4, 0, 1000), (5, 0, 1000)] [(126, (0, 2, 0), (0, 5, 0))] [(2, 93, 0), (0, 0, 0), (0, 1, 0), (0, 2, 0), (0, 3, 0), (0, 4, 0)] [] [(91, [(2, 93, 0), (0, 0, 0), (0, 1, 0), (0, 2, 0), (0, 3, 0), (0, 4, 0)], [(0, 5, (-1)), (0, 2, 0), (2, 93, 0)], [(0, 10, 1009), (1, 0, 1023), (2, 0, 1023), (3, 0, 1023), (4, 0, 1000), (5, 0, 1000)], [], [], [(126, (0, 2, 0), (0, 5, 0))])] (by decide +kernel) (ρ0 := (fun s => [x0, x1, x2, x3, x4, x5].getD s 0)) hB eF eC ⟨rfl, ⟨rfl, ⟨rfl, ⟨rfl, ⟨rfl, ⟨rfl, trivial⟩⟩⟩⟩⟩⟩ trivial ?_
  refine List.forall_mem_cons.mpr ⟨?_, fun _ h => absurd h List.not_mem_nil⟩
  · intro ρ τ Lc stc hx g1 g2 g3 g4 g5 g6 g7 g8
    have e0 : ρ 0 = x0 := hx 0 (by decide)
    have e1 : ρ 1 = x1 := hx 1 (by decide)
    have e2 : ρ 2 = x2 := hx 2 (by decide)
    have e3 : ρ 3 = x3 := hx 3 (by decide)
    have e4 : ρ 4 = x4 := hx 4 (by decide)
    have e5 : ρ 5 = x5 := hx 5 (by decide)
    subst e0
    subst e1
    subst e2
    subst e3
    subst e4
    subst e5
    have g7 := g7 (by decide)
    match Lc, stc, g7, g8 with
    | [v0, v1, v2, v3, v4, v5], [w0, w1, w2], ⟨hv0, hv1, hv2, hv3, hv4, hv5, _⟩, ⟨hw0, hw1, hw2, _⟩ =>
      cases hv0
      cases hv1
      cases hv2
      cases hv3
      cases hv4
      cases hv5
      cases hw0
      cases hw1
      cases hw2
      exact l0 τ ρ  g1 g2 g3 g4 g5 g6
set_option maxRecDepth 100000 in
theorem ld_92 {σ : pm_S} {Q : Option Value → pm_S → Prop} (x0 x1 x2 x3 x4 : Int) (v4 : Value) (hv4 : v4.category = 1) (hB : an_GB pm_B σ) (eF : (10 ≤ x0 ∧ x0 ≤ 1009) ∧ (0 ≤ x1 ∧ x1 ≤ 1023) ∧ (0 ≤ x2 ∧ x2 ≤ 1023) ∧ (0 ≤ x3 ∧ x3 ≤ 1000) ∧ (0 ≤ x4 ∧ x4 ≤ 1023) ∧ True)
    (l0 : ∀ (τ : pm_S) (y : Nat → Int), an_GB pm_B τ → FQ [] σ τ → ((10 ≤ x0 ∧ x0 ≤ 1009) ∧ (0 ≤ x1 ∧ x1 ≤ 1023) ∧ (0 ≤ x2 ∧ x2 ≤ 1023) ∧ (0 ≤ x3 ∧ x3 ≤ 1000) ∧ (0 ≤ x4 ∧ x4 ≤ 1023) ∧ ((-1024) ≤ y 5 ∧ y 5 ≤ (-1)) ∧ (0 ≤ y 6 ∧ y 6 ≤ 1023) ∧ True) → (y 6 ≤ x2 + 0 ∧ True) → ((an_f 5 (Int32.ofInt (x4)) (Int32.ofInt ((-1)))).toInt = y 5 ∧ (an_f 3 (Int32.ofInt (x2)) (Int32.ofInt (y 5))).toInt = y 6 ∧ True) → (True) → Ok 220 22 78 [.ref 93, .int (Int32.ofInt (x0)), .int (Int32.ofInt (x1)), .int (Int32.ofInt (y 6)), .int (Int32.ofInt (x4)), .int (Int32.ofInt (x3 + 1))] [] τ Q)
    : Ok 220 22 92 [.ref 93, .int (Int32.ofInt (x0)), .int (Int32.ofInt (x1)), .int (Int32.ofInt (x2)), v4, .int (Int32.ofInt (x3))] [.int (Int32.ofInt (x4))] σ Q := by
  refine an_seg (B := pm_B) (F := []) (T := []) (S := []) (fun _ h => absurd h List.not_mem_nil) (k := 220) (d := 21) (cs := [78]) 11 92 5 [(0, 10, 1009), (1, 0, 1023), (2, 0, 1023), (3, 0, 1000), (4, 0, 1023)] [] [(2, 93, 0), (0, 0, 0), (0, 1, 0), (0, 2, 0), (5, 0, 0), (0, 3, 0)] [(0, 4, 0)] [(78, [(2, 93, 0), (0, 0, 0), (0, 1, 0), (0, 6, 0), (0, 4, 0), (0, 3, 1)], [], [(0, 10, 1009), (1, 0, 1023), (2, 0, 1023), (3, 0, 1000), (4, 0, 1023), (5, (-1024), (-1)), (6, 0, 1023)], [(1, 6, 2, 0)], [(5, (0, 4, 0), (1, 0, (-1)), 5), (3, (0, 2, 0), (0, 5, 0), 6)], [])] (by decide +kernel) (ρ0 := (fun s => [x0, x1, x2, x3, x4].getD s 0)) hB eF trivial ⟨rfl, ⟨rfl, ⟨rfl, ⟨rfl, ⟨hv4, ⟨rfl, trivial⟩⟩⟩⟩⟩⟩ ⟨rfl, trivial⟩ ?_
  refine List.forall_mem_cons.mpr ⟨?_, fun _ h => absurd h List.not_mem_nil⟩
  · intro ρ τ Lc stc hx g1 g2 g3 g4 g5 g6 g7 g8
    have e0 : ρ 0 = x0 := hx 0 (by decide)
    have e1 : ρ 1 = x1 := hx 1 (by decide)
    have e2 : ρ 2 = x2 := hx 2 (by decide)
    have e3 : ρ 3 = x3 := hx 3 (by decide)
    have e4 : ρ 4 = x4 := hx 4 (by decide)
    subst e0
    subst e1
    subst e2
    subst e3
    subst e4
    have g7 := g7 (by decide)
    match Lc, stc, g7, g8 with
    | [v0, v1, v2, v3, v4, v5], [], ⟨hv0, hv1, hv2, hv3, hv4, hv5, _⟩, _ =>
      cases hv0
      cases hv1
      cases hv2
      cases hv3
      cases hv4
      cases hv5
      exact l0 τ ρ  g1 g2 g3 g4 g5 g6
set_option maxRecDepth 100000 in
theorem ld_101 {σ : pm_S} {Q : Option Value → pm_S → Prop} (x0 x1 x2 x3 x4 : Int)  (hB : an_GB pm_B σ) (eF : (10 ≤ x0 ∧ x0 ≤ 1009) ∧ (0 ≤ x1 ∧ x1 ≤ 1023) ∧ (0 ≤ x2 ∧ x2 ≤ 1023) ∧ (0 ≤ x3 ∧ x3 ≤ 1023) ∧ (0 ≤ x4 ∧ x4 ≤ 1000) ∧ True)
    (l0 : ∀ (τ : pm_S) (y : Nat → Int), an_GB pm_B τ → FQ [] σ τ → ((10 ≤ x0 ∧ x0 ≤ 1009) ∧ (0 ≤ x1 ∧ x1 ≤ 1023) ∧ (0 ≤ x2 ∧ x2 ≤ 1023) ∧ (0 ≤ x3 ∧ x3 ≤ 1023) ∧ (0 ≤ x4 ∧ x4 ≤ 1000) ∧ True) → (True) → (True) → (True) → Q (some (.int (Int32.ofInt (x3)))) τ)
    : Ok 220 22 101 [.ref 93, .int (Int32.ofInt (x0)), .int (Int32.ofInt (x1)), .int (Int32.ofInt (x2)), .int (Int32.ofInt (x3)), .int (Int32.ofInt (x4))] [] σ Q := by
  refine an_seg (B := pm_B) (F := []) (T := []) (S := []) (fun _ h => absurd h List.not_mem_nil) (k := 220) (d := 21) (cs := []) 4 101 5 [(0, 10, 1009), (1, 0, 1023), (2, 0, 1023), (3, 0, 1023), (4, 0, 1000)] [] [(2, 93, 0), (0, 0, 0), (0, 1, 0), (0, 2, 0), (0, 3, 0), (0, 4, 0)] [] [(9999, [], [(0, 3, 0)], [(0, 10, 1009), (1, 0, 1023), (2, 0, 1023), (3, 0, 1023), (4, 0, 1000)], [], [], [])] (by decide +kernel) (ρ0 := (fun s => [x0, x1, x2, x3, x4].getD s 0)) hB eF trivial ⟨rfl, ⟨rfl, ⟨rfl, ⟨rfl, ⟨rfl, ⟨rfl, trivial⟩⟩⟩⟩⟩⟩ trivial ?_
  refine List.forall_mem_cons.mpr ⟨?_, fun _ h => absurd h List.not_mem_nil⟩
  · intro ρ τ Lc stc hx g1 g2 g3 g4 g5 g6 g7 g8
    have e0 : ρ 0 = x0 := hx 0 (by decide)
    have e1 : ρ 1 = x1 := hx 1 (by decide)
    have e2 : ρ 2 = x2 := hx 2 (by decide)
    have e3 : ρ 3 = x3 := hx 3 (by decide)
    have e4 : ρ 4 = x4 := hx 4 (by decide)
    subst e0
    subst e1
    subst e2
    subst e3
    subst e4
    match stc, g8 with
    | [_], ⟨h, _⟩ => cases h; exact l0 τ ρ g1 g2 g3 g4 g5 g6
