/-! the class's parser: pieces -/
/-- with a fault: LawReader.readUnit -/
abbrev sf_ru : an_S := (37, 8, [(2, 67, 0, 0)], [(67, 0, 1, 3)], (0, 0, 0), [(67, 8), (67, 9), (69, 1), (70, 9999)], [(67, 0, 1, 3)])
set_option maxRecDepth 100000 in
theorem sf_ru_ok : an_sok pm_B sf_ru := an_sum (T := []) (S := []) (H := []) (f := 69) (fun _ h => absurd h List.not_mem_nil) (by decide +kernel)
/-- with a fault: LawReader.readSide -/
abbrev sf_rs : an_S := (35, 10, [(2, 67, 0, 0)], [(67, 0, 1, 3)], (0, 0, 0), [(67, 8), (67, 9), (69, 1), (70, 9999)], [(67, 0, 1, 3)])
set_option maxRecDepth 100000 in
theorem sf_rs_ok : an_sok pm_B sf_rs := an_sum (T := []) (S := [sf_ru]) (H := [(6, [(2, 67, 0, 0), (1, 0, (-27), (-27)), (1, 0, 0, 0), (5, 0, 0, 0), (5, 0, 0, 0)], [(67, 0, 1, 3)], [(2, 1, (-27)), (0, 0, 1000000000000), (0, 0, 1000000000000), (0, 0, 1000000000000)], [])]) (f := 14) (List.forall_mem_cons.mpr ⟨sf_ru_ok, fun _ h => absurd h List.not_mem_nil⟩) (by decide +kernel)
set_option maxRecDepth 100000 in
theorem py_ad {σ : pm_S} {Q : Option Value → pm_S → Prop} (x0 x1 : Int)  (hB : an_GB pm_B σ) (eF : ((-27) ≤ x0 ∧ x0 ≤ 9999) ∧ (0 ≤ x1 ∧ x1 ≤ 399) ∧ True) (eC : (σ.1 69 1).toInt = x1 ∧ True)
    (l0 : ∀ (τ : pm_S) (y : Nat → Int), an_GB pm_B τ → FQ [] σ τ → (((-27) ≤ x0 ∧ x0 ≤ 9999) ∧ (0 ≤ x1 ∧ x1 ≤ 399) ∧ True) → (True) → (True) → ((τ.1 69 1).toInt = x1 ∧ True) → Ok 14 5 11 [.ref 69, .int (Int32.ofInt (x0))] [.int (Int32.ofInt (x0)), .int (Int32.ofInt (x1)), .ref 70] τ Q)
    : Ok 14 5 0 [.ref 69, .int (Int32.ofInt (x0))] [] σ Q := by
  refine an_seg (B := pm_B) (F := []) (T := []) (S := []) (fun _ h => absurd h List.not_mem_nil) (k := 14) (d := 4) (cs := [11]) 13 0 2 [(0, (-27), 9999), (1, 0, 399)] [(69, (1, 0, 1), (0, 1, 0))] [(2, 69, 0), (0, 0, 0)] [] [(11, [(2, 69, 0), (0, 0, 0)], [(0, 0, 0), (0, 1, 0), (2, 70, 0)], [(0, (-27), 9999), (1, 0, 399)], [], [], [(69, (1, 0, 1), (0, 1, 0))])] (by decide +kernel) (ρ0 := (fun s => [x0, x1].getD s 0)) hB eF eC ⟨rfl, ⟨rfl, trivial⟩⟩ trivial ?_
  refine List.forall_mem_cons.mpr ⟨?_, fun _ h => absurd h List.not_mem_nil⟩
  · intro ρ τ Lc stc hx g1 g2 g3 g4 g5 g6 g7 g8
    have e0 : ρ 0 = x0 := hx 0 (by decide)
    have e1 : ρ 1 = x1 := hx 1 (by decide)
    subst e0
    subst e1
    have g7 := g7 (by decide)
    match Lc, stc, g7, g8 with
    | [v0, v1], [w0, w1, w2], ⟨hv0, hv1, _⟩, ⟨hw0, hw1, hw2, _⟩ =>
      cases hv0
      cases hv1
      cases hw0
      cases hw1
      cases hw2
      exact l0 τ ρ  g1 g2 g3 g4 g5 g6
set_option maxRecDepth 100000 in
theorem py_ad12 {σ : pm_S} {Q : Option Value → pm_S → Prop} (x0 x1 : Int)  (hB : an_GB pm_B σ) (eF : ((-27) ≤ x0 ∧ x0 ≤ 9999) ∧ (0 ≤ x1 ∧ x1 ≤ 399) ∧ True) (eC : (σ.1 69 1).toInt = x1 ∧ True)
    (l0 : ∀ (τ : pm_S) (y : Nat → Int), an_GB pm_B τ → FQ [(69, 1)] σ τ → (((-27) ≤ x0 ∧ x0 ≤ 9999) ∧ (0 ≤ x1 ∧ x1 ≤ 399) ∧ True) → (True) → (True) → ((τ.1 69 1).toInt = x1 + 1 ∧ True) → Q none τ)
    : Ok 14 5 12 [.ref 69, .int (Int32.ofInt (x0))] [] σ Q := by
  refine an_seg (B := pm_B) (F := [(69, 1)]) (T := []) (S := []) (fun _ h => absurd h List.not_mem_nil) (k := 14) (d := 4) (cs := []) 9 12 2 [(0, (-27), 9999), (1, 0, 399)] [(69, (1, 0, 1), (0, 1, 0))] [(2, 69, 0), (0, 0, 0)] [] [(9999, [], [], [(0, (-27), 9999), (1, 0, 399)], [], [], [(69, (1, 0, 1), (0, 1, 1))])] (by decide +kernel) (ρ0 := (fun s => [x0, x1].getD s 0)) hB eF eC ⟨rfl, ⟨rfl, trivial⟩⟩ trivial ?_
  refine List.forall_mem_cons.mpr ⟨?_, fun _ h => absurd h List.not_mem_nil⟩
  · intro ρ τ Lc stc hx g1 g2 g3 g4 g5 g6 g7 g8
    have e0 : ρ 0 = x0 := hx 0 (by decide)
    have e1 : ρ 1 = x1 := hx 1 (by decide)
    subst e0
    subst e1
    match stc, g8 with
    | [], _ => exact l0 τ ρ g1 g2 g3 g4 g5 g6
set_option maxRecDepth 100000 in
theorem py_fail {σ : pm_S} {Q : Option Value → pm_S → Prop} (x0 x1 : Int)  (hB : an_GB pm_B σ) (eF : (1 ≤ x0 ∧ x0 ≤ 3) ∧ (0 ≤ x1 ∧ x1 ≤ 400) ∧ True) (eC : (σ.1 67 0).toInt = 0 ∧ (σ.1 67 8).toInt = x1 ∧ True)
    (l0 : ∀ (τ : pm_S) (y : Nat → Int), an_GB pm_B τ → FQ [(67, 0), (67, 1)] σ τ → ((1 ≤ x0 ∧ x0 ≤ 3) ∧ (0 ≤ x1 ∧ x1 ≤ 400) ∧ ((-2147483648) ≤ y 2 ∧ y 2 ≤ 2147483647) ∧ True) → (True) → (True) → ((τ.1 67 0).toInt = x0 ∧ (τ.1 67 1).toInt = y 2 ∧ (τ.1 67 8).toInt = x1 ∧ (τ.1 73 (x1).toNat).toInt = y 2 ∧ True) → Q none τ)
    : Ok 28 5 0 [.ref 67, .int (Int32.ofInt (x0))] [] σ Q := by
  refine an_seg (B := pm_B) (F := [(67, 0), (67, 1)]) (T := [73]) (S := []) (fun _ h => absurd h List.not_mem_nil) (k := 28) (d := 4) (cs := []) 16 0 2 [(0, 1, 3), (1, 0, 400)] [(67, (1, 0, 0), (1, 0, 0)), (67, (1, 0, 8), (0, 1, 0))] [(2, 67, 0), (0, 0, 0)] [] [(9999, [], [], [(0, 1, 3), (1, 0, 400), (2, (-2147483648), 2147483647)], [], [], [(67, (1, 0, 0), (0, 0, 0)), (67, (1, 0, 1), (0, 2, 0)), (67, (1, 0, 8), (0, 1, 0)), (73, (0, 1, 0), (0, 2, 0))])] (by decide +kernel) (ρ0 := (fun s => [x0, x1].getD s 0)) hB eF eC ⟨rfl, ⟨rfl, trivial⟩⟩ trivial ?_
  refine List.forall_mem_cons.mpr ⟨?_, fun _ h => absurd h List.not_mem_nil⟩
  · intro ρ τ Lc stc hx g1 g2 g3 g4 g5 g6 g7 g8
    have e0 : ρ 0 = x0 := hx 0 (by decide)
    have e1 : ρ 1 = x1 := hx 1 (by decide)
    subst e0
    subst e1
    match stc, g8 with
    | [], _ => exact l0 τ ρ g1 g2 g3 g4 g5 g6
set_option maxRecDepth 100000 in
theorem py_av {σ : pm_S} {Q : Option Value → pm_S → Prop} (x0 x1 : Int)  (hB : an_GB pm_B σ) (eF : (0 ≤ x0 ∧ x0 ≤ 399) ∧ (0 ≤ x1 ∧ x1 ≤ 401) ∧ True) (eC : (σ.1 67 8).toInt = x0 ∧ (σ.1 67 7).toInt = x1 ∧ True)
    (l0 : ∀ (τ : pm_S) (y : Nat → Int), an_GB pm_B τ → FQ [] σ τ → ((0 ≤ x0 ∧ x0 ≤ 399) ∧ (0 ≤ x1 ∧ x1 ≤ 401) ∧ True) → (True) → (True) → ((τ.1 67 7).toInt = x1 ∧ (τ.1 67 8).toInt = x0 ∧ True) → Ok 29 5 6 [.ref 67] [.int (Int32.ofInt (x1)), .int (Int32.ofInt (x0 + 1))] τ Q)
    : Ok 29 5 0 [.ref 67] [] σ Q := by
  refine an_seg (B := pm_B) (F := []) (T := []) (S := []) (fun _ h => absurd h List.not_mem_nil) (k := 29) (d := 4) (cs := [6]) 8 0 2 [(0, 0, 399), (1, 0, 401)] [(67, (1, 0, 8), (0, 0, 0)), (67, (1, 0, 7), (0, 1, 0))] [(2, 67, 0)] [] [(6, [(2, 67, 0)], [(0, 1, 0), (0, 0, 1)], [(0, 0, 399), (1, 0, 401)], [], [], [(67, (1, 0, 7), (0, 1, 0)), (67, (1, 0, 8), (0, 0, 0))])] (by decide +kernel) (ρ0 := (fun s => [x0, x1].getD s 0)) hB eF eC ⟨rfl, trivial⟩ trivial ?_
  refine List.forall_mem_cons.mpr ⟨?_, fun _ h => absurd h List.not_mem_nil⟩
  · intro ρ τ Lc stc hx g1 g2 g3 g4 g5 g6 g7 g8
    have e0 : ρ 0 = x0 := hx 0 (by decide)
    have e1 : ρ 1 = x1 := hx 1 (by decide)
    subst e0
    subst e1
    have g7 := g7 (by decide)
    match Lc, stc, g7, g8 with
    | [v0], [w0, w1], ⟨hv0, _⟩, ⟨hw0, hw1, _⟩ =>
      cases hv0
      cases hw0
      cases hw1
      exact l0 τ ρ  g1 g2 g3 g4 g5 g6
set_option maxRecDepth 100000 in
theorem py_av7 {σ : pm_S} {Q : Option Value → pm_S → Prop} (x0 : Int)  (hB : an_GB pm_B σ) (eF : (0 ≤ x0 ∧ x0 ≤ 399) ∧ True) (eC : (σ.1 67 8).toInt = x0 ∧ True)
    (l0 : ∀ (τ : pm_S) (y : Nat → Int), an_GB pm_B τ → FQ [(67, 8), (67, 9)] σ τ → ((0 ≤ x0 ∧ x0 ≤ 399) ∧ ((-2147483648) ≤ y 1 ∧ y 1 ≤ 2147483647) ∧ True) → (True) → (True) → ((τ.1 67 8).toInt = x0 + 1 ∧ (τ.1 67 9).toInt = y 1 ∧ (τ.1 72 (x0 + 1).toNat).toInt = y 1 ∧ True) → Q none τ)
    : Ok 29 5 7 [.ref 67] [] σ Q := by
  refine an_seg (B := pm_B) (F := [(67, 8), (67, 9)]) (T := [72]) (S := []) (fun _ h => absurd h List.not_mem_nil) (k := 29) (d := 4) (cs := []) 16 7 1 [(0, 0, 399)] [(67, (1, 0, 8), (0, 0, 0))] [(2, 67, 0)] [] [(9999, [], [], [(0, 0, 399), (1, (-2147483648), 2147483647)], [], [], [(67, (1, 0, 8), (0, 0, 1)), (67, (1, 0, 9), (0, 1, 0)), (72, (0, 0, 1), (0, 1, 0))])] (by decide +kernel) (ρ0 := (fun s => [x0].getD s 0)) hB eF eC ⟨rfl, trivial⟩ trivial ?_
  refine List.forall_mem_cons.mpr ⟨?_, fun _ h => absurd h List.not_mem_nil⟩
  · intro ρ τ Lc stc hx g1 g2 g3 g4 g5 g6 g7 g8
    have e0 : ρ 0 = x0 := hx 0 (by decide)
    subst e0
    match stc, g8 with
    | [], _ => exact l0 τ ρ g1 g2 g3 g4 g5 g6
set_option maxRecDepth 100000 in
theorem py_u0 {σ : pm_S} {Q : Option Value → pm_S → Prop} (x0 : Int)  (hB : an_GB pm_B σ) (eF : ((-27) ≤ x0 ∧ x0 ≤ 9999) ∧ True) (eC : (σ.1 67 9).toInt = x0 ∧ True)
    (l0 : ∀ (τ : pm_S) (y : Nat → Int), an_GB pm_B τ → FQ [] σ τ → ((0 ≤ x0 ∧ x0 ≤ 9999) ∧ True) → (True) → (True) → ((τ.1 67 9).toInt = x0 ∧ True) → Ok 37 7 11 [.ref 67] [.int (Int32.ofInt (x0)), .ref 69] τ Q)
    (l1 : ∀ (τ : pm_S) (y : Nat → Int), an_GB pm_B τ → FQ [] σ τ → (((-6) ≤ x0 ∧ x0 ≤ (-1)) ∧ True) → (True) → (True) → ((τ.1 67 9).toInt = x0 ∧ True) → Ok 37 7 17 [.ref 67] [.int (Int32.ofInt 1), .ref 67] τ Q)
    (l2 : ∀ (τ : pm_S) (y : Nat → Int), an_GB pm_B τ → FQ [] σ τ → (((-27) ≤ x0 ∧ x0 ≤ (-16)) ∧ True) → (True) → (True) → ((τ.1 67 9).toInt = x0 ∧ True) → Ok 37 7 17 [.ref 67] [.int (Int32.ofInt 1), .ref 67] τ Q)
    (l3 : ∀ (τ : pm_S) (y : Nat → Int), an_GB pm_B τ → FQ [] σ τ → (((-15) ≤ x0 ∧ x0 ≤ (-7)) ∧ True) → (True) → (True) → ((τ.1 67 9).toInt = x0 ∧ True) → Ok 37 7 11 [.ref 67] [.int (Int32.ofInt (x0)), .ref 69] τ Q)
    : Ok 37 7 0 [.ref 67] [] σ Q := by
  refine an_seg (B := pm_B) (F := []) (T := []) (S := []) (fun _ h => absurd h List.not_mem_nil) (k := 37) (d := 6) (cs := [11, 17]) 22 0 1 [(0, (-27), 9999)] [(67, (1, 0, 9), (0, 0, 0))] [(2, 67, 0)] [] [(11, [(2, 67, 0)], [(0, 0, 0), (2, 69, 0)], [(0, 0, 9999)], [], [], [(67, (1, 0, 9), (0, 0, 0))]),
    (17, [(2, 67, 0)], [(1, 0, 1), (2, 67, 0)], [(0, (-6), (-1))], [], [], [(67, (1, 0, 9), (0, 0, 0))]),
    (17, [(2, 67, 0)], [(1, 0, 1), (2, 67, 0)], [(0, (-27), (-16))], [], [], [(67, (1, 0, 9), (0, 0, 0))]),
    (11, [(2, 67, 0)], [(0, 0, 0), (2, 69, 0)], [(0, (-15), (-7))], [], [], [(67, (1, 0, 9), (0, 0, 0))])] (by decide +kernel) (ρ0 := (fun s => [x0].getD s 0)) hB eF eC ⟨rfl, trivial⟩ trivial ?_
  refine List.forall_mem_cons.mpr ⟨?_, List.forall_mem_cons.mpr ⟨?_, List.forall_mem_cons.mpr ⟨?_, List.forall_mem_cons.mpr ⟨?_, fun _ h => absurd h List.not_mem_nil⟩⟩⟩⟩
  · intro ρ τ Lc stc hx g1 g2 g3 g4 g5 g6 g7 g8
    have e0 : ρ 0 = x0 := hx 0 (by decide)
    subst e0
    have g7 := g7 (by decide)
    match Lc, stc, g7, g8 with
    | [v0], [w0, w1], ⟨hv0, _⟩, ⟨hw0, hw1, _⟩ =>
      cases hv0
      cases hw0
      cases hw1
      exact l0 τ ρ  g1 g2 g3 g4 g5 g6
  · intro ρ τ Lc stc hx g1 g2 g3 g4 g5 g6 g7 g8
    have e0 : ρ 0 = x0 := hx 0 (by decide)
    subst e0
    have g7 := g7 (by decide)
    match Lc, stc, g7, g8 with
    | [v0], [w0, w1], ⟨hv0, _⟩, ⟨hw0, hw1, _⟩ =>
      cases hv0
      cases hw0
      cases hw1
      exact l1 τ ρ  g1 g2 g3 g4 g5 g6
  · intro ρ τ Lc stc hx g1 g2 g3 g4 g5 g6 g7 g8
    have e0 : ρ 0 = x0 := hx 0 (by decide)
    subst e0
    have g7 := g7 (by decide)
    match Lc, stc, g7, g8 with
    | [v0], [w0, w1], ⟨hv0, _⟩, ⟨hw0, hw1, _⟩ =>
      cases hv0
      cases hw0
      cases hw1
      exact l2 τ ρ  g1 g2 g3 g4 g5 g6
  · intro ρ τ Lc stc hx g1 g2 g3 g4 g5 g6 g7 g8
    have e0 : ρ 0 = x0 := hx 0 (by decide)
    subst e0
    have g7 := g7 (by decide)
    match Lc, stc, g7, g8 with
    | [v0], [w0, w1], ⟨hv0, _⟩, ⟨hw0, hw1, _⟩ =>
      cases hv0
      cases hw0
      cases hw1
      exact l3 τ ρ  g1 g2 g3 g4 g5 g6
set_option maxRecDepth 100000 in
theorem py_u12 {σ : pm_S} {Q : Option Value → pm_S → Prop}  (hB : an_GB pm_B σ)
    (l0 : ∀ (τ : pm_S) (y : Nat → Int), an_GB pm_B τ → FQ [] σ τ → (True) → (True) → (True) → (True) → Ok 37 7 13 [.ref 67] [.ref 67] τ Q)
    : Ok 37 7 12 [.ref 67] [] σ Q := by
  refine an_seg (B := pm_B) (F := []) (T := []) (S := []) (fun _ h => absurd h List.not_mem_nil) (k := 37) (d := 6) (cs := [13]) 3 12 0 [] [] [(2, 67, 0)] [] [(13, [(2, 67, 0)], [(2, 67, 0)], [], [], [], [])] (by decide +kernel) (ρ0 := (fun s => [].getD s 0)) hB trivial trivial ⟨rfl, trivial⟩ trivial ?_
  refine List.forall_mem_cons.mpr ⟨?_, fun _ h => absurd h List.not_mem_nil⟩
  · intro ρ τ Lc stc hx g1 g2 g3 g4 g5 g6 g7 g8
    have g7 := g7 (by decide)
    match Lc, stc, g7, g8 with
    | [v0], [w0], ⟨hv0, _⟩, ⟨hw0, _⟩ =>
      cases hv0
      cases hw0
      exact l0 τ ρ  g1 g2 g3 g4 g5 g6
set_option maxRecDepth 100000 in
theorem py_u14 {σ : pm_S} {Q : Option Value → pm_S → Prop}  (hB : an_GB pm_B σ)
    (l0 : ∀ (τ : pm_S) (y : Nat → Int), an_GB pm_B τ → FQ [] σ τ → (True) → (True) → (True) → (True) → Q none τ)
    : Ok 37 7 14 [.ref 67] [] σ Q := by
  refine an_seg (B := pm_B) (F := []) (T := []) (S := []) (fun _ h => absurd h List.not_mem_nil) (k := 37) (d := 6) (cs := []) 4 14 0 [] [] [(2, 67, 0)] [] [(9999, [], [], [], [], [], [])] (by decide +kernel) (ρ0 := (fun s => [].getD s 0)) hB trivial trivial ⟨rfl, trivial⟩ trivial ?_
  refine List.forall_mem_cons.mpr ⟨?_, fun _ h => absurd h List.not_mem_nil⟩
  · intro ρ τ Lc stc hx g1 g2 g3 g4 g5 g6 g7 g8
    match stc, g8 with
    | [], _ => exact l0 τ ρ g1 g2 g3 g4 g5 g6
set_option maxRecDepth 100000 in
theorem py_u18 {σ : pm_S} {Q : Option Value → pm_S → Prop}  (hB : an_GB pm_B σ)
    (l0 : ∀ (τ : pm_S) (y : Nat → Int), an_GB pm_B τ → FQ [] σ τ → (True) → (True) → (True) → (True) → Q none τ)
    : Ok 37 7 18 [.ref 67] [] σ Q := by
  refine an_seg (B := pm_B) (F := []) (T := []) (S := []) (fun _ h => absurd h List.not_mem_nil) (k := 37) (d := 6) (cs := []) 3 18 0 [] [] [(2, 67, 0)] [] [(9999, [], [], [], [], [], [])] (by decide +kernel) (ρ0 := (fun s => [].getD s 0)) hB trivial trivial ⟨rfl, trivial⟩ trivial ?_
  refine List.forall_mem_cons.mpr ⟨?_, fun _ h => absurd h List.not_mem_nil⟩
  · intro ρ τ Lc stc hx g1 g2 g3 g4 g5 g6 g7 g8
    match stc, g8 with
    | [], _ => exact l0 τ ρ g1 g2 g3 g4 g5 g6
set_option maxRecDepth 100000 in
theorem py_d0 {σ : pm_S} {Q : Option Value → pm_S → Prop} (x0 : Int)  (hB : an_GB pm_B σ) (eF : ((-27) ≤ x0 ∧ x0 ≤ 9999) ∧ True) (eC : (σ.1 67 9).toInt = x0 ∧ True)
    (l0 : ∀ (τ : pm_S) (y : Nat → Int), an_GB pm_B τ → FQ [] σ τ → ((1 ≤ x0 ∧ x0 ≤ 9999) ∧ True) → (True) → (True) → ((τ.1 67 9).toInt = x0 ∧ True) → Q none τ)
    (l1 : ∀ (τ : pm_S) (y : Nat → Int), an_GB pm_B τ → FQ [] σ τ → ((0 ≤ x0 ∧ x0 ≤ 0) ∧ True) → (True) → (True) → ((τ.1 67 9).toInt = x0 ∧ True) → Ok 36 7 12 [.ref 67] [.int (Int32.ofInt 2), .ref 67] τ Q)
    (l2 : ∀ (τ : pm_S) (y : Nat → Int), an_GB pm_B τ → FQ [] σ τ → (((-27) ≤ x0 ∧ x0 ≤ (-1)) ∧ True) → (True) → (True) → ((τ.1 67 9).toInt = x0 ∧ True) → Ok 36 7 5 [.ref 67] [.int (Int32.ofInt 1), .ref 67] τ Q)
    : Ok 36 7 0 [.ref 67] [] σ Q := by
  refine an_seg (B := pm_B) (F := []) (T := []) (S := []) (fun _ h => absurd h List.not_mem_nil) (k := 36) (d := 6) (cs := [5, 12]) 10 0 1 [(0, (-27), 9999)] [(67, (1, 0, 9), (0, 0, 0))] [(2, 67, 0)] [] [(9999, [], [], [(0, 1, 9999)], [], [], [(67, (1, 0, 9), (0, 0, 0))]),
    (12, [(2, 67, 0)], [(1, 0, 2), (2, 67, 0)], [(0, 0, 0)], [], [], [(67, (1, 0, 9), (0, 0, 0))]),
    (5, [(2, 67, 0)], [(1, 0, 1), (2, 67, 0)], [(0, (-27), (-1))], [], [], [(67, (1, 0, 9), (0, 0, 0))])] (by decide +kernel) (ρ0 := (fun s => [x0].getD s 0)) hB eF eC ⟨rfl, trivial⟩ trivial ?_
  refine List.forall_mem_cons.mpr ⟨?_, List.forall_mem_cons.mpr ⟨?_, List.forall_mem_cons.mpr ⟨?_, fun _ h => absurd h List.not_mem_nil⟩⟩⟩
  · intro ρ τ Lc stc hx g1 g2 g3 g4 g5 g6 g7 g8
    have e0 : ρ 0 = x0 := hx 0 (by decide)
    subst e0
    match stc, g8 with
    | [], _ => exact l0 τ ρ g1 g2 g3 g4 g5 g6
  · intro ρ τ Lc stc hx g1 g2 g3 g4 g5 g6 g7 g8
    have e0 : ρ 0 = x0 := hx 0 (by decide)
    subst e0
    have g7 := g7 (by decide)
    match Lc, stc, g7, g8 with
    | [v0], [w0, w1], ⟨hv0, _⟩, ⟨hw0, hw1, _⟩ =>
      cases hv0
      cases hw0
      cases hw1
      exact l1 τ ρ  g1 g2 g3 g4 g5 g6
  · intro ρ τ Lc stc hx g1 g2 g3 g4 g5 g6 g7 g8
    have e0 : ρ 0 = x0 := hx 0 (by decide)
    subst e0
    have g7 := g7 (by decide)
    match Lc, stc, g7, g8 with
    | [v0], [w0, w1], ⟨hv0, _⟩, ⟨hw0, hw1, _⟩ =>
      cases hv0
      cases hw0
      cases hw1
      exact l2 τ ρ  g1 g2 g3 g4 g5 g6
set_option maxRecDepth 100000 in
theorem py_d6 {σ : pm_S} {Q : Option Value → pm_S → Prop}  (hB : an_GB pm_B σ)
    (l0 : ∀ (τ : pm_S) (y : Nat → Int), an_GB pm_B τ → FQ [] σ τ → (True) → (True) → (True) → (True) → Q none τ)
    : Ok 36 7 6 [.ref 67] [] σ Q := by
  refine an_seg (B := pm_B) (F := []) (T := []) (S := []) (fun _ h => absurd h List.not_mem_nil) (k := 36) (d := 6) (cs := []) 4 6 0 [] [] [(2, 67, 0)] [] [(9999, [], [], [], [], [], [])] (by decide +kernel) (ρ0 := (fun s => [].getD s 0)) hB trivial trivial ⟨rfl, trivial⟩ trivial ?_
  refine List.forall_mem_cons.mpr ⟨?_, fun _ h => absurd h List.not_mem_nil⟩
  · intro ρ τ Lc stc hx g1 g2 g3 g4 g5 g6 g7 g8
    match stc, g8 with
    | [], _ => exact l0 τ ρ g1 g2 g3 g4 g5 g6
set_option maxRecDepth 100000 in
theorem py_d13 {σ : pm_S} {Q : Option Value → pm_S → Prop}  (hB : an_GB pm_B σ)
    (l0 : ∀ (τ : pm_S) (y : Nat → Int), an_GB pm_B τ → FQ [] σ τ → (True) → (True) → (True) → (True) → Q none τ)
    : Ok 36 7 13 [.ref 67] [] σ Q := by
  refine an_seg (B := pm_B) (F := []) (T := []) (S := []) (fun _ h => absurd h List.not_mem_nil) (k := 36) (d := 6) (cs := []) 3 13 0 [] [] [(2, 67, 0)] [] [(9999, [], [], [], [], [], [])] (by decide +kernel) (ρ0 := (fun s => [].getD s 0)) hB trivial trivial ⟨rfl, trivial⟩ trivial ?_
  refine List.forall_mem_cons.mpr ⟨?_, fun _ h => absurd h List.not_mem_nil⟩
  · intro ρ τ Lc stc hx g1 g2 g3 g4 g5 g6 g7 g8
    match stc, g8 with
    | [], _ => exact l0 τ ρ g1 g2 g3 g4 g5 g6
set_option maxRecDepth 100000 in
theorem py_e0 {σ : pm_S} {Q : Option Value → pm_S → Prop} (x0 x1 : Int)  (hB : an_GB pm_B σ) (eF : ((-27) ≤ x0 ∧ x0 ≤ 9999) ∧ ((-27) ≤ x1 ∧ x1 ≤ 9999) ∧ True) (eC : (σ.1 67 9).toInt = x1 ∧ True)
    (l0 : ∀ (τ : pm_S) (y : Nat → Int), an_GB pm_B τ → FQ [] σ τ → (((-27) ≤ x0 ∧ x0 ≤ 9999) ∧ ((-27) ≤ x1 ∧ x1 ≤ 9999) ∧ True) → (True) → (True) → ((τ.1 67 9).toInt = x1 ∧ True) → Ok 30 7 3 [.ref 67, .int (Int32.ofInt (x0))] [.int (Int32.ofInt (x0)), .int (Int32.ofInt (x1))] τ Q)
    : Ok 30 7 0 [.ref 67, .int (Int32.ofInt (x0))] [] σ Q := by
  refine an_seg (B := pm_B) (F := []) (T := []) (S := []) (fun _ h => absurd h List.not_mem_nil) (k := 30) (d := 6) (cs := [3]) 5 0 2 [(0, (-27), 9999), (1, (-27), 9999)] [(67, (1, 0, 9), (0, 1, 0))] [(2, 67, 0), (0, 0, 0)] [] [(3, [(2, 67, 0), (0, 0, 0)], [(0, 0, 0), (0, 1, 0)], [(0, (-27), 9999), (1, (-27), 9999)], [], [], [(67, (1, 0, 9), (0, 1, 0))])] (by decide +kernel) (ρ0 := (fun s => [x0, x1].getD s 0)) hB eF eC ⟨rfl, ⟨rfl, trivial⟩⟩ trivial ?_
  refine List.forall_mem_cons.mpr ⟨?_, fun _ h => absurd h List.not_mem_nil⟩
  · intro ρ τ Lc stc hx g1 g2 g3 g4 g5 g6 g7 g8
    have e0 : ρ 0 = x0 := hx 0 (by decide)
    have e1 : ρ 1 = x1 := hx 1 (by decide)
    subst e0
    subst e1
    have g7 := g7 (by decide)
    match Lc, stc, g7, g8 with
    | [v0, v1], [w0, w1], ⟨hv0, hv1, _⟩, ⟨hw0, hw1, _⟩ =>
      cases hv0
      cases hv1
      cases hw0
      cases hw1
      exact l0 τ ρ  g1 g2 g3 g4 g5 g6
set_option maxRecDepth 100000 in
theorem py_e4 {σ : pm_S} {Q : Option Value → pm_S → Prop} (x0 : Int)  (hB : an_GB pm_B σ) (eF : ((-27) ≤ x0 ∧ x0 ≤ 9999) ∧ True)
    (l0 : ∀ (τ : pm_S) (y : Nat → Int), an_GB pm_B τ → FQ [] σ τ → (((-27) ≤ x0 ∧ x0 ≤ 9999) ∧ True) → (True) → (True) → (True) → Ok 30 7 5 [.ref 67, .int (Int32.ofInt (x0))] [.ref 67] τ Q)
    : Ok 30 7 4 [.ref 67, .int (Int32.ofInt (x0))] [] σ Q := by
  refine an_seg (B := pm_B) (F := []) (T := []) (S := []) (fun _ h => absurd h List.not_mem_nil) (k := 30) (d := 6) (cs := [5]) 3 4 1 [(0, (-27), 9999)] [] [(2, 67, 0), (0, 0, 0)] [] [(5, [(2, 67, 0), (0, 0, 0)], [(2, 67, 0)], [(0, (-27), 9999)], [], [], [])] (by decide +kernel) (ρ0 := (fun s => [x0].getD s 0)) hB eF trivial ⟨rfl, ⟨rfl, trivial⟩⟩ trivial ?_
  refine List.forall_mem_cons.mpr ⟨?_, fun _ h => absurd h List.not_mem_nil⟩
  · intro ρ τ Lc stc hx g1 g2 g3 g4 g5 g6 g7 g8
    have e0 : ρ 0 = x0 := hx 0 (by decide)
    subst e0
    have g7 := g7 (by decide)
    match Lc, stc, g7, g8 with
    | [v0, v1], [w0], ⟨hv0, hv1, _⟩, ⟨hw0, _⟩ =>
      cases hv0
      cases hv1
      cases hw0
      exact l0 τ ρ  g1 g2 g3 g4 g5 g6
set_option maxRecDepth 100000 in
theorem py_e6 {σ : pm_S} {Q : Option Value → pm_S → Prop} (x0 : Int)  (hB : an_GB pm_B σ) (eF : ((-27) ≤ x0 ∧ x0 ≤ 9999) ∧ True)
    (l0 : ∀ (τ : pm_S) (y : Nat → Int), an_GB pm_B τ → FQ [] σ τ → (((-27) ≤ x0 ∧ x0 ≤ 9999) ∧ True) → (True) → (True) → (True) → Q none τ)
    : Ok 30 7 6 [.ref 67, .int (Int32.ofInt (x0))] [] σ Q := by
  refine an_seg (B := pm_B) (F := []) (T := []) (S := []) (fun _ h => absurd h List.not_mem_nil) (k := 30) (d := 6) (cs := []) 4 6 1 [(0, (-27), 9999)] [] [(2, 67, 0), (0, 0, 0)] [] [(9999, [], [], [(0, (-27), 9999)], [], [], [])] (by decide +kernel) (ρ0 := (fun s => [x0].getD s 0)) hB eF trivial ⟨rfl, ⟨rfl, trivial⟩⟩ trivial ?_
  refine List.forall_mem_cons.mpr ⟨?_, fun _ h => absurd h List.not_mem_nil⟩
  · intro ρ τ Lc stc hx g1 g2 g3 g4 g5 g6 g7 g8
    have e0 : ρ 0 = x0 := hx 0 (by decide)
    subst e0
    match stc, g8 with
    | [], _ => exact l0 τ ρ g1 g2 g3 g4 g5 g6
set_option maxRecDepth 100000 in
theorem py_e7 {σ : pm_S} {Q : Option Value → pm_S → Prop} (x0 : Int)  (hB : an_GB pm_B σ) (eF : ((-27) ≤ x0 ∧ x0 ≤ 9999) ∧ True)
    (l0 : ∀ (τ : pm_S) (y : Nat → Int), an_GB pm_B τ → FQ [] σ τ → (((-27) ≤ x0 ∧ x0 ≤ 9999) ∧ True) → (True) → (True) → (True) → Ok 30 7 9 [.ref 67, .int (Int32.ofInt (x0))] [.int (Int32.ofInt 1), .ref 67] τ Q)
    : Ok 30 7 7 [.ref 67, .int (Int32.ofInt (x0))] [] σ Q := by
  refine an_seg (B := pm_B) (F := []) (T := []) (S := []) (fun _ h => absurd h List.not_mem_nil) (k := 30) (d := 6) (cs := [9]) 4 7 1 [(0, (-27), 9999)] [] [(2, 67, 0), (0, 0, 0)] [] [(9, [(2, 67, 0), (0, 0, 0)], [(1, 0, 1), (2, 67, 0)], [(0, (-27), 9999)], [], [], [])] (by decide +kernel) (ρ0 := (fun s => [x0].getD s 0)) hB eF trivial ⟨rfl, ⟨rfl, trivial⟩⟩ trivial ?_
  refine List.forall_mem_cons.mpr ⟨?_, fun _ h => absurd h List.not_mem_nil⟩
  · intro ρ τ Lc stc hx g1 g2 g3 g4 g5 g6 g7 g8
    have e0 : ρ 0 = x0 := hx 0 (by decide)
    subst e0
    have g7 := g7 (by decide)
    match Lc, stc, g7, g8 with
    | [v0, v1], [w0, w1], ⟨hv0, hv1, _⟩, ⟨hw0, hw1, _⟩ =>
      cases hv0
      cases hv1
      cases hw0
      cases hw1
      exact l0 τ ρ  g1 g2 g3 g4 g5 g6
set_option maxRecDepth 100000 in
theorem py_e10 {σ : pm_S} {Q : Option Value → pm_S → Prop} (x0 : Int)  (hB : an_GB pm_B σ) (eF : ((-27) ≤ x0 ∧ x0 ≤ 9999) ∧ True)
    (l0 : ∀ (τ : pm_S) (y : Nat → Int), an_GB pm_B τ → FQ [] σ τ → (((-27) ≤ x0 ∧ x0 ≤ 9999) ∧ True) → (True) → (True) → (True) → Q none τ)
    : Ok 30 7 10 [.ref 67, .int (Int32.ofInt (x0))] [] σ Q := by
  refine an_seg (B := pm_B) (F := []) (T := []) (S := []) (fun _ h => absurd h List.not_mem_nil) (k := 30) (d := 6) (cs := []) 3 10 1 [(0, (-27), 9999)] [] [(2, 67, 0), (0, 0, 0)] [] [(9999, [], [], [(0, (-27), 9999)], [], [], [])] (by decide +kernel) (ρ0 := (fun s => [x0].getD s 0)) hB eF trivial ⟨rfl, ⟨rfl, trivial⟩⟩ trivial ?_
  refine List.forall_mem_cons.mpr ⟨?_, fun _ h => absurd h List.not_mem_nil⟩
  · intro ρ τ Lc stc hx g1 g2 g3 g4 g5 g6 g7 g8
    have e0 : ρ 0 = x0 := hx 0 (by decide)
    subst e0
    match stc, g8 with
    | [], _ => exact l0 τ ρ g1 g2 g3 g4 g5 g6
set_option maxRecDepth 100000 in
theorem py_s0 {σ : pm_S} {Q : Option Value → pm_S → Prop} (v1 : Value) (v2 : Value) (v3 : Value) (v4 : Value) (hv1 : v1.category = 1) (hv2 : v2.category = 1) (hv3 : v3.category = 1) (hv4 : v4.category = 1) (hB : an_GB pm_B σ)
    (l0 : ∀ (τ : pm_S) (y : Nat → Int) (v2 : Value) (v3 : Value) (v4 : Value), v2.category = 1 → v3.category = 1 → v4.category = 1 → an_GB pm_B τ → FQ [] σ τ → (True) → (True) → (True) → (True) → Ok 35 9 3 [.ref 67, .int (Int32.ofInt (-27)), v2, v3, v4] [.ref 67] τ Q)
    : Ok 35 9 0 [.ref 67, v1, v2, v3, v4] [] σ Q := by
  refine an_seg (B := pm_B) (F := []) (T := []) (S := []) (fun _ h => absurd h List.not_mem_nil) (k := 35) (d := 8) (cs := [3]) 5 0 0 [] [] [(2, 67, 0), (5, 0, 0), (5, 0, 0), (5, 0, 0), (5, 0, 0)] [] [(3, [(2, 67, 0), (1, 0, (-27)), (5, 0, 0), (5, 0, 0), (5, 0, 0)], [(2, 67, 0)], [], [], [], [])] (by decide +kernel) (ρ0 := (fun s => [].getD s 0)) hB trivial trivial ⟨rfl, ⟨hv1, ⟨hv2, ⟨hv3, ⟨hv4, trivial⟩⟩⟩⟩⟩ trivial ?_
  refine List.forall_mem_cons.mpr ⟨?_, fun _ h => absurd h List.not_mem_nil⟩
  · intro ρ τ Lc stc hx g1 g2 g3 g4 g5 g6 g7 g8
    have g7 := g7 (by decide)
    match Lc, stc, g7, g8 with
    | [v0, v1, v2, v3, v4], [w0], ⟨hv0, hv1, hv2, hv3, hv4, _⟩, ⟨hw0, _⟩ =>
      cases hv0
      cases hv1
      cases hw0
      exact l0 τ ρ v2 v3 v4 hv2 hv3 hv4 g1 g2 g3 g4 g5 g6
set_option maxRecDepth 100000 in
theorem py_s4 {σ : pm_S} {Q : Option Value → pm_S → Prop} (v2 : Value) (v3 : Value) (v4 : Value) (hv2 : v2.category = 1) (hv3 : v3.category = 1) (hv4 : v4.category = 1) (hB : an_GB pm_B σ)
    (l0 : ∀ (τ : pm_S) (y : Nat → Int) (v3 : Value) (v4 : Value), v3.category = 1 → v4.category = 1 → an_GB pm_B τ → FQ [] σ τ → (True) → (True) → (True) → (True) → Ok 35 9 6 [.ref 67, .int (Int32.ofInt (-27)), .int (Int32.ofInt 0), v3, v4] [] τ Q)
    : Ok 35 9 4 [.ref 67, .int (Int32.ofInt (-27)), v2, v3, v4] [] σ Q := by
  refine an_seg (B := pm_B) (F := []) (T := []) (S := []) (fun _ h => absurd h List.not_mem_nil) (k := 35) (d := 8) (cs := [6]) 4 4 0 [] [] [(2, 67, 0), (1, 0, (-27)), (5, 0, 0), (5, 0, 0), (5, 0, 0)] [] [(6, [(2, 67, 0), (1, 0, (-27)), (1, 0, 0), (5, 0, 0), (5, 0, 0)], [], [], [], [], [])] (by decide +kernel) (ρ0 := (fun s => [].getD s 0)) hB trivial trivial ⟨rfl, ⟨rfl, ⟨hv2, ⟨hv3, ⟨hv4, trivial⟩⟩⟩⟩⟩ trivial ?_
  refine List.forall_mem_cons.mpr ⟨?_, fun _ h => absurd h List.not_mem_nil⟩
  · intro ρ τ Lc stc hx g1 g2 g3 g4 g5 g6 g7 g8
    have g7 := g7 (by decide)
    match Lc, stc, g7, g8 with
    | [v0, v1, v2, v3, v4], [], ⟨hv0, hv1, hv2, hv3, hv4, _⟩, _ =>
      cases hv0
      cases hv1
      cases hv2
      exact l0 τ ρ v3 v4 hv3 hv4 g1 g2 g3 g4 g5 g6
set_option maxRecDepth 100000 in
theorem py_s6 {σ : pm_S} {Q : Option Value → pm_S → Prop} (x0 x1 x2 : Int) (v3 : Value) (v4 : Value) (hv3 : v3.category = 1) (hv4 : v4.category = 1) (hB : an_GB pm_B σ) (eF : ((-27) ≤ x0 ∧ x0 ≤ (-17)) ∧ (0 ≤ x1 ∧ x1 ≤ 399) ∧ ((-27) ≤ x2 ∧ x2 ≤ 9999) ∧ True) (eC : (σ.1 67 0).toInt = 0 ∧ (σ.1 67 9).toInt = x2 ∧ True)
    (l0 : ∀ (τ : pm_S) (y : Nat → Int), an_GB pm_B τ → FQ [] σ τ → (((-27) ≤ x0 ∧ x0 ≤ (-27)) ∧ (0 ≤ x1 ∧ x1 ≤ 399) ∧ ((-16) ≤ x2 ∧ x2 ≤ 9999) ∧ True) → (True) → (True) → ((τ.1 67 0).toInt = 0 ∧ (τ.1 67 9).toInt = x2 ∧ True) → Q none τ)
    (l1 : ∀ (τ : pm_S) (y : Nat → Int) (v3 : Value) (v4 : Value), v3.category = 1 → v4.category = 1 → an_GB pm_B τ → FQ [] σ τ → (((-26) ≤ x0 ∧ x0 ≤ (-17)) ∧ (0 ≤ x1 ∧ x1 ≤ 399) ∧ ((-16) ≤ x2 ∧ x2 ≤ 9999) ∧ True) → (True) → (True) → ((τ.1 67 0).toInt = 0 ∧ (τ.1 67 9).toInt = x2 ∧ True) → Ok 35 9 71 [.ref 67, .int (Int32.ofInt (x0)), .int (Int32.ofInt (x1)), v3, v4] [.int (Int32.ofInt (x0)), .ref 69] τ Q)
    (l2 : ∀ (τ : pm_S) (y : Nat → Int), an_GB pm_B τ → FQ [] σ τ → (((-27) ≤ x0 ∧ x0 ≤ (-27)) ∧ (0 ≤ x1 ∧ x1 ≤ 399) ∧ ((-27) ≤ x2 ∧ x2 ≤ (-21)) ∧ True) → (True) → (True) → ((τ.1 67 0).toInt = 0 ∧ (τ.1 67 9).toInt = x2 ∧ True) → Q none τ)
    (l3 : ∀ (τ : pm_S) (y : Nat → Int) (v3 : Value) (v4 : Value), v3.category = 1 → v4.category = 1 → an_GB pm_B τ → FQ [] σ τ → (((-26) ≤ x0 ∧ x0 ≤ (-17)) ∧ (0 ≤ x1 ∧ x1 ≤ 399) ∧ ((-27) ≤ x2 ∧ x2 ≤ (-21)) ∧ True) → (True) → (True) → ((τ.1 67 0).toInt = 0 ∧ (τ.1 67 9).toInt = x2 ∧ True) → Ok 35 9 71 [.ref 67, .int (Int32.ofInt (x0)), .int (Int32.ofInt (x1)), v3, v4] [.int (Int32.ofInt (x0)), .ref 69] τ Q)
    (l4 : ∀ (τ : pm_S) (y : Nat → Int), an_GB pm_B τ → FQ [] σ τ → (((-27) ≤ x0 ∧ x0 ≤ (-27)) ∧ (0 ≤ x1 ∧ x1 ≤ 399) ∧ ((-17) ≤ x2 ∧ x2 ≤ (-17)) ∧ True) → (True) → (True) → ((τ.1 67 0).toInt = 0 ∧ (τ.1 67 9).toInt = x2 ∧ True) → Ok 35 9 49 [.ref 67, .int (Int32.ofInt (-17)), .int (Int32.ofInt (x1)), .int (Int32.ofInt (x2)), .int (Int32.ofInt 1)] [.ref 67] τ Q)
    (l5 : ∀ (τ : pm_S) (y : Nat → Int), an_GB pm_B τ → FQ [] σ τ → (((-26) ≤ x0 ∧ x0 ≤ (-17)) ∧ (0 ≤ x1 ∧ x1 ≤ 399) ∧ ((-17) ≤ x2 ∧ x2 ≤ (-17)) ∧ True) → (True) → (True) → ((τ.1 67 0).toInt = 0 ∧ (τ.1 67 9).toInt = x2 ∧ True) → Ok 35 9 41 [.ref 67, .int (Int32.ofInt (x0)), .int (Int32.ofInt (x1)), .int (Int32.ofInt (x2)), .int (Int32.ofInt 1)] [.int (Int32.ofInt (x0)), .ref 69] τ Q)
    (l6 : ∀ (τ : pm_S) (y : Nat → Int), an_GB pm_B τ → FQ [] σ τ → (((-27) ≤ x0 ∧ x0 ≤ (-17)) ∧ (0 ≤ x1 ∧ x1 ≤ 399) ∧ ((-20) ≤ x2 ∧ x2 ≤ (-19)) ∧ True) → (True) → (True) → ((τ.1 67 0).toInt = 0 ∧ (τ.1 67 9).toInt = x2 ∧ True) → Ok 35 9 49 [.ref 67, .int (Int32.ofInt (x0)), .int (Int32.ofInt (x1)), .int (Int32.ofInt (x2)), .int (Int32.ofInt 0)] [.ref 67] τ Q)
    (l7 : ∀ (τ : pm_S) (y : Nat → Int), an_GB pm_B τ → FQ [] σ τ → (((-27) ≤ x0 ∧ x0 ≤ (-27)) ∧ (0 ≤ x1 ∧ x1 ≤ 399) ∧ ((-18) ≤ x2 ∧ x2 ≤ (-18)) ∧ True) → (True) → (True) → ((τ.1 67 0).toInt = 0 ∧ (τ.1 67 9).toInt = x2 ∧ True) → Ok 35 9 49 [.ref 67, .int (Int32.ofInt (-18)), .int (Int32.ofInt (x1)), .int (Int32.ofInt (x2)), .int (Int32.ofInt 1)] [.ref 67] τ Q)
    (l8 : ∀ (τ : pm_S) (y : Nat → Int), an_GB pm_B τ → FQ [] σ τ → (((-26) ≤ x0 ∧ x0 ≤ (-17)) ∧ (0 ≤ x1 ∧ x1 ≤ 399) ∧ ((-18) ≤ x2 ∧ x2 ≤ (-18)) ∧ True) → (True) → (True) → ((τ.1 67 0).toInt = 0 ∧ (τ.1 67 9).toInt = x2 ∧ True) → Ok 35 9 41 [.ref 67, .int (Int32.ofInt (x0)), .int (Int32.ofInt (x1)), .int (Int32.ofInt (x2)), .int (Int32.ofInt 1)] [.int (Int32.ofInt (x0)), .ref 69] τ Q)
    : Ok 35 9 6 [.ref 67, .int (Int32.ofInt (x0)), .int (Int32.ofInt (x1)), v3, v4] [] σ Q := by
  refine an_seg (B := pm_B) (F := []) (T := []) (S := []) (fun _ h => absurd h List.not_mem_nil) (k := 35) (d := 8) (cs := [41, 49, 71]) 39 6 3 [(0, (-27), (-17)), (1, 0, 399), (2, (-27), 9999)] [(67, (1, 0, 0), (1, 0, 0)), (67, (1, 0, 9), (0, 2, 0))] [(2, 67, 0), (0, 0, 0), (0, 1, 0), (5, 0, 0), (5, 0, 0)] [] [(9999, [], [], [(0, (-27), (-27)), (1, 0, 399), (2, (-16), 9999)], [], [], [(67, (1, 0, 0), (1, 0, 0)), (67, (1, 0, 9), (0, 2, 0))]),
    (71, [(2, 67, 0), (0, 0, 0), (0, 1, 0), (5, 0, 0), (5, 0, 0)], [(0, 0, 0), (2, 69, 0)], [(0, (-26), (-17)), (1, 0, 399), (2, (-16), 9999)], [], [], [(67, (1, 0, 0), (1, 0, 0)), (67, (1, 0, 9), (0, 2, 0))]),
    (9999, [], [], [(0, (-27), (-27)), (1, 0, 399), (2, (-27), (-21))], [], [], [(67, (1, 0, 0), (1, 0, 0)), (67, (1, 0, 9), (0, 2, 0))]),
    (71, [(2, 67, 0), (0, 0, 0), (0, 1, 0), (5, 0, 0), (5, 0, 0)], [(0, 0, 0), (2, 69, 0)], [(0, (-26), (-17)), (1, 0, 399), (2, (-27), (-21))], [], [], [(67, (1, 0, 0), (1, 0, 0)), (67, (1, 0, 9), (0, 2, 0))]),
    (49, [(2, 67, 0), (1, 0, (-17)), (0, 1, 0), (0, 2, 0), (1, 0, 1)], [(2, 67, 0)], [(0, (-27), (-27)), (1, 0, 399), (2, (-17), (-17))], [], [], [(67, (1, 0, 0), (1, 0, 0)), (67, (1, 0, 9), (0, 2, 0))]),
    (41, [(2, 67, 0), (0, 0, 0), (0, 1, 0), (0, 2, 0), (1, 0, 1)], [(0, 0, 0), (2, 69, 0)], [(0, (-26), (-17)), (1, 0, 399), (2, (-17), (-17))], [], [], [(67, (1, 0, 0), (1, 0, 0)), (67, (1, 0, 9), (0, 2, 0))]),
    (49, [(2, 67, 0), (0, 0, 0), (0, 1, 0), (0, 2, 0), (1, 0, 0)], [(2, 67, 0)], [(0, (-27), (-17)), (1, 0, 399), (2, (-20), (-19))], [], [], [(67, (1, 0, 0), (1, 0, 0)), (67, (1, 0, 9), (0, 2, 0))]),
    (49, [(2, 67, 0), (1, 0, (-18)), (0, 1, 0), (0, 2, 0), (1, 0, 1)], [(2, 67, 0)], [(0, (-27), (-27)), (1, 0, 399), (2, (-18), (-18))], [], [], [(67, (1, 0, 0), (1, 0, 0)), (67, (1, 0, 9), (0, 2, 0))]),
    (41, [(2, 67, 0), (0, 0, 0), (0, 1, 0), (0, 2, 0), (1, 0, 1)], [(0, 0, 0), (2, 69, 0)], [(0, (-26), (-17)), (1, 0, 399), (2, (-18), (-18))], [], [], [(67, (1, 0, 0), (1, 0, 0)), (67, (1, 0, 9), (0, 2, 0))])] (by decide +kernel) (ρ0 := (fun s => [x0, x1, x2].getD s 0)) hB eF eC ⟨rfl, ⟨rfl, ⟨rfl, ⟨hv3, ⟨hv4, trivial⟩⟩⟩⟩⟩ trivial ?_
  refine List.forall_mem_cons.mpr ⟨?_, List.forall_mem_cons.mpr ⟨?_, List.forall_mem_cons.mpr ⟨?_, List.forall_mem_cons.mpr ⟨?_, List.forall_mem_cons.mpr ⟨?_, List.forall_mem_cons.mpr ⟨?_, List.forall_mem_cons.mpr ⟨?_, List.forall_mem_cons.mpr ⟨?_, List.forall_mem_cons.mpr ⟨?_, fun _ h => absurd h List.not_mem_nil⟩⟩⟩⟩⟩⟩⟩⟩⟩
  · intro ρ τ Lc stc hx g1 g2 g3 g4 g5 g6 g7 g8
    have e0 : ρ 0 = x0 := hx 0 (by decide)
    have e1 : ρ 1 = x1 := hx 1 (by decide)
    have e2 : ρ 2 = x2 := hx 2 (by decide)
    subst e0
    subst e1
    subst e2
    match stc, g8 with
    | [], _ => exact l0 τ ρ g1 g2 g3 g4 g5 g6
  · intro ρ τ Lc stc hx g1 g2 g3 g4 g5 g6 g7 g8
    have e0 : ρ 0 = x0 := hx 0 (by decide)
    have e1 : ρ 1 = x1 := hx 1 (by decide)
    have e2 : ρ 2 = x2 := hx 2 (by decide)
    subst e0
    subst e1
    subst e2
    have g7 := g7 (by decide)
    match Lc, stc, g7, g8 with
    | [v0, v1, v2, v3, v4], [w0, w1], ⟨hv0, hv1, hv2, hv3, hv4, _⟩, ⟨hw0, hw1, _⟩ =>
      cases hv0
      cases hv1
      cases hv2
      cases hw0
      cases hw1
      exact l1 τ ρ v3 v4 hv3 hv4 g1 g2 g3 g4 g5 g6
  · intro ρ τ Lc stc hx g1 g2 g3 g4 g5 g6 g7 g8
    have e0 : ρ 0 = x0 := hx 0 (by decide)
    have e1 : ρ 1 = x1 := hx 1 (by decide)
    have e2 : ρ 2 = x2 := hx 2 (by decide)
    subst e0
    subst e1
    subst e2
    match stc, g8 with
    | [], _ => exact l2 τ ρ g1 g2 g3 g4 g5 g6
  · intro ρ τ Lc stc hx g1 g2 g3 g4 g5 g6 g7 g8
    have e0 : ρ 0 = x0 := hx 0 (by decide)
    have e1 : ρ 1 = x1 := hx 1 (by decide)
    have e2 : ρ 2 = x2 := hx 2 (by decide)
    subst e0
    subst e1
    subst e2
    have g7 := g7 (by decide)
    match Lc, stc, g7, g8 with
    | [v0, v1, v2, v3, v4], [w0, w1], ⟨hv0, hv1, hv2, hv3, hv4, _⟩, ⟨hw0, hw1, _⟩ =>
      cases hv0
      cases hv1
      cases hv2
      cases hw0
      cases hw1
      exact l3 τ ρ v3 v4 hv3 hv4 g1 g2 g3 g4 g5 g6
  · intro ρ τ Lc stc hx g1 g2 g3 g4 g5 g6 g7 g8
    have e0 : ρ 0 = x0 := hx 0 (by decide)
    have e1 : ρ 1 = x1 := hx 1 (by decide)
    have e2 : ρ 2 = x2 := hx 2 (by decide)
    subst e0
    subst e1
    subst e2
    have g7 := g7 (by decide)
    match Lc, stc, g7, g8 with
    | [v0, v1, v2, v3, v4], [w0], ⟨hv0, hv1, hv2, hv3, hv4, _⟩, ⟨hw0, _⟩ =>
      cases hv0
      cases hv1
      cases hv2
      cases hv3
      cases hv4
      cases hw0
      exact l4 τ ρ  g1 g2 g3 g4 g5 g6
  · intro ρ τ Lc stc hx g1 g2 g3 g4 g5 g6 g7 g8
    have e0 : ρ 0 = x0 := hx 0 (by decide)
    have e1 : ρ 1 = x1 := hx 1 (by decide)
    have e2 : ρ 2 = x2 := hx 2 (by decide)
    subst e0
    subst e1
    subst e2
    have g7 := g7 (by decide)
    match Lc, stc, g7, g8 with
    | [v0, v1, v2, v3, v4], [w0, w1], ⟨hv0, hv1, hv2, hv3, hv4, _⟩, ⟨hw0, hw1, _⟩ =>
      cases hv0
      cases hv1
      cases hv2
      cases hv3
      cases hv4
      cases hw0
      cases hw1
      exact l5 τ ρ  g1 g2 g3 g4 g5 g6
  · intro ρ τ Lc stc hx g1 g2 g3 g4 g5 g6 g7 g8
    have e0 : ρ 0 = x0 := hx 0 (by decide)
    have e1 : ρ 1 = x1 := hx 1 (by decide)
    have e2 : ρ 2 = x2 := hx 2 (by decide)
    subst e0
    subst e1
    subst e2
    have g7 := g7 (by decide)
    match Lc, stc, g7, g8 with
    | [v0, v1, v2, v3, v4], [w0], ⟨hv0, hv1, hv2, hv3, hv4, _⟩, ⟨hw0, _⟩ =>
      cases hv0
      cases hv1
      cases hv2
      cases hv3
      cases hv4
      cases hw0
      exact l6 τ ρ  g1 g2 g3 g4 g5 g6
  · intro ρ τ Lc stc hx g1 g2 g3 g4 g5 g6 g7 g8
    have e0 : ρ 0 = x0 := hx 0 (by decide)
    have e1 : ρ 1 = x1 := hx 1 (by decide)
    have e2 : ρ 2 = x2 := hx 2 (by decide)
    subst e0
    subst e1
    subst e2
    have g7 := g7 (by decide)
    match Lc, stc, g7, g8 with
    | [v0, v1, v2, v3, v4], [w0], ⟨hv0, hv1, hv2, hv3, hv4, _⟩, ⟨hw0, _⟩ =>
      cases hv0
      cases hv1
      cases hv2
      cases hv3
      cases hv4
      cases hw0
      exact l7 τ ρ  g1 g2 g3 g4 g5 g6
  · intro ρ τ Lc stc hx g1 g2 g3 g4 g5 g6 g7 g8
    have e0 : ρ 0 = x0 := hx 0 (by decide)
    have e1 : ρ 1 = x1 := hx 1 (by decide)
    have e2 : ρ 2 = x2 := hx 2 (by decide)
    subst e0
    subst e1
    subst e2
    have g7 := g7 (by decide)
    match Lc, stc, g7, g8 with
    | [v0, v1, v2, v3, v4], [w0, w1], ⟨hv0, hv1, hv2, hv3, hv4, _⟩, ⟨hw0, hw1, _⟩ =>
      cases hv0
      cases hv1
      cases hv2
      cases hv3
      cases hv4
      cases hw0
      cases hw1
      exact l8 τ ρ  g1 g2 g3 g4 g5 g6
set_option maxRecDepth 100000 in
theorem py_s42 {σ : pm_S} {Q : Option Value → pm_S → Prop} (x0 x1 x2 : Int)  (hB : an_GB pm_B σ) (eF : ((-27) ≤ x0 ∧ x0 ≤ (-17)) ∧ (0 ≤ x1 ∧ x1 ≤ 399) ∧ ((-18) ≤ x2 ∧ x2 ≤ (-17)) ∧ True)
    (l0 : ∀ (τ : pm_S) (y : Nat → Int), an_GB pm_B τ → FQ [] σ τ → (((-27) ≤ x0 ∧ x0 ≤ (-17)) ∧ (0 ≤ x1 ∧ x1 ≤ 399) ∧ ((-18) ≤ x2 ∧ x2 ≤ (-17)) ∧ True) → (True) → (True) → (True) → Ok 35 9 49 [.ref 67, .int (Int32.ofInt (x2)), .int (Int32.ofInt (x1)), .int (Int32.ofInt (x2)), .int (Int32.ofInt 1)] [.ref 67] τ Q)
    : Ok 35 9 42 [.ref 67, .int (Int32.ofInt (x0)), .int (Int32.ofInt (x1)), .int (Int32.ofInt (x2)), .int (Int32.ofInt 1)] [] σ Q := by
  refine an_seg (B := pm_B) (F := []) (T := []) (S := []) (fun _ h => absurd h List.not_mem_nil) (k := 35) (d := 8) (cs := [49]) 8 42 3 [(0, (-27), (-17)), (1, 0, 399), (2, (-18), (-17))] [] [(2, 67, 0), (0, 0, 0), (0, 1, 0), (0, 2, 0), (1, 0, 1)] [] [(49, [(2, 67, 0), (0, 2, 0), (0, 1, 0), (0, 2, 0), (1, 0, 1)], [(2, 67, 0)], [(0, (-27), (-17)), (1, 0, 399), (2, (-18), (-17))], [], [], [])] (by decide +kernel) (ρ0 := (fun s => [x0, x1, x2].getD s 0)) hB eF trivial ⟨rfl, ⟨rfl, ⟨rfl, ⟨rfl, ⟨rfl, trivial⟩⟩⟩⟩⟩ trivial ?_
  refine List.forall_mem_cons.mpr ⟨?_, fun _ h => absurd h List.not_mem_nil⟩
  · intro ρ τ Lc stc hx g1 g2 g3 g4 g5 g6 g7 g8
    have e0 : ρ 0 = x0 := hx 0 (by decide)
    have e1 : ρ 1 = x1 := hx 1 (by decide)
    have e2 : ρ 2 = x2 := hx 2 (by decide)
    subst e0
    subst e1
    subst e2
    have g7 := g7 (by decide)
    match Lc, stc, g7, g8 with
    | [v0, v1, v2, v3, v4], [w0], ⟨hv0, hv1, hv2, hv3, hv4, _⟩, ⟨hw0, _⟩ =>
      cases hv0
      cases hv1
      cases hv2
      cases hv3
      cases hv4
      cases hw0
      exact l0 τ ρ  g1 g2 g3 g4 g5 g6
set_option maxRecDepth 100000 in
theorem py_s50 {σ : pm_S} {Q : Option Value → pm_S → Prop} (x0 x1 x2 x3 : Int)  (hB : an_GB pm_B σ) (eF : ((-27) ≤ x0 ∧ x0 ≤ (-17)) ∧ (0 ≤ x1 ∧ x1 ≤ 399) ∧ ((-20) ≤ x2 ∧ x2 ≤ (-17)) ∧ (0 ≤ x3 ∧ x3 ≤ 1) ∧ True)
    (l0 : ∀ (τ : pm_S) (y : Nat → Int), an_GB pm_B τ → FQ [] σ τ → (((-27) ≤ x0 ∧ x0 ≤ (-17)) ∧ (0 ≤ x1 ∧ x1 ≤ 399) ∧ ((-19) ≤ x2 ∧ x2 ≤ (-17)) ∧ (0 ≤ x3 ∧ x3 ≤ 1) ∧ True) → (True) → (True) → (True) → Ok 35 9 56 [.ref 67, .int (Int32.ofInt (x0)), .int (Int32.ofInt (x1)), .int (Int32.ofInt (x2)), .int (Int32.ofInt (x3))] [.ref 67] τ Q)
    (l1 : ∀ (τ : pm_S) (y : Nat → Int), an_GB pm_B τ → FQ [] σ τ → (((-27) ≤ x0 ∧ x0 ≤ (-17)) ∧ (0 ≤ x1 ∧ x1 ≤ 399) ∧ ((-20) ≤ x2 ∧ x2 ≤ (-20)) ∧ (0 ≤ x3 ∧ x3 ≤ 1) ∧ True) → (True) → (True) → (True) → Ok 35 9 54 [.ref 67, .int (Int32.ofInt (x0)), .int (Int32.ofInt (x1)), .int (Int32.ofInt (x2)), .int (Int32.ofInt (x3))] [.ref 67] τ Q)
    : Ok 35 9 50 [.ref 67, .int (Int32.ofInt (x0)), .int (Int32.ofInt (x1)), .int (Int32.ofInt (x2)), .int (Int32.ofInt (x3))] [] σ Q := by
  refine an_seg (B := pm_B) (F := []) (T := []) (S := []) (fun _ h => absurd h List.not_mem_nil) (k := 35) (d := 8) (cs := [54, 56]) 6 50 4 [(0, (-27), (-17)), (1, 0, 399), (2, (-20), (-17)), (3, 0, 1)] [] [(2, 67, 0), (0, 0, 0), (0, 1, 0), (0, 2, 0), (0, 3, 0)] [] [(56, [(2, 67, 0), (0, 0, 0), (0, 1, 0), (0, 2, 0), (0, 3, 0)], [(2, 67, 0)], [(0, (-27), (-17)), (1, 0, 399), (2, (-19), (-17)), (3, 0, 1)], [], [], []),
    (54, [(2, 67, 0), (0, 0, 0), (0, 1, 0), (0, 2, 0), (0, 3, 0)], [(2, 67, 0)], [(0, (-27), (-17)), (1, 0, 399), (2, (-20), (-20)), (3, 0, 1)], [], [], [])] (by decide +kernel) (ρ0 := (fun s => [x0, x1, x2, x3].getD s 0)) hB eF trivial ⟨rfl, ⟨rfl, ⟨rfl, ⟨rfl, ⟨rfl, trivial⟩⟩⟩⟩⟩ trivial ?_
  refine List.forall_mem_cons.mpr ⟨?_, List.forall_mem_cons.mpr ⟨?_, fun _ h => absurd h List.not_mem_nil⟩⟩
  · intro ρ τ Lc stc hx g1 g2 g3 g4 g5 g6 g7 g8
    have e0 : ρ 0 = x0 := hx 0 (by decide)
    have e1 : ρ 1 = x1 := hx 1 (by decide)
    have e2 : ρ 2 = x2 := hx 2 (by decide)
    have e3 : ρ 3 = x3 := hx 3 (by decide)
    subst e0
    subst e1
    subst e2
    subst e3
    have g7 := g7 (by decide)
    match Lc, stc, g7, g8 with
    | [v0, v1, v2, v3, v4], [w0], ⟨hv0, hv1, hv2, hv3, hv4, _⟩, ⟨hw0, _⟩ =>
      cases hv0
      cases hv1
      cases hv2
      cases hv3
      cases hv4
      cases hw0
      exact l0 τ ρ  g1 g2 g3 g4 g5 g6
  · intro ρ τ Lc stc hx g1 g2 g3 g4 g5 g6 g7 g8
    have e0 : ρ 0 = x0 := hx 0 (by decide)
    have e1 : ρ 1 = x1 := hx 1 (by decide)
    have e2 : ρ 2 = x2 := hx 2 (by decide)
    have e3 : ρ 3 = x3 := hx 3 (by decide)
    subst e0
    subst e1
    subst e2
    subst e3
    have g7 := g7 (by decide)
    match Lc, stc, g7, g8 with
    | [v0, v1, v2, v3, v4], [w0], ⟨hv0, hv1, hv2, hv3, hv4, _⟩, ⟨hw0, _⟩ =>
      cases hv0
      cases hv1
      cases hv2
      cases hv3
      cases hv4
      cases hw0
      exact l1 τ ρ  g1 g2 g3 g4 g5 g6
set_option maxRecDepth 100000 in
theorem py_s55 {σ : pm_S} {Q : Option Value → pm_S → Prop} (x0 x1 x2 x3 : Int)  (hB : an_GB pm_B σ) (eF : ((-27) ≤ x0 ∧ x0 ≤ (-17)) ∧ (0 ≤ x1 ∧ x1 ≤ 399) ∧ ((-20) ≤ x2 ∧ x2 ≤ (-17)) ∧ (0 ≤ x3 ∧ x3 ≤ 1) ∧ True)
    (l0 : ∀ (τ : pm_S) (y : Nat → Int), an_GB pm_B τ → FQ [] σ τ → (((-27) ≤ x0 ∧ x0 ≤ (-17)) ∧ (0 ≤ x1 ∧ x1 ≤ 399) ∧ ((-20) ≤ x2 ∧ x2 ≤ (-17)) ∧ (0 ≤ x3 ∧ x3 ≤ 1) ∧ True) → (True) → (True) → (True) → Ok 35 9 56 [.ref 67, .int (Int32.ofInt (x0)), .int (Int32.ofInt (x1)), .int (Int32.ofInt (x2)), .int (Int32.ofInt (x3))] [.ref 67] τ Q)
    : Ok 35 9 55 [.ref 67, .int (Int32.ofInt (x0)), .int (Int32.ofInt (x1)), .int (Int32.ofInt (x2)), .int (Int32.ofInt (x3))] [] σ Q := by
  refine an_seg (B := pm_B) (F := []) (T := []) (S := []) (fun _ h => absurd h List.not_mem_nil) (k := 35) (d := 8) (cs := [56]) 3 55 4 [(0, (-27), (-17)), (1, 0, 399), (2, (-20), (-17)), (3, 0, 1)] [] [(2, 67, 0), (0, 0, 0), (0, 1, 0), (0, 2, 0), (0, 3, 0)] [] [(56, [(2, 67, 0), (0, 0, 0), (0, 1, 0), (0, 2, 0), (0, 3, 0)], [(2, 67, 0)], [(0, (-27), (-17)), (1, 0, 399), (2, (-20), (-17)), (3, 0, 1)], [], [], [])] (by decide +kernel) (ρ0 := (fun s => [x0, x1, x2, x3].getD s 0)) hB eF trivial ⟨rfl, ⟨rfl, ⟨rfl, ⟨rfl, ⟨rfl, trivial⟩⟩⟩⟩⟩ trivial ?_
  refine List.forall_mem_cons.mpr ⟨?_, fun _ h => absurd h List.not_mem_nil⟩
  · intro ρ τ Lc stc hx g1 g2 g3 g4 g5 g6 g7 g8
    have e0 : ρ 0 = x0 := hx 0 (by decide)
    have e1 : ρ 1 = x1 := hx 1 (by decide)
    have e2 : ρ 2 = x2 := hx 2 (by decide)
    have e3 : ρ 3 = x3 := hx 3 (by decide)
    subst e0
    subst e1
    subst e2
    subst e3
    have g7 := g7 (by decide)
    match Lc, stc, g7, g8 with
    | [v0, v1, v2, v3, v4], [w0], ⟨hv0, hv1, hv2, hv3, hv4, _⟩, ⟨hw0, _⟩ =>
      cases hv0
      cases hv1
      cases hv2
      cases hv3
      cases hv4
      cases hw0
      exact l0 τ ρ  g1 g2 g3 g4 g5 g6
set_option maxRecDepth 100000 in
theorem py_s57 {σ : pm_S} {Q : Option Value → pm_S → Prop} (x0 x1 x2 x3 : Int)  (hB : an_GB pm_B σ) (eF : ((-27) ≤ x0 ∧ x0 ≤ (-17)) ∧ (0 ≤ x1 ∧ x1 ≤ 399) ∧ ((-20) ≤ x2 ∧ x2 ≤ (-17)) ∧ (0 ≤ x3 ∧ x3 ≤ 1) ∧ True)
    (l0 : ∀ (τ : pm_S) (y : Nat → Int), an_GB pm_B τ → FQ [] σ τ → (((-27) ≤ x0 ∧ x0 ≤ (-17)) ∧ (0 ≤ x1 ∧ x1 ≤ 399) ∧ ((-20) ≤ x2 ∧ x2 ≤ (-17)) ∧ (1 ≤ x3 ∧ x3 ≤ 1) ∧ True) → (True) → (True) → (True) → Ok 35 9 6 [.ref 67, .int (Int32.ofInt (x0)), .int (Int32.ofInt (x1 + 1)), .int (Int32.ofInt (x2)), .int (Int32.ofInt (x3))] [] τ Q)
    (l1 : ∀ (τ : pm_S) (y : Nat → Int), an_GB pm_B τ → FQ [] σ τ → (((-27) ≤ x0 ∧ x0 ≤ (-17)) ∧ (0 ≤ x1 ∧ x1 ≤ 399) ∧ ((-20) ≤ x2 ∧ x2 ≤ (-17)) ∧ (0 ≤ x3 ∧ x3 ≤ 0) ∧ True) → (True) → (True) → (True) → Ok 35 9 62 [.ref 67, .int (Int32.ofInt (x0)), .int (Int32.ofInt (x1)), .int (Int32.ofInt (x2)), .int (Int32.ofInt (x3))] [.int (Int32.ofInt (x2)), .ref 69] τ Q)
    : Ok 35 9 57 [.ref 67, .int (Int32.ofInt (x0)), .int (Int32.ofInt (x1)), .int (Int32.ofInt (x2)), .int (Int32.ofInt (x3))] [] σ Q := by
  refine an_seg (B := pm_B) (F := []) (T := []) (S := []) (fun _ h => absurd h List.not_mem_nil) (k := 35) (d := 8) (cs := [6, 62]) 7 57 4 [(0, (-27), (-17)), (1, 0, 399), (2, (-20), (-17)), (3, 0, 1)] [] [(2, 67, 0), (0, 0, 0), (0, 1, 0), (0, 2, 0), (0, 3, 0)] [] [(6, [(2, 67, 0), (0, 0, 0), (0, 1, 1), (0, 2, 0), (0, 3, 0)], [], [(0, (-27), (-17)), (1, 0, 399), (2, (-20), (-17)), (3, 1, 1)], [], [], []),
    (62, [(2, 67, 0), (0, 0, 0), (0, 1, 0), (0, 2, 0), (0, 3, 0)], [(0, 2, 0), (2, 69, 0)], [(0, (-27), (-17)), (1, 0, 399), (2, (-20), (-17)), (3, 0, 0)], [], [], [])] (by decide +kernel) (ρ0 := (fun s => [x0, x1, x2, x3].getD s 0)) hB eF trivial ⟨rfl, ⟨rfl, ⟨rfl, ⟨rfl, ⟨rfl, trivial⟩⟩⟩⟩⟩ trivial ?_
  refine List.forall_mem_cons.mpr ⟨?_, List.forall_mem_cons.mpr ⟨?_, fun _ h => absurd h List.not_mem_nil⟩⟩
  · intro ρ τ Lc stc hx g1 g2 g3 g4 g5 g6 g7 g8
    have e0 : ρ 0 = x0 := hx 0 (by decide)
    have e1 : ρ 1 = x1 := hx 1 (by decide)
    have e2 : ρ 2 = x2 := hx 2 (by decide)
    have e3 : ρ 3 = x3 := hx 3 (by decide)
    subst e0
    subst e1
    subst e2
    subst e3
    have g7 := g7 (by decide)
    match Lc, stc, g7, g8 with
    | [v0, v1, v2, v3, v4], [], ⟨hv0, hv1, hv2, hv3, hv4, _⟩, _ =>
      cases hv0
      cases hv1
      cases hv2
      cases hv3
      cases hv4
      exact l0 τ ρ  g1 g2 g3 g4 g5 g6
  · intro ρ τ Lc stc hx g1 g2 g3 g4 g5 g6 g7 g8
    have e0 : ρ 0 = x0 := hx 0 (by decide)
    have e1 : ρ 1 = x1 := hx 1 (by decide)
    have e2 : ρ 2 = x2 := hx 2 (by decide)
    have e3 : ρ 3 = x3 := hx 3 (by decide)
    subst e0
    subst e1
    subst e2
    subst e3
    have g7 := g7 (by decide)
    match Lc, stc, g7, g8 with
    | [v0, v1, v2, v3, v4], [w0, w1], ⟨hv0, hv1, hv2, hv3, hv4, _⟩, ⟨hw0, hw1, _⟩ =>
      cases hv0
      cases hv1
      cases hv2
      cases hv3
      cases hv4
      cases hw0
      cases hw1
      exact l1 τ ρ  g1 g2 g3 g4 g5 g6
set_option maxRecDepth 100000 in
theorem py_s63 {σ : pm_S} {Q : Option Value → pm_S → Prop} (x0 x1 x2 x3 : Int)  (hB : an_GB pm_B σ) (eF : ((-27) ≤ x0 ∧ x0 ≤ (-17)) ∧ (0 ≤ x1 ∧ x1 ≤ 399) ∧ ((-20) ≤ x2 ∧ x2 ≤ (-17)) ∧ (0 ≤ x3 ∧ x3 ≤ 1) ∧ True)
    (l0 : ∀ (τ : pm_S) (y : Nat → Int), an_GB pm_B τ → FQ [] σ τ → (((-27) ≤ x0 ∧ x0 ≤ (-17)) ∧ (0 ≤ x1 ∧ x1 ≤ 399) ∧ ((-20) ≤ x2 ∧ x2 ≤ (-17)) ∧ (0 ≤ x3 ∧ x3 ≤ 1) ∧ True) → (True) → (True) → (True) → Ok 35 9 6 [.ref 67, .int (Int32.ofInt (x0)), .int (Int32.ofInt (x1 + 1)), .int (Int32.ofInt (x2)), .int (Int32.ofInt (x3))] [] τ Q)
    : Ok 35 9 63 [.ref 67, .int (Int32.ofInt (x0)), .int (Int32.ofInt (x1)), .int (Int32.ofInt (x2)), .int (Int32.ofInt (x3))] [] σ Q := by
  refine an_seg (B := pm_B) (F := []) (T := []) (S := []) (fun _ h => absurd h List.not_mem_nil) (k := 35) (d := 8) (cs := [6]) 4 63 4 [(0, (-27), (-17)), (1, 0, 399), (2, (-20), (-17)), (3, 0, 1)] [] [(2, 67, 0), (0, 0, 0), (0, 1, 0), (0, 2, 0), (0, 3, 0)] [] [(6, [(2, 67, 0), (0, 0, 0), (0, 1, 1), (0, 2, 0), (0, 3, 0)], [], [(0, (-27), (-17)), (1, 0, 399), (2, (-20), (-17)), (3, 0, 1)], [], [], [])] (by decide +kernel) (ρ0 := (fun s => [x0, x1, x2, x3].getD s 0)) hB eF trivial ⟨rfl, ⟨rfl, ⟨rfl, ⟨rfl, ⟨rfl, trivial⟩⟩⟩⟩⟩ trivial ?_
  refine List.forall_mem_cons.mpr ⟨?_, fun _ h => absurd h List.not_mem_nil⟩
  · intro ρ τ Lc stc hx g1 g2 g3 g4 g5 g6 g7 g8
    have e0 : ρ 0 = x0 := hx 0 (by decide)
    have e1 : ρ 1 = x1 := hx 1 (by decide)
    have e2 : ρ 2 = x2 := hx 2 (by decide)
    have e3 : ρ 3 = x3 := hx 3 (by decide)
    subst e0
    subst e1
    subst e2
    subst e3
    have g7 := g7 (by decide)
    match Lc, stc, g7, g8 with
    | [v0, v1, v2, v3, v4], [], ⟨hv0, hv1, hv2, hv3, hv4, _⟩, _ =>
      cases hv0
      cases hv1
      cases hv2
      cases hv3
      cases hv4
      exact l0 τ ρ  g1 g2 g3 g4 g5 g6
set_option maxRecDepth 100000 in
theorem py_s72 {σ : pm_S} {Q : Option Value → pm_S → Prop} (v1 : Value) (v2 : Value) (v3 : Value) (v4 : Value) (hv1 : v1.category = 1) (hv2 : v2.category = 1) (hv3 : v3.category = 1) (hv4 : v4.category = 1) (hB : an_GB pm_B σ)
    (l0 : ∀ (τ : pm_S) (y : Nat → Int), an_GB pm_B τ → FQ [] σ τ → (True) → (True) → (True) → (True) → Q none τ)
    : Ok 35 9 72 [.ref 67, v1, v2, v3, v4] [] σ Q := by
  refine an_seg (B := pm_B) (F := []) (T := []) (S := []) (fun _ h => absurd h List.not_mem_nil) (k := 35) (d := 8) (cs := []) 3 72 0 [] [] [(2, 67, 0), (5, 0, 0), (5, 0, 0), (5, 0, 0), (5, 0, 0)] [] [(9999, [], [], [], [], [], [])] (by decide +kernel) (ρ0 := (fun s => [].getD s 0)) hB trivial trivial ⟨rfl, ⟨hv1, ⟨hv2, ⟨hv3, ⟨hv4, trivial⟩⟩⟩⟩⟩ trivial ?_
  refine List.forall_mem_cons.mpr ⟨?_, fun _ h => absurd h List.not_mem_nil⟩
  · intro ρ τ Lc stc hx g1 g2 g3 g4 g5 g6 g7 g8
    match stc, g8 with
    | [], _ => exact l0 τ ρ g1 g2 g3 g4 g5 g6
set_option maxRecDepth 100000 in
theorem py_sf4 {σ : pm_S} {Q : Option Value → pm_S → Prop} (x0 x1 : Int) (v2 : Value) (v3 : Value) (v4 : Value) (hv2 : v2.category = 1) (hv3 : v3.category = 1) (hv4 : v4.category = 1) (hB : an_GB pm_B σ) (eF : (1 ≤ x0 ∧ x0 ≤ 3) ∧ ((-27) ≤ x1 ∧ x1 ≤ (-27)) ∧ True) (eC : (σ.1 67 0).toInt = x0 ∧ True)
    (l0 : ∀ (τ : pm_S) (y : Nat → Int), an_GB pm_B τ → FQ [(67, 8), (67, 9), (69, 1), (70, 9999)] σ τ → ((1 ≤ x0 ∧ x0 ≤ 3) ∧ ((-27) ≤ x1 ∧ x1 ≤ (-27)) ∧ True) → (x0 ≠ 0 ∧ True) → (True) → (True) → Q none τ)
    : Ok 35 9 4 [.ref 67, .int (Int32.ofInt (x1)), v2, v3, v4] [] σ Q := by
  refine an_seg (B := pm_B) (F := [(67, 8), (67, 9), (69, 1), (70, 9999)]) (T := []) (S := [sf_ru, sf_rs]) (List.forall_mem_cons.mpr ⟨sf_ru_ok, List.forall_mem_cons.mpr ⟨sf_rs_ok, fun _ h => absurd h List.not_mem_nil⟩⟩) (k := 35) (d := 8) (cs := []) 14 4 2 [(0, 1, 3), (1, (-27), (-27))] [(67, (1, 0, 0), (0, 0, 0))] [(2, 67, 0), (0, 1, 0), (5, 0, 0), (5, 0, 0), (5, 0, 0)] [] [(9999, [], [], [(0, 1, 3), (1, (-27), (-27))], [(3, 0, 0, 0)], [], [])] (by decide +kernel) (ρ0 := (fun s => [x0, x1].getD s 0)) hB eF eC ⟨rfl, ⟨rfl, ⟨hv2, ⟨hv3, ⟨hv4, trivial⟩⟩⟩⟩⟩ trivial ?_
  refine List.forall_mem_cons.mpr ⟨?_, fun _ h => absurd h List.not_mem_nil⟩
  · intro ρ τ Lc stc hx g1 g2 g3 g4 g5 g6 g7 g8
    have e0 : ρ 0 = x0 := hx 0 (by decide)
    have e1 : ρ 1 = x1 := hx 1 (by decide)
    subst e0
    subst e1
    match stc, g8 with
    | [], _ => exact l0 τ ρ g1 g2 g3 g4 g5 g6
set_option maxRecDepth 100000 in
theorem py_sf55 {σ : pm_S} {Q : Option Value → pm_S → Prop} (x0 x1 x2 x3 x4 : Int)  (hB : an_GB pm_B σ) (eF : ((-27) ≤ x0 ∧ x0 ≤ (-17)) ∧ (0 ≤ x1 ∧ x1 ≤ 399) ∧ ((-20) ≤ x2 ∧ x2 ≤ (-17)) ∧ (0 ≤ x3 ∧ x3 ≤ 1) ∧ (1 ≤ x4 ∧ x4 ≤ 3) ∧ True) (eC : (σ.1 67 0).toInt = x4 ∧ True)
    (l0 : ∀ (τ : pm_S) (y : Nat → Int), an_GB pm_B τ → FQ [(67, 8), (67, 9), (69, 1), (70, 9999)] σ τ → (((-27) ≤ x0 ∧ x0 ≤ (-17)) ∧ (0 ≤ x1 ∧ x1 ≤ 399) ∧ ((-20) ≤ x2 ∧ x2 ≤ (-17)) ∧ (0 ≤ x3 ∧ x3 ≤ 1) ∧ (1 ≤ x4 ∧ x4 ≤ 3) ∧ True) → (True) → (True) → (True) → Q none τ)
    : Ok 35 9 55 [.ref 67, .int (Int32.ofInt (x0)), .int (Int32.ofInt (x1)), .int (Int32.ofInt (x2)), .int (Int32.ofInt (x3))] [] σ Q := by
  refine an_seg (B := pm_B) (F := [(67, 8), (67, 9), (69, 1), (70, 9999)]) (T := []) (S := [sf_ru, sf_rs]) (List.forall_mem_cons.mpr ⟨sf_ru_ok, List.forall_mem_cons.mpr ⟨sf_rs_ok, fun _ h => absurd h List.not_mem_nil⟩⟩) (k := 35) (d := 8) (cs := []) 64 55 5 [(0, (-27), (-17)), (1, 0, 399), (2, (-20), (-17)), (3, 0, 1), (4, 1, 3)] [(67, (1, 0, 0), (0, 4, 0))] [(2, 67, 0), (0, 0, 0), (0, 1, 0), (0, 2, 0), (0, 3, 0)] [] [(9999, [], [], [(0, (-27), (-17)), (1, 0, 399), (2, (-20), (-17)), (3, 0, 1), (4, 1, 3)], [], [], [])] (by decide +kernel) (ρ0 := (fun s => [x0, x1, x2, x3, x4].getD s 0)) hB eF eC ⟨rfl, ⟨rfl, ⟨rfl, ⟨rfl, ⟨rfl, trivial⟩⟩⟩⟩⟩ trivial ?_
  refine List.forall_mem_cons.mpr ⟨?_, fun _ h => absurd h List.not_mem_nil⟩
  · intro ρ τ Lc stc hx g1 g2 g3 g4 g5 g6 g7 g8
    have e0 : ρ 0 = x0 := hx 0 (by decide)
    have e1 : ρ 1 = x1 := hx 1 (by decide)
    have e2 : ρ 2 = x2 := hx 2 (by decide)
    have e3 : ρ 3 = x3 := hx 3 (by decide)
    have e4 : ρ 4 = x4 := hx 4 (by decide)
    subst e0
    subst e1
    subst e2
    subst e3
    subst e4
    match stc, g8 with
    | [], _ => exact l0 τ ρ g1 g2 g3 g4 g5 g6
set_option maxRecDepth 100000 in
theorem py_sf57 {σ : pm_S} {Q : Option Value → pm_S → Prop} (x0 x1 x2 x3 x4 : Int)  (hB : an_GB pm_B σ) (eF : ((-27) ≤ x0 ∧ x0 ≤ (-17)) ∧ (0 ≤ x1 ∧ x1 ≤ 399) ∧ ((-20) ≤ x2 ∧ x2 ≤ (-17)) ∧ (0 ≤ x3 ∧ x3 ≤ 1) ∧ (1 ≤ x4 ∧ x4 ≤ 3) ∧ True) (eC : (σ.1 67 0).toInt = x4 ∧ True)
    (l0 : ∀ (τ : pm_S) (y : Nat → Int), an_GB pm_B τ → FQ [(67, 8), (67, 9), (69, 1), (70, 9999)] σ τ → (((-27) ≤ x0 ∧ x0 ≤ (-17)) ∧ (0 ≤ x1 ∧ x1 ≤ 399) ∧ ((-20) ≤ x2 ∧ x2 ≤ (-17)) ∧ (0 ≤ x3 ∧ x3 ≤ 1) ∧ (1 ≤ x4 ∧ x4 ≤ 3) ∧ True) → (True) → (True) → (True) → Q none τ)
    : Ok 35 9 57 [.ref 67, .int (Int32.ofInt (x0)), .int (Int32.ofInt (x1)), .int (Int32.ofInt (x2)), .int (Int32.ofInt (x3))] [] σ Q := by
  refine an_seg (B := pm_B) (F := [(67, 8), (67, 9), (69, 1), (70, 9999)]) (T := []) (S := [sf_ru, sf_rs]) (List.forall_mem_cons.mpr ⟨sf_ru_ok, List.forall_mem_cons.mpr ⟨sf_rs_ok, fun _ h => absurd h List.not_mem_nil⟩⟩) (k := 35) (d := 8) (cs := []) 62 57 5 [(0, (-27), (-17)), (1, 0, 399), (2, (-20), (-17)), (3, 0, 1), (4, 1, 3)] [(67, (1, 0, 0), (0, 4, 0))] [(2, 67, 0), (0, 0, 0), (0, 1, 0), (0, 2, 0), (0, 3, 0)] [] [(9999, [], [], [(0, (-27), (-17)), (1, 0, 399), (2, (-20), (-17)), (3, 0, 1), (4, 1, 3)], [], [], [])] (by decide +kernel) (ρ0 := (fun s => [x0, x1, x2, x3, x4].getD s 0)) hB eF eC ⟨rfl, ⟨rfl, ⟨rfl, ⟨rfl, ⟨rfl, trivial⟩⟩⟩⟩⟩ trivial ?_
  refine List.forall_mem_cons.mpr ⟨?_, fun _ h => absurd h List.not_mem_nil⟩
  · intro ρ τ Lc stc hx g1 g2 g3 g4 g5 g6 g7 g8
    have e0 : ρ 0 = x0 := hx 0 (by decide)
    have e1 : ρ 1 = x1 := hx 1 (by decide)
    have e2 : ρ 2 = x2 := hx 2 (by decide)
    have e3 : ρ 3 = x3 := hx 3 (by decide)
    have e4 : ρ 4 = x4 := hx 4 (by decide)
    subst e0
    subst e1
    subst e2
    subst e3
    subst e4
    match stc, g8 with
    | [], _ => exact l0 τ ρ g1 g2 g3 g4 g5 g6
set_option maxRecDepth 100000 in
theorem py_c0 (e : Nat) {σ : pm_S} {Q : Option Value → pm_S → Prop} (x0 x1 : Int) (v2 : Value) (hv2 : v2.category = 1) (hB : an_GB pm_B σ) (eF : (0 ≤ x0 ∧ x0 ≤ 9) ∧ ((-27) ≤ x1 ∧ x1 ≤ 9999) ∧ True) (eC : (σ.1 67 9).toInt = x1 ∧ True)
    (l0 : ∀ (τ : pm_S) (y : Nat → Int) (v2 : Value), v2.category = 1 → an_GB pm_B τ → FQ [] σ τ → ((0 ≤ x0 ∧ x0 ≤ 9) ∧ ((-6) ≤ x1 ∧ x1 ≤ (-6)) ∧ True) → (True) → (True) → ((τ.1 67 9).toInt = x1 ∧ True) → Ok 33 (e + 20) 10 [.ref 67, .int (Int32.ofInt (x0)), v2] [.int (Int32.ofInt (x0)), .ref 67] τ Q)
    (l1 : ∀ (τ : pm_S) (y : Nat → Int) (v2 : Value), v2.category = 1 → an_GB pm_B τ → FQ [] σ τ → ((0 ≤ x0 ∧ x0 ≤ 9) ∧ ((-27) ≤ x1 ∧ x1 ≤ 9999) ∧ True) → (x1 ≠ (-21) ∧ x1 ≠ (-6) ∧ True) → (True) → ((τ.1 67 9).toInt = x1 ∧ True) → Ok 33 (e + 20) 13 [.ref 67, .int (Int32.ofInt (x0)), v2] [.ref 67] τ Q)
    (l2 : ∀ (τ : pm_S) (y : Nat → Int) (v2 : Value), v2.category = 1 → an_GB pm_B τ → FQ [] σ τ → ((0 ≤ x0 ∧ x0 ≤ 9) ∧ ((-21) ≤ x1 ∧ x1 ≤ (-21)) ∧ True) → (x1 ≠ (-6) ∧ True) → (True) → ((τ.1 67 9).toInt = x1 ∧ True) → Ok 33 (e + 20) 10 [.ref 67, .int (Int32.ofInt (x0)), v2] [.int (Int32.ofInt (x0)), .ref 67] τ Q)
    : Ok 33 (e + 20) 0 [.ref 67, .int (Int32.ofInt (x0)), v2] [] σ Q := by
  refine an_segE (e0 := e) (B := pm_B) (F := []) (T := []) (S := []) (fun _ h => absurd h List.not_mem_nil) (k := 33) (d := 19) (cs := [10, 13]) 12 0 2 [(0, 0, 9), (1, (-27), 9999)] [(67, (1, 0, 9), (0, 1, 0))] [(2, 67, 0), (0, 0, 0), (5, 0, 0)] [] [(10, [(2, 67, 0), (0, 0, 0), (5, 0, 0)], [(0, 0, 0), (2, 67, 0)], [(0, 0, 9), (1, (-6), (-6))], [], [], [(67, (1, 0, 9), (0, 1, 0))]),
    (13, [(2, 67, 0), (0, 0, 0), (5, 0, 0)], [(2, 67, 0)], [(0, 0, 9), (1, (-27), 9999)], [(3, 1, 1, (-21)), (3, 1, 1, (-6))], [], [(67, (1, 0, 9), (0, 1, 0))]),
    (10, [(2, 67, 0), (0, 0, 0), (5, 0, 0)], [(0, 0, 0), (2, 67, 0)], [(0, 0, 9), (1, (-21), (-21))], [(3, 1, 1, (-6))], [], [(67, (1, 0, 9), (0, 1, 0))])] (by decide +kernel) (ρ0 := (fun s => [x0, x1].getD s 0)) hB eF eC ⟨rfl, ⟨rfl, ⟨hv2, trivial⟩⟩⟩ trivial ?_
  refine List.forall_mem_cons.mpr ⟨?_, List.forall_mem_cons.mpr ⟨?_, List.forall_mem_cons.mpr ⟨?_, fun _ h => absurd h List.not_mem_nil⟩⟩⟩
  · intro ρ τ Lc stc hx g1 g2 g3 g4 g5 g6 g7 g8
    have e0 : ρ 0 = x0 := hx 0 (by decide)
    have e1 : ρ 1 = x1 := hx 1 (by decide)
    subst e0
    subst e1
    have g7 := g7 (by decide)
    match Lc, stc, g7, g8 with
    | [v0, v1, v2], [w0, w1], ⟨hv0, hv1, hv2, _⟩, ⟨hw0, hw1, _⟩ =>
      cases hv0
      cases hv1
      cases hw0
      cases hw1
      exact l0 τ ρ v2 hv2 g1 g2 g3 g4 g5 g6
  · intro ρ τ Lc stc hx g1 g2 g3 g4 g5 g6 g7 g8
    have e0 : ρ 0 = x0 := hx 0 (by decide)
    have e1 : ρ 1 = x1 := hx 1 (by decide)
    subst e0
    subst e1
    have g7 := g7 (by decide)
    match Lc, stc, g7, g8 with
    | [v0, v1, v2], [w0], ⟨hv0, hv1, hv2, _⟩, ⟨hw0, _⟩ =>
      cases hv0
      cases hv1
      cases hw0
      exact l1 τ ρ v2 hv2 g1 g2 g3 g4 g5 g6
  · intro ρ τ Lc stc hx g1 g2 g3 g4 g5 g6 g7 g8
    have e0 : ρ 0 = x0 := hx 0 (by decide)
    have e1 : ρ 1 = x1 := hx 1 (by decide)
    subst e0
    subst e1
    have g7 := g7 (by decide)
    match Lc, stc, g7, g8 with
    | [v0, v1, v2], [w0, w1], ⟨hv0, hv1, hv2, _⟩, ⟨hw0, hw1, _⟩ =>
      cases hv0
      cases hv1
      cases hw0
      cases hw1
      exact l2 τ ρ v2 hv2 g1 g2 g3 g4 g5 g6
set_option maxRecDepth 100000 in
theorem py_c11 (e : Nat) {σ : pm_S} {Q : Option Value → pm_S → Prop} (x0 : Int) (v2 : Value) (hv2 : v2.category = 1) (hB : an_GB pm_B σ) (eF : (0 ≤ x0 ∧ x0 ≤ 9) ∧ True)
    (l0 : ∀ (τ : pm_S) (y : Nat → Int), an_GB pm_B τ → FQ [] σ τ → ((0 ≤ x0 ∧ x0 ≤ 9) ∧ True) → (True) → (True) → (True) → Q none τ)
    : Ok 33 (e + 20) 11 [.ref 67, .int (Int32.ofInt (x0)), v2] [] σ Q := by
  refine an_segE (e0 := e) (B := pm_B) (F := []) (T := []) (S := []) (fun _ h => absurd h List.not_mem_nil) (k := 33) (d := 19) (cs := []) 3 11 1 [(0, 0, 9)] [] [(2, 67, 0), (0, 0, 0), (5, 0, 0)] [] [(9999, [], [], [(0, 0, 9)], [], [], [])] (by decide +kernel) (ρ0 := (fun s => [x0].getD s 0)) hB eF trivial ⟨rfl, ⟨rfl, ⟨hv2, trivial⟩⟩⟩ trivial ?_
  refine List.forall_mem_cons.mpr ⟨?_, fun _ h => absurd h List.not_mem_nil⟩
  · intro ρ τ Lc stc hx g1 g2 g3 g4 g5 g6 g7 g8
    have e0 : ρ 0 = x0 := hx 0 (by decide)
    subst e0
    match stc, g8 with
    | [], _ => exact l0 τ ρ g1 g2 g3 g4 g5 g6
set_option maxRecDepth 100000 in
theorem py_c14 (e : Nat) {σ : pm_S} {Q : Option Value → pm_S → Prop} (x0 x1 : Int) (v2 : Value) (hv2 : v2.category = 1) (hB : an_GB pm_B σ) (eF : (0 ≤ x0 ∧ x0 ≤ 9) ∧ ((-27) ≤ x1 ∧ x1 ≤ 9999) ∧ True) (eC : (σ.1 67 9).toInt = x1 ∧ True)
    (l0 : ∀ (τ : pm_S) (y : Nat → Int), an_GB pm_B τ → FQ [] σ τ → ((0 ≤ x0 ∧ x0 ≤ 9) ∧ ((-23) ≤ x1 ∧ x1 ≤ (-23)) ∧ True) → (True) → (True) → ((τ.1 67 9).toInt = x1 ∧ True) → Ok 33 (e + 20) 31 [.ref 67, .int (Int32.ofInt (x0)), .int (Int32.ofInt (x1))] [.ref 67] τ Q)
    (l1 : ∀ (τ : pm_S) (y : Nat → Int), an_GB pm_B τ → FQ [] σ τ → ((0 ≤ x0 ∧ x0 ≤ 9) ∧ ((-24) ≤ x1 ∧ x1 ≤ (-24)) ∧ True) → (x1 ≠ (-23) ∧ True) → (True) → ((τ.1 67 9).toInt = x1 ∧ True) → Ok 33 (e + 20) 31 [.ref 67, .int (Int32.ofInt (x0)), .int (Int32.ofInt (x1))] [.ref 67] τ Q)
    (l2 : ∀ (τ : pm_S) (y : Nat → Int), an_GB pm_B τ → FQ [] σ τ → ((0 ≤ x0 ∧ x0 ≤ 9) ∧ ((-25) ≤ x1 ∧ x1 ≤ (-25)) ∧ True) → (x1 ≠ (-24) ∧ x1 ≠ (-23) ∧ True) → (True) → ((τ.1 67 9).toInt = x1 ∧ True) → Ok 33 (e + 20) 31 [.ref 67, .int (Int32.ofInt (x0)), .int (Int32.ofInt (x1))] [.ref 67] τ Q)
    (l3 : ∀ (τ : pm_S) (y : Nat → Int), an_GB pm_B τ → FQ [] σ τ → ((0 ≤ x0 ∧ x0 ≤ 9) ∧ ((-27) ≤ x1 ∧ x1 ≤ 9999) ∧ True) → (x1 ≠ (-25) ∧ x1 ≠ (-24) ∧ x1 ≠ (-23) ∧ True) → (True) → ((τ.1 67 9).toInt = x1 ∧ True) → Ok 33 (e + 20) 28 [.ref 67, .int (Int32.ofInt (x0)), .int (Int32.ofInt (x1))] [.int (Int32.ofInt 1), .ref 67] τ Q)
    : Ok 33 (e + 20) 14 [.ref 67, .int (Int32.ofInt (x0)), v2] [] σ Q := by
  refine an_segE (e0 := e) (B := pm_B) (F := []) (T := []) (S := []) (fun _ h => absurd h List.not_mem_nil) (k := 33) (d := 19) (cs := [28, 31]) 16 14 2 [(0, 0, 9), (1, (-27), 9999)] [(67, (1, 0, 9), (0, 1, 0))] [(2, 67, 0), (0, 0, 0), (5, 0, 0)] [] [(31, [(2, 67, 0), (0, 0, 0), (0, 1, 0)], [(2, 67, 0)], [(0, 0, 9), (1, (-23), (-23))], [], [], [(67, (1, 0, 9), (0, 1, 0))]),
    (31, [(2, 67, 0), (0, 0, 0), (0, 1, 0)], [(2, 67, 0)], [(0, 0, 9), (1, (-24), (-24))], [(3, 1, 1, (-23))], [], [(67, (1, 0, 9), (0, 1, 0))]),
    (31, [(2, 67, 0), (0, 0, 0), (0, 1, 0)], [(2, 67, 0)], [(0, 0, 9), (1, (-25), (-25))], [(3, 1, 1, (-24)), (3, 1, 1, (-23))], [], [(67, (1, 0, 9), (0, 1, 0))]),
    (28, [(2, 67, 0), (0, 0, 0), (0, 1, 0)], [(1, 0, 1), (2, 67, 0)], [(0, 0, 9), (1, (-27), 9999)], [(3, 1, 1, (-25)), (3, 1, 1, (-24)), (3, 1, 1, (-23))], [], [(67, (1, 0, 9), (0, 1, 0))])] (by decide +kernel) (ρ0 := (fun s => [x0, x1].getD s 0)) hB eF eC ⟨rfl, ⟨rfl, ⟨hv2, trivial⟩⟩⟩ trivial ?_
  refine List.forall_mem_cons.mpr ⟨?_, List.forall_mem_cons.mpr ⟨?_, List.forall_mem_cons.mpr ⟨?_, List.forall_mem_cons.mpr ⟨?_, fun _ h => absurd h List.not_mem_nil⟩⟩⟩⟩
  · intro ρ τ Lc stc hx g1 g2 g3 g4 g5 g6 g7 g8
    have e0 : ρ 0 = x0 := hx 0 (by decide)
    have e1 : ρ 1 = x1 := hx 1 (by decide)
    subst e0
    subst e1
    have g7 := g7 (by decide)
    match Lc, stc, g7, g8 with
    | [v0, v1, v2], [w0], ⟨hv0, hv1, hv2, _⟩, ⟨hw0, _⟩ =>
      cases hv0
      cases hv1
      cases hv2
      cases hw0
      exact l0 τ ρ  g1 g2 g3 g4 g5 g6
  · intro ρ τ Lc stc hx g1 g2 g3 g4 g5 g6 g7 g8
    have e0 : ρ 0 = x0 := hx 0 (by decide)
    have e1 : ρ 1 = x1 := hx 1 (by decide)
    subst e0
    subst e1
    have g7 := g7 (by decide)
    match Lc, stc, g7, g8 with
    | [v0, v1, v2], [w0], ⟨hv0, hv1, hv2, _⟩, ⟨hw0, _⟩ =>
      cases hv0
      cases hv1
      cases hv2
      cases hw0
      exact l1 τ ρ  g1 g2 g3 g4 g5 g6
  · intro ρ τ Lc stc hx g1 g2 g3 g4 g5 g6 g7 g8
    have e0 : ρ 0 = x0 := hx 0 (by decide)
    have e1 : ρ 1 = x1 := hx 1 (by decide)
    subst e0
    subst e1
    have g7 := g7 (by decide)
    match Lc, stc, g7, g8 with
    | [v0, v1, v2], [w0], ⟨hv0, hv1, hv2, _⟩, ⟨hw0, _⟩ =>
      cases hv0
      cases hv1
      cases hv2
      cases hw0
      exact l2 τ ρ  g1 g2 g3 g4 g5 g6
  · intro ρ τ Lc stc hx g1 g2 g3 g4 g5 g6 g7 g8
    have e0 : ρ 0 = x0 := hx 0 (by decide)
    have e1 : ρ 1 = x1 := hx 1 (by decide)
    subst e0
    subst e1
    have g7 := g7 (by decide)
    match Lc, stc, g7, g8 with
    | [v0, v1, v2], [w0, w1], ⟨hv0, hv1, hv2, _⟩, ⟨hw0, hw1, _⟩ =>
      cases hv0
      cases hv1
      cases hv2
      cases hw0
      cases hw1
      exact l3 τ ρ  g1 g2 g3 g4 g5 g6
set_option maxRecDepth 100000 in
theorem py_c29 (e : Nat) {σ : pm_S} {Q : Option Value → pm_S → Prop} (x0 x1 : Int)  (hB : an_GB pm_B σ) (eF : (0 ≤ x0 ∧ x0 ≤ 9) ∧ ((-27) ≤ x1 ∧ x1 ≤ 9999) ∧ True)
    (l0 : ∀ (τ : pm_S) (y : Nat → Int), an_GB pm_B τ → FQ [] σ τ → ((0 ≤ x0 ∧ x0 ≤ 9) ∧ ((-27) ≤ x1 ∧ x1 ≤ 9999) ∧ True) → (True) → (True) → (True) → Q none τ)
    : Ok 33 (e + 20) 29 [.ref 67, .int (Int32.ofInt (x0)), .int (Int32.ofInt (x1))] [] σ Q := by
  refine an_segE (e0 := e) (B := pm_B) (F := []) (T := []) (S := []) (fun _ h => absurd h List.not_mem_nil) (k := 33) (d := 19) (cs := []) 3 29 2 [(0, 0, 9), (1, (-27), 9999)] [] [(2, 67, 0), (0, 0, 0), (0, 1, 0)] [] [(9999, [], [], [(0, 0, 9), (1, (-27), 9999)], [], [], [])] (by decide +kernel) (ρ0 := (fun s => [x0, x1].getD s 0)) hB eF trivial ⟨rfl, ⟨rfl, ⟨rfl, trivial⟩⟩⟩ trivial ?_
  refine List.forall_mem_cons.mpr ⟨?_, fun _ h => absurd h List.not_mem_nil⟩
  · intro ρ τ Lc stc hx g1 g2 g3 g4 g5 g6 g7 g8
    have e0 : ρ 0 = x0 := hx 0 (by decide)
    have e1 : ρ 1 = x1 := hx 1 (by decide)
    subst e0
    subst e1
    match stc, g8 with
    | [], _ => exact l0 τ ρ g1 g2 g3 g4 g5 g6
set_option maxRecDepth 100000 in
theorem py_c32 (e : Nat) {σ : pm_S} {Q : Option Value → pm_S → Prop} (x0 x1 : Int)  (hB : an_GB pm_B σ) (eF : (0 ≤ x0 ∧ x0 ≤ 9) ∧ ((-25) ≤ x1 ∧ x1 ≤ (-23)) ∧ True)
    (l0 : ∀ (τ : pm_S) (y : Nat → Int), an_GB pm_B τ → FQ [] σ τ → ((0 ≤ x0 ∧ x0 ≤ 9) ∧ ((-25) ≤ x1 ∧ x1 ≤ (-23)) ∧ True) → (True) → (True) → (True) → Ok 33 (e + 20) 33 [.ref 67, .int (Int32.ofInt (x0)), .int (Int32.ofInt (x1))] [.ref 67] τ Q)
    : Ok 33 (e + 20) 32 [.ref 67, .int (Int32.ofInt (x0)), .int (Int32.ofInt (x1))] [] σ Q := by
  refine an_segE (e0 := e) (B := pm_B) (F := []) (T := []) (S := []) (fun _ h => absurd h List.not_mem_nil) (k := 33) (d := 19) (cs := [33]) 3 32 2 [(0, 0, 9), (1, (-25), (-23))] [] [(2, 67, 0), (0, 0, 0), (0, 1, 0)] [] [(33, [(2, 67, 0), (0, 0, 0), (0, 1, 0)], [(2, 67, 0)], [(0, 0, 9), (1, (-25), (-23))], [], [], [])] (by decide +kernel) (ρ0 := (fun s => [x0, x1].getD s 0)) hB eF trivial ⟨rfl, ⟨rfl, ⟨rfl, trivial⟩⟩⟩ trivial ?_
  refine List.forall_mem_cons.mpr ⟨?_, fun _ h => absurd h List.not_mem_nil⟩
  · intro ρ τ Lc stc hx g1 g2 g3 g4 g5 g6 g7 g8
    have e0 : ρ 0 = x0 := hx 0 (by decide)
    have e1 : ρ 1 = x1 := hx 1 (by decide)
    subst e0
    subst e1
    have g7 := g7 (by decide)
    match Lc, stc, g7, g8 with
    | [v0, v1, v2], [w0], ⟨hv0, hv1, hv2, _⟩, ⟨hw0, _⟩ =>
      cases hv0
      cases hv1
      cases hv2
      cases hw0
      exact l0 τ ρ  g1 g2 g3 g4 g5 g6
set_option maxRecDepth 100000 in
theorem py_c34 (e : Nat) {σ : pm_S} {Q : Option Value → pm_S → Prop} (x0 x1 : Int)  (hB : an_GB pm_B σ) (eF : (0 ≤ x0 ∧ x0 ≤ 9) ∧ ((-25) ≤ x1 ∧ x1 ≤ (-23)) ∧ True)
    (l0 : ∀ (τ : pm_S) (y : Nat → Int), an_GB pm_B τ → FQ [] σ τ → ((0 ≤ x0 ∧ x0 ≤ 9) ∧ ((-25) ≤ x1 ∧ x1 ≤ (-23)) ∧ True) → (True) → (True) → (True) → Ok 33 (e + 20) 37 [.ref 67, .int (Int32.ofInt (x0)), .int (Int32.ofInt (x1))] [.int (Int32.ofInt (x1)), .ref 69] τ Q)
    : Ok 33 (e + 20) 34 [.ref 67, .int (Int32.ofInt (x0)), .int (Int32.ofInt (x1))] [] σ Q := by
  refine an_segE (e0 := e) (B := pm_B) (F := []) (T := []) (S := []) (fun _ h => absurd h List.not_mem_nil) (k := 33) (d := 19) (cs := [37]) 5 34 2 [(0, 0, 9), (1, (-25), (-23))] [] [(2, 67, 0), (0, 0, 0), (0, 1, 0)] [] [(37, [(2, 67, 0), (0, 0, 0), (0, 1, 0)], [(0, 1, 0), (2, 69, 0)], [(0, 0, 9), (1, (-25), (-23))], [], [], [])] (by decide +kernel) (ρ0 := (fun s => [x0, x1].getD s 0)) hB eF trivial ⟨rfl, ⟨rfl, ⟨rfl, trivial⟩⟩⟩ trivial ?_
  refine List.forall_mem_cons.mpr ⟨?_, fun _ h => absurd h List.not_mem_nil⟩
  · intro ρ τ Lc stc hx g1 g2 g3 g4 g5 g6 g7 g8
    have e0 : ρ 0 = x0 := hx 0 (by decide)
    have e1 : ρ 1 = x1 := hx 1 (by decide)
    subst e0
    subst e1
    have g7 := g7 (by decide)
    match Lc, stc, g7, g8 with
    | [v0, v1, v2], [w0, w1], ⟨hv0, hv1, hv2, _⟩, ⟨hw0, hw1, _⟩ =>
      cases hv0
      cases hv1
      cases hv2
      cases hw0
      cases hw1
      exact l0 τ ρ  g1 g2 g3 g4 g5 g6
set_option maxRecDepth 100000 in
theorem py_c38 (e : Nat) {σ : pm_S} {Q : Option Value → pm_S → Prop} (x0 x1 : Int)  (hB : an_GB pm_B σ) (eF : (0 ≤ x0 ∧ x0 ≤ 9) ∧ ((-25) ≤ x1 ∧ x1 ≤ (-23)) ∧ True)
    (l0 : ∀ (τ : pm_S) (y : Nat → Int), an_GB pm_B τ → FQ [] σ τ → ((0 ≤ x0 ∧ x0 ≤ 9) ∧ ((-25) ≤ x1 ∧ x1 ≤ (-23)) ∧ True) → (True) → (True) → (True) → Q none τ)
    : Ok 33 (e + 20) 38 [.ref 67, .int (Int32.ofInt (x0)), .int (Int32.ofInt (x1))] [] σ Q := by
  refine an_segE (e0 := e) (B := pm_B) (F := []) (T := []) (S := []) (fun _ h => absurd h List.not_mem_nil) (k := 33) (d := 19) (cs := []) 3 38 2 [(0, 0, 9), (1, (-25), (-23))] [] [(2, 67, 0), (0, 0, 0), (0, 1, 0)] [] [(9999, [], [], [(0, 0, 9), (1, (-25), (-23))], [], [], [])] (by decide +kernel) (ρ0 := (fun s => [x0, x1].getD s 0)) hB eF trivial ⟨rfl, ⟨rfl, ⟨rfl, trivial⟩⟩⟩ trivial ?_
  refine List.forall_mem_cons.mpr ⟨?_, fun _ h => absurd h List.not_mem_nil⟩
  · intro ρ τ Lc stc hx g1 g2 g3 g4 g5 g6 g7 g8
    have e0 : ρ 0 = x0 := hx 0 (by decide)
    have e1 : ρ 1 = x1 := hx 1 (by decide)
    subst e0
    subst e1
    match stc, g8 with
    | [], _ => exact l0 τ ρ g1 g2 g3 g4 g5 g6
set_option maxRecDepth 100000 in
theorem py_cf14 (e : Nat) {σ : pm_S} {Q : Option Value → pm_S → Prop} (x0 x1 : Int) (v2 : Value) (hv2 : v2.category = 1) (hB : an_GB pm_B σ) (eF : (0 ≤ x0 ∧ x0 ≤ 9) ∧ (1 ≤ x1 ∧ x1 ≤ 3) ∧ True) (eC : (σ.1 67 0).toInt = x1 ∧ True)
    (l0 : ∀ (τ : pm_S) (y : Nat → Int), an_GB pm_B τ → FQ [(67, 8), (67, 9), (69, 1), (70, 9999)] σ τ → ((0 ≤ x0 ∧ x0 ≤ 9) ∧ (1 ≤ x1 ∧ x1 ≤ 3) ∧ True) → (True) → (True) → (True) → Q none τ)
    : Ok 33 (e + 20) 14 [.ref 67, .int (Int32.ofInt (x0)), v2] [] σ Q := by
  refine an_segE (e0 := e) (B := pm_B) (F := [(67, 8), (67, 9), (69, 1), (70, 9999)]) (T := []) (S := [sf_ru, sf_rs]) (List.forall_mem_cons.mpr ⟨sf_ru_ok, List.forall_mem_cons.mpr ⟨sf_rs_ok, fun _ h => absurd h List.not_mem_nil⟩⟩) (k := 33) (d := 19) (cs := []) 63 14 2 [(0, 0, 9), (1, 1, 3)] [(67, (1, 0, 0), (0, 1, 0))] [(2, 67, 0), (0, 0, 0), (5, 0, 0)] [] [(9999, [], [], [(0, 0, 9), (1, 1, 3)], [], [], [])] (by decide +kernel) (ρ0 := (fun s => [x0, x1].getD s 0)) hB eF eC ⟨rfl, ⟨rfl, ⟨hv2, trivial⟩⟩⟩ trivial ?_
  refine List.forall_mem_cons.mpr ⟨?_, fun _ h => absurd h List.not_mem_nil⟩
  · intro ρ τ Lc stc hx g1 g2 g3 g4 g5 g6 g7 g8
    have e0 : ρ 0 = x0 := hx 0 (by decide)
    have e1 : ρ 1 = x1 := hx 1 (by decide)
    subst e0
    subst e1
    match stc, g8 with
    | [], _ => exact l0 τ ρ g1 g2 g3 g4 g5 g6
set_option maxRecDepth 100000 in
theorem py_cf34 (e : Nat) {σ : pm_S} {Q : Option Value → pm_S → Prop} (x0 x1 x2 : Int)  (hB : an_GB pm_B σ) (eF : (0 ≤ x0 ∧ x0 ≤ 9) ∧ ((-25) ≤ x1 ∧ x1 ≤ (-23)) ∧ (1 ≤ x2 ∧ x2 ≤ 3) ∧ True) (eC : (σ.1 67 0).toInt = x2 ∧ True)
    (l0 : ∀ (τ : pm_S) (y : Nat → Int), an_GB pm_B τ → FQ [(67, 8), (67, 9), (69, 1), (70, 9999)] σ τ → ((0 ≤ x0 ∧ x0 ≤ 9) ∧ ((-25) ≤ x1 ∧ x1 ≤ (-23)) ∧ (1 ≤ x2 ∧ x2 ≤ 3) ∧ True) → (True) → (True) → (True) → Q none τ)
    : Ok 33 (e + 20) 34 [.ref 67, .int (Int32.ofInt (x0)), .int (Int32.ofInt (x1))] [] σ Q := by
  refine an_segE (e0 := e) (B := pm_B) (F := [(67, 8), (67, 9), (69, 1), (70, 9999)]) (T := []) (S := [sf_ru, sf_rs]) (List.forall_mem_cons.mpr ⟨sf_ru_ok, List.forall_mem_cons.mpr ⟨sf_rs_ok, fun _ h => absurd h List.not_mem_nil⟩⟩) (k := 33) (d := 19) (cs := []) 26 34 3 [(0, 0, 9), (1, (-25), (-23)), (2, 1, 3)] [(67, (1, 0, 0), (0, 2, 0))] [(2, 67, 0), (0, 0, 0), (0, 1, 0)] [] [(9999, [], [], [(0, 0, 9), (1, (-25), (-23)), (2, 1, 3)], [], [], [])] (by decide +kernel) (ρ0 := (fun s => [x0, x1, x2].getD s 0)) hB eF eC ⟨rfl, ⟨rfl, ⟨rfl, trivial⟩⟩⟩ trivial ?_
  refine List.forall_mem_cons.mpr ⟨?_, fun _ h => absurd h List.not_mem_nil⟩
  · intro ρ τ Lc stc hx g1 g2 g3 g4 g5 g6 g7 g8
    have e0 : ρ 0 = x0 := hx 0 (by decide)
    have e1 : ρ 1 = x1 := hx 1 (by decide)
    have e2 : ρ 2 = x2 := hx 2 (by decide)
    subst e0
    subst e1
    subst e2
    match stc, g8 with
    | [], _ => exact l0 τ ρ g1 g2 g3 g4 g5 g6
set_option maxRecDepth 100000 in
theorem py_o0 (e : Nat) {σ : pm_S} {Q : Option Value → pm_S → Prop} (x0 x1 : Int)  (hB : an_GB pm_B σ) (eF : (0 ≤ x0 ∧ x0 ≤ 9) ∧ ((-21) ≤ x1 ∧ x1 ≤ (-6)) ∧ True) (eC : (σ.1 67 9).toInt = x1 ∧ True)
    (l0 : ∀ (τ : pm_S) (y : Nat → Int), an_GB pm_B τ → FQ [] σ τ → ((0 ≤ x0 ∧ x0 ≤ 7) ∧ ((-21) ≤ x1 ∧ x1 ≤ (-7)) ∧ True) → (True) → (True) → ((τ.1 67 9).toInt = x1 ∧ True) → Ok 34 (e + 18) 24 [.ref 67, .int (Int32.ofInt (x0))] [.ref 67] τ Q)
    (l1 : ∀ (τ : pm_S) (y : Nat → Int), an_GB pm_B τ → FQ [] σ τ → ((0 ≤ x0 ∧ x0 ≤ 7) ∧ ((-6) ≤ x1 ∧ x1 ≤ (-6)) ∧ True) → (True) → (True) → ((τ.1 67 9).toInt = x1 ∧ True) → Ok 34 (e + 18) 12 [.ref 67, .int (Int32.ofInt (x0))] [.ref 67] τ Q)
    (l2 : ∀ (τ : pm_S) (y : Nat → Int), an_GB pm_B τ → FQ [] σ τ → ((8 ≤ x0 ∧ x0 ≤ 9) ∧ ((-21) ≤ x1 ∧ x1 ≤ (-6)) ∧ True) → (True) → (True) → ((τ.1 67 9).toInt = x1 ∧ True) → Ok 34 (e + 18) 5 [.ref 67, .int (Int32.ofInt (x0))] [.int (Int32.ofInt 3), .ref 67] τ Q)
    : Ok 34 (e + 18) 0 [.ref 67, .int (Int32.ofInt (x0))] [] σ Q := by
  refine an_segE (e0 := e) (B := pm_B) (F := []) (T := []) (S := []) (fun _ h => absurd h List.not_mem_nil) (k := 34) (d := 17) (cs := [5, 12, 24]) 10 0 2 [(0, 0, 9), (1, (-21), (-6))] [(67, (1, 0, 9), (0, 1, 0))] [(2, 67, 0), (0, 0, 0)] [] [(24, [(2, 67, 0), (0, 0, 0)], [(2, 67, 0)], [(0, 0, 7), (1, (-21), (-7))], [], [], [(67, (1, 0, 9), (0, 1, 0))]),
    (12, [(2, 67, 0), (0, 0, 0)], [(2, 67, 0)], [(0, 0, 7), (1, (-6), (-6))], [], [], [(67, (1, 0, 9), (0, 1, 0))]),
    (5, [(2, 67, 0), (0, 0, 0)], [(1, 0, 3), (2, 67, 0)], [(0, 8, 9), (1, (-21), (-6))], [], [], [(67, (1, 0, 9), (0, 1, 0))])] (by decide +kernel) (ρ0 := (fun s => [x0, x1].getD s 0)) hB eF eC ⟨rfl, ⟨rfl, trivial⟩⟩ trivial ?_
  refine List.forall_mem_cons.mpr ⟨?_, List.forall_mem_cons.mpr ⟨?_, List.forall_mem_cons.mpr ⟨?_, fun _ h => absurd h List.not_mem_nil⟩⟩⟩
  · intro ρ τ Lc stc hx g1 g2 g3 g4 g5 g6 g7 g8
    have e0 : ρ 0 = x0 := hx 0 (by decide)
    have e1 : ρ 1 = x1 := hx 1 (by decide)
    subst e0
    subst e1
    have g7 := g7 (by decide)
    match Lc, stc, g7, g8 with
    | [v0, v1], [w0], ⟨hv0, hv1, _⟩, ⟨hw0, _⟩ =>
      cases hv0
      cases hv1
      cases hw0
      exact l0 τ ρ  g1 g2 g3 g4 g5 g6
  · intro ρ τ Lc stc hx g1 g2 g3 g4 g5 g6 g7 g8
    have e0 : ρ 0 = x0 := hx 0 (by decide)
    have e1 : ρ 1 = x1 := hx 1 (by decide)
    subst e0
    subst e1
    have g7 := g7 (by decide)
    match Lc, stc, g7, g8 with
    | [v0, v1], [w0], ⟨hv0, hv1, _⟩, ⟨hw0, _⟩ =>
      cases hv0
      cases hv1
      cases hw0
      exact l1 τ ρ  g1 g2 g3 g4 g5 g6
  · intro ρ τ Lc stc hx g1 g2 g3 g4 g5 g6 g7 g8
    have e0 : ρ 0 = x0 := hx 0 (by decide)
    have e1 : ρ 1 = x1 := hx 1 (by decide)
    subst e0
    subst e1
    have g7 := g7 (by decide)
    match Lc, stc, g7, g8 with
    | [v0, v1], [w0, w1], ⟨hv0, hv1, _⟩, ⟨hw0, hw1, _⟩ =>
      cases hv0
      cases hv1
      cases hw0
      cases hw1
      exact l2 τ ρ  g1 g2 g3 g4 g5 g6
set_option maxRecDepth 100000 in
theorem py_o6 (e : Nat) {σ : pm_S} {Q : Option Value → pm_S → Prop} (x0 : Int)  (hB : an_GB pm_B σ) (eF : (0 ≤ x0 ∧ x0 ≤ 9) ∧ True)
    (l0 : ∀ (τ : pm_S) (y : Nat → Int), an_GB pm_B τ → FQ [] σ τ → ((0 ≤ x0 ∧ x0 ≤ 9) ∧ True) → (True) → (True) → (True) → Q none τ)
    : Ok 34 (e + 18) 6 [.ref 67, .int (Int32.ofInt (x0))] [] σ Q := by
  refine an_segE (e0 := e) (B := pm_B) (F := []) (T := []) (S := []) (fun _ h => absurd h List.not_mem_nil) (k := 34) (d := 17) (cs := []) 4 6 1 [(0, 0, 9)] [] [(2, 67, 0), (0, 0, 0)] [] [(9999, [], [], [(0, 0, 9)], [], [], [])] (by decide +kernel) (ρ0 := (fun s => [x0].getD s 0)) hB eF trivial ⟨rfl, ⟨rfl, trivial⟩⟩ trivial ?_
  refine List.forall_mem_cons.mpr ⟨?_, fun _ h => absurd h List.not_mem_nil⟩
  · intro ρ τ Lc stc hx g1 g2 g3 g4 g5 g6 g7 g8
    have e0 : ρ 0 = x0 := hx 0 (by decide)
    subst e0
    match stc, g8 with
    | [], _ => exact l0 τ ρ g1 g2 g3 g4 g5 g6
set_option maxRecDepth 100000 in
theorem py_o13 (e : Nat) {σ : pm_S} {Q : Option Value → pm_S → Prop} (x0 : Int)  (hB : an_GB pm_B σ) (eF : (0 ≤ x0 ∧ x0 ≤ 7) ∧ True)
    (l0 : ∀ (τ : pm_S) (y : Nat → Int), an_GB pm_B τ → FQ [] σ τ → ((0 ≤ x0 ∧ x0 ≤ 7) ∧ True) → (True) → (True) → (True) → Ok 34 (e + 18) 17 [.ref 67, .int (Int32.ofInt (x0))] [.int (Int32.ofInt (x0 + 1)), .ref 67] τ Q)
    : Ok 34 (e + 18) 13 [.ref 67, .int (Int32.ofInt (x0))] [] σ Q := by
  refine an_segE (e0 := e) (B := pm_B) (F := []) (T := []) (S := []) (fun _ h => absurd h List.not_mem_nil) (k := 34) (d := 17) (cs := [17]) 6 13 1 [(0, 0, 7)] [] [(2, 67, 0), (0, 0, 0)] [] [(17, [(2, 67, 0), (0, 0, 0)], [(0, 0, 1), (2, 67, 0)], [(0, 0, 7)], [], [], [])] (by decide +kernel) (ρ0 := (fun s => [x0].getD s 0)) hB eF trivial ⟨rfl, ⟨rfl, trivial⟩⟩ trivial ?_
  refine List.forall_mem_cons.mpr ⟨?_, fun _ h => absurd h List.not_mem_nil⟩
  · intro ρ τ Lc stc hx g1 g2 g3 g4 g5 g6 g7 g8
    have e0 : ρ 0 = x0 := hx 0 (by decide)
    subst e0
    have g7 := g7 (by decide)
    match Lc, stc, g7, g8 with
    | [v0, v1], [w0, w1], ⟨hv0, hv1, _⟩, ⟨hw0, hw1, _⟩ =>
      cases hv0
      cases hv1
      cases hw0
      cases hw1
      exact l0 τ ρ  g1 g2 g3 g4 g5 g6
set_option maxRecDepth 100000 in
theorem py_o18 (e : Nat) {σ : pm_S} {Q : Option Value → pm_S → Prop} (x0 : Int)  (hB : an_GB pm_B σ) (eF : (0 ≤ x0 ∧ x0 ≤ 7) ∧ True)
    (l0 : ∀ (τ : pm_S) (y : Nat → Int), an_GB pm_B τ → FQ [] σ τ → ((0 ≤ x0 ∧ x0 ≤ 7) ∧ True) → (True) → (True) → (True) → Ok 34 (e + 18) 21 [.ref 67, .int (Int32.ofInt (x0))] [.int (Int32.ofInt (-6)), .ref 69] τ Q)
    : Ok 34 (e + 18) 18 [.ref 67, .int (Int32.ofInt (x0))] [] σ Q := by
  refine an_segE (e0 := e) (B := pm_B) (F := []) (T := []) (S := []) (fun _ h => absurd h List.not_mem_nil) (k := 34) (d := 17) (cs := [21]) 5 18 1 [(0, 0, 7)] [] [(2, 67, 0), (0, 0, 0)] [] [(21, [(2, 67, 0), (0, 0, 0)], [(1, 0, (-6)), (2, 69, 0)], [(0, 0, 7)], [], [], [])] (by decide +kernel) (ρ0 := (fun s => [x0].getD s 0)) hB eF trivial ⟨rfl, ⟨rfl, trivial⟩⟩ trivial ?_
  refine List.forall_mem_cons.mpr ⟨?_, fun _ h => absurd h List.not_mem_nil⟩
  · intro ρ τ Lc stc hx g1 g2 g3 g4 g5 g6 g7 g8
    have e0 : ρ 0 = x0 := hx 0 (by decide)
    subst e0
    have g7 := g7 (by decide)
    match Lc, stc, g7, g8 with
    | [v0, v1], [w0, w1], ⟨hv0, hv1, _⟩, ⟨hw0, hw1, _⟩ =>
      cases hv0
      cases hv1
      cases hw0
      cases hw1
      exact l0 τ ρ  g1 g2 g3 g4 g5 g6
set_option maxRecDepth 100000 in
theorem py_o22 (e : Nat) {σ : pm_S} {Q : Option Value → pm_S → Prop} (x0 : Int)  (hB : an_GB pm_B σ) (eF : (0 ≤ x0 ∧ x0 ≤ 7) ∧ True)
    (l0 : ∀ (τ : pm_S) (y : Nat → Int), an_GB pm_B τ → FQ [] σ τ → ((0 ≤ x0 ∧ x0 ≤ 7) ∧ True) → (True) → (True) → (True) → Q none τ)
    : Ok 34 (e + 18) 22 [.ref 67, .int (Int32.ofInt (x0))] [] σ Q := by
  refine an_segE (e0 := e) (B := pm_B) (F := []) (T := []) (S := []) (fun _ h => absurd h List.not_mem_nil) (k := 34) (d := 17) (cs := []) 4 22 1 [(0, 0, 7)] [] [(2, 67, 0), (0, 0, 0)] [] [(9999, [], [], [(0, 0, 7)], [], [], [])] (by decide +kernel) (ρ0 := (fun s => [x0].getD s 0)) hB eF trivial ⟨rfl, ⟨rfl, trivial⟩⟩ trivial ?_
  refine List.forall_mem_cons.mpr ⟨?_, fun _ h => absurd h List.not_mem_nil⟩
  · intro ρ τ Lc stc hx g1 g2 g3 g4 g5 g6 g7 g8
    have e0 : ρ 0 = x0 := hx 0 (by decide)
    subst e0
    match stc, g8 with
    | [], _ => exact l0 τ ρ g1 g2 g3 g4 g5 g6
set_option maxRecDepth 100000 in
theorem py_o25 (e : Nat) {σ : pm_S} {Q : Option Value → pm_S → Prop} (x0 : Int)  (hB : an_GB pm_B σ) (eF : (0 ≤ x0 ∧ x0 ≤ 7) ∧ True)
    (l0 : ∀ (τ : pm_S) (y : Nat → Int), an_GB pm_B τ → FQ [] σ τ → ((0 ≤ x0 ∧ x0 ≤ 7) ∧ True) → (True) → (True) → (True) → Ok 34 (e + 18) 29 [.ref 67, .int (Int32.ofInt (x0))] [.int (Int32.ofInt (x0 + 1)), .ref 67] τ Q)
    : Ok 34 (e + 18) 25 [.ref 67, .int (Int32.ofInt (x0))] [] σ Q := by
  refine an_segE (e0 := e) (B := pm_B) (F := []) (T := []) (S := []) (fun _ h => absurd h List.not_mem_nil) (k := 34) (d := 17) (cs := [29]) 6 25 1 [(0, 0, 7)] [] [(2, 67, 0), (0, 0, 0)] [] [(29, [(2, 67, 0), (0, 0, 0)], [(0, 0, 1), (2, 67, 0)], [(0, 0, 7)], [], [], [])] (by decide +kernel) (ρ0 := (fun s => [x0].getD s 0)) hB eF trivial ⟨rfl, ⟨rfl, trivial⟩⟩ trivial ?_
  refine List.forall_mem_cons.mpr ⟨?_, fun _ h => absurd h List.not_mem_nil⟩
  · intro ρ τ Lc stc hx g1 g2 g3 g4 g5 g6 g7 g8
    have e0 : ρ 0 = x0 := hx 0 (by decide)
    subst e0
    have g7 := g7 (by decide)
    match Lc, stc, g7, g8 with
    | [v0, v1], [w0, w1], ⟨hv0, hv1, _⟩, ⟨hw0, hw1, _⟩ =>
      cases hv0
      cases hv1
      cases hw0
      cases hw1
      exact l0 τ ρ  g1 g2 g3 g4 g5 g6
set_option maxRecDepth 100000 in
theorem py_o30 (e : Nat) {σ : pm_S} {Q : Option Value → pm_S → Prop} (x0 : Int)  (hB : an_GB pm_B σ) (eF : (0 ≤ x0 ∧ x0 ≤ 7) ∧ True)
    (l0 : ∀ (τ : pm_S) (y : Nat → Int), an_GB pm_B τ → FQ [] σ τ → ((0 ≤ x0 ∧ x0 ≤ 7) ∧ True) → (True) → (True) → (True) → Ok 34 (e + 18) 32 [.ref 67, .int (Int32.ofInt (x0))] [.int (Int32.ofInt (-22)), .ref 67] τ Q)
    : Ok 34 (e + 18) 30 [.ref 67, .int (Int32.ofInt (x0))] [] σ Q := by
  refine an_segE (e0 := e) (B := pm_B) (F := []) (T := []) (S := []) (fun _ h => absurd h List.not_mem_nil) (k := 34) (d := 17) (cs := [32]) 4 30 1 [(0, 0, 7)] [] [(2, 67, 0), (0, 0, 0)] [] [(32, [(2, 67, 0), (0, 0, 0)], [(1, 0, (-22)), (2, 67, 0)], [(0, 0, 7)], [], [], [])] (by decide +kernel) (ρ0 := (fun s => [x0].getD s 0)) hB eF trivial ⟨rfl, ⟨rfl, trivial⟩⟩ trivial ?_
  refine List.forall_mem_cons.mpr ⟨?_, fun _ h => absurd h List.not_mem_nil⟩
  · intro ρ τ Lc stc hx g1 g2 g3 g4 g5 g6 g7 g8
    have e0 : ρ 0 = x0 := hx 0 (by decide)
    subst e0
    have g7 := g7 (by decide)
    match Lc, stc, g7, g8 with
    | [v0, v1], [w0, w1], ⟨hv0, hv1, _⟩, ⟨hw0, hw1, _⟩ =>
      cases hv0
      cases hv1
      cases hw0
      cases hw1
      exact l0 τ ρ  g1 g2 g3 g4 g5 g6
set_option maxRecDepth 100000 in
theorem py_o33 (e : Nat) {σ : pm_S} {Q : Option Value → pm_S → Prop} (x0 : Int)  (hB : an_GB pm_B σ) (eF : (0 ≤ x0 ∧ x0 ≤ 7) ∧ True)
    (l0 : ∀ (τ : pm_S) (y : Nat → Int), an_GB pm_B τ → FQ [] σ τ → ((0 ≤ x0 ∧ x0 ≤ 7) ∧ True) → (True) → (True) → (True) → Q none τ)
    : Ok 34 (e + 18) 33 [.ref 67, .int (Int32.ofInt (x0))] [] σ Q := by
  refine an_segE (e0 := e) (B := pm_B) (F := []) (T := []) (S := []) (fun _ h => absurd h List.not_mem_nil) (k := 34) (d := 17) (cs := []) 3 33 1 [(0, 0, 7)] [] [(2, 67, 0), (0, 0, 0)] [] [(9999, [], [], [(0, 0, 7)], [], [], [])] (by decide +kernel) (ρ0 := (fun s => [x0].getD s 0)) hB eF trivial ⟨rfl, ⟨rfl, trivial⟩⟩ trivial ?_
  refine List.forall_mem_cons.mpr ⟨?_, fun _ h => absurd h List.not_mem_nil⟩
  · intro ρ τ Lc stc hx g1 g2 g3 g4 g5 g6 g7 g8
    have e0 : ρ 0 = x0 := hx 0 (by decide)
    subst e0
    match stc, g8 with
    | [], _ => exact l0 τ ρ g1 g2 g3 g4 g5 g6
set_option maxRecDepth 100000 in
theorem py_of18 (e : Nat) {σ : pm_S} {Q : Option Value → pm_S → Prop} (x0 x1 : Int)  (hB : an_GB pm_B σ) (eF : (0 ≤ x0 ∧ x0 ≤ 7) ∧ (1 ≤ x1 ∧ x1 ≤ 3) ∧ True) (eC : (σ.1 67 0).toInt = x1 ∧ True)
    (l0 : ∀ (τ : pm_S) (y : Nat → Int), an_GB pm_B τ → FQ [(67, 8), (67, 9), (69, 1), (70, 9999)] σ τ → ((0 ≤ x0 ∧ x0 ≤ 7) ∧ (1 ≤ x1 ∧ x1 ≤ 3) ∧ True) → (True) → (True) → (True) → Q none τ)
    : Ok 34 (e + 18) 18 [.ref 67, .int (Int32.ofInt (x0))] [] σ Q := by
  refine an_segE (e0 := e) (B := pm_B) (F := [(67, 8), (67, 9), (69, 1), (70, 9999)]) (T := []) (S := [sf_ru, sf_rs]) (List.forall_mem_cons.mpr ⟨sf_ru_ok, List.forall_mem_cons.mpr ⟨sf_rs_ok, fun _ h => absurd h List.not_mem_nil⟩⟩) (k := 34) (d := 17) (cs := []) 27 18 2 [(0, 0, 7), (1, 1, 3)] [(67, (1, 0, 0), (0, 1, 0))] [(2, 67, 0), (0, 0, 0)] [] [(9999, [], [], [(0, 0, 7), (1, 1, 3)], [], [], [])] (by decide +kernel) (ρ0 := (fun s => [x0, x1].getD s 0)) hB eF eC ⟨rfl, ⟨rfl, trivial⟩⟩ trivial ?_
  refine List.forall_mem_cons.mpr ⟨?_, fun _ h => absurd h List.not_mem_nil⟩
  · intro ρ τ Lc stc hx g1 g2 g3 g4 g5 g6 g7 g8
    have e0 : ρ 0 = x0 := hx 0 (by decide)
    have e1 : ρ 1 = x1 := hx 1 (by decide)
    subst e0
    subst e1
    match stc, g8 with
    | [], _ => exact l0 τ ρ g1 g2 g3 g4 g5 g6
set_option maxRecDepth 100000 in
theorem py_of30 (e : Nat) {σ : pm_S} {Q : Option Value → pm_S → Prop} (x0 x1 : Int)  (hB : an_GB pm_B σ) (eF : (0 ≤ x0 ∧ x0 ≤ 7) ∧ (1 ≤ x1 ∧ x1 ≤ 3) ∧ True) (eC : (σ.1 67 0).toInt = x1 ∧ True)
    (l0 : ∀ (τ : pm_S) (y : Nat → Int), an_GB pm_B τ → FQ [(67, 8), (67, 9), (69, 1), (70, 9999)] σ τ → ((0 ≤ x0 ∧ x0 ≤ 7) ∧ (1 ≤ x1 ∧ x1 ≤ 3) ∧ True) → (True) → (True) → (True) → Q none τ)
    : Ok 34 (e + 18) 30 [.ref 67, .int (Int32.ofInt (x0))] [] σ Q := by
  refine an_segE (e0 := e) (B := pm_B) (F := [(67, 8), (67, 9), (69, 1), (70, 9999)]) (T := []) (S := [sf_ru, sf_rs]) (List.forall_mem_cons.mpr ⟨sf_ru_ok, List.forall_mem_cons.mpr ⟨sf_rs_ok, fun _ h => absurd h List.not_mem_nil⟩⟩) (k := 34) (d := 17) (cs := []) 35 30 2 [(0, 0, 7), (1, 1, 3)] [(67, (1, 0, 0), (0, 1, 0))] [(2, 67, 0), (0, 0, 0)] [] [(9999, [], [], [(0, 0, 7), (1, 1, 3)], [], [], [])] (by decide +kernel) (ρ0 := (fun s => [x0, x1].getD s 0)) hB eF eC ⟨rfl, ⟨rfl, trivial⟩⟩ trivial ?_
  refine List.forall_mem_cons.mpr ⟨?_, fun _ h => absurd h List.not_mem_nil⟩
  · intro ρ τ Lc stc hx g1 g2 g3 g4 g5 g6 g7 g8
    have e0 : ρ 0 = x0 := hx 0 (by decide)
    have e1 : ρ 1 = x1 := hx 1 (by decide)
    subst e0
    subst e1
    match stc, g8 with
    | [], _ => exact l0 τ ρ g1 g2 g3 g4 g5 g6
set_option maxRecDepth 100000 in
theorem py_a0 (e : Nat) {σ : pm_S} {Q : Option Value → pm_S → Prop} (x0 : Int) (v2 : Value) (v3 : Value) (v4 : Value) (hv2 : v2.category = 1) (hv3 : v3.category = 1) (hv4 : v4.category = 1) (hB : an_GB pm_B σ) (eF : (0 ≤ x0 ∧ x0 ≤ 9) ∧ True)
    (l0 : ∀ (τ : pm_S) (y : Nat → Int) (v3 : Value) (v4 : Value), v3.category = 1 → v4.category = 1 → an_GB pm_B τ → FQ [] σ τ → ((0 ≤ x0 ∧ x0 ≤ 9) ∧ True) → (True) → (True) → (True) → Ok 32 (e + 25) 4 [.ref 67, .int (Int32.ofInt (x0)), .int (Int32.ofInt 0), v3, v4] [.int (Int32.ofInt (x0)), .ref 67] τ Q)
    : Ok 32 (e + 25) 0 [.ref 67, .int (Int32.ofInt (x0)), v2, v3, v4] [] σ Q := by
  refine an_segE (e0 := e) (B := pm_B) (F := []) (T := []) (S := []) (fun _ h => absurd h List.not_mem_nil) (k := 32) (d := 24) (cs := [4]) 6 0 1 [(0, 0, 9)] [] [(2, 67, 0), (0, 0, 0), (5, 0, 0), (5, 0, 0), (5, 0, 0)] [] [(4, [(2, 67, 0), (0, 0, 0), (1, 0, 0), (5, 0, 0), (5, 0, 0)], [(0, 0, 0), (2, 67, 0)], [(0, 0, 9)], [], [], [])] (by decide +kernel) (ρ0 := (fun s => [x0].getD s 0)) hB eF trivial ⟨rfl, ⟨rfl, ⟨hv2, ⟨hv3, ⟨hv4, trivial⟩⟩⟩⟩⟩ trivial ?_
  refine List.forall_mem_cons.mpr ⟨?_, fun _ h => absurd h List.not_mem_nil⟩
  · intro ρ τ Lc stc hx g1 g2 g3 g4 g5 g6 g7 g8
    have e0 : ρ 0 = x0 := hx 0 (by decide)
    subst e0
    have g7 := g7 (by decide)
    match Lc, stc, g7, g8 with
    | [v0, v1, v2, v3, v4], [w0, w1], ⟨hv0, hv1, hv2, hv3, hv4, _⟩, ⟨hw0, hw1, _⟩ =>
      cases hv0
      cases hv1
      cases hv2
      cases hw0
      cases hw1
      exact l0 τ ρ v3 v4 hv3 hv4 g1 g2 g3 g4 g5 g6
set_option maxRecDepth 100000 in
theorem py_a5 (e : Nat) {σ : pm_S} {Q : Option Value → pm_S → Prop} (x0 : Int) (v3 : Value) (v4 : Value) (hv3 : v3.category = 1) (hv4 : v4.category = 1) (hB : an_GB pm_B σ) (eF : (0 ≤ x0 ∧ x0 ≤ 9) ∧ True)
    (l0 : ∀ (τ : pm_S) (y : Nat → Int) (v4 : Value), v4.category = 1 → an_GB pm_B τ → FQ [] σ τ → ((0 ≤ x0 ∧ x0 ≤ 9) ∧ True) → (True) → (True) → (True) → Ok 32 (e + 25) 7 [.ref 67, .int (Int32.ofInt (x0)), .int (Int32.ofInt 0), .int (Int32.ofInt 0), v4] [] τ Q)
    : Ok 32 (e + 25) 5 [.ref 67, .int (Int32.ofInt (x0)), .int (Int32.ofInt 0), v3, v4] [] σ Q := by
  refine an_segE (e0 := e) (B := pm_B) (F := []) (T := []) (S := []) (fun _ h => absurd h List.not_mem_nil) (k := 32) (d := 24) (cs := [7]) 4 5 1 [(0, 0, 9)] [] [(2, 67, 0), (0, 0, 0), (1, 0, 0), (5, 0, 0), (5, 0, 0)] [] [(7, [(2, 67, 0), (0, 0, 0), (1, 0, 0), (1, 0, 0), (5, 0, 0)], [], [(0, 0, 9)], [], [], [])] (by decide +kernel) (ρ0 := (fun s => [x0].getD s 0)) hB eF trivial ⟨rfl, ⟨rfl, ⟨rfl, ⟨hv3, ⟨hv4, trivial⟩⟩⟩⟩⟩ trivial ?_
  refine List.forall_mem_cons.mpr ⟨?_, fun _ h => absurd h List.not_mem_nil⟩
  · intro ρ τ Lc stc hx g1 g2 g3 g4 g5 g6 g7 g8
    have e0 : ρ 0 = x0 := hx 0 (by decide)
    subst e0
    have g7 := g7 (by decide)
    match Lc, stc, g7, g8 with
    | [v0, v1, v2, v3, v4], [], ⟨hv0, hv1, hv2, hv3, hv4, _⟩, _ =>
      cases hv0
      cases hv1
      cases hv2
      cases hv3
      exact l0 τ ρ v4 hv4 g1 g2 g3 g4 g5 g6
set_option maxRecDepth 100000 in
theorem py_a7 (e : Nat) {σ : pm_S} {Q : Option Value → pm_S → Prop} (x0 x1 x2 x3 : Int) (v4 : Value) (hv4 : v4.category = 1) (hB : an_GB pm_B σ) (eF : (0 ≤ x0 ∧ x0 ≤ 9) ∧ (0 ≤ x1 ∧ x1 ≤ 1) ∧ (0 ≤ x2 ∧ x2 ≤ 399) ∧ ((-27) ≤ x3 ∧ x3 ≤ 9999) ∧ True) (eC : (σ.1 67 0).toInt = 0 ∧ (σ.1 67 9).toInt = x3 ∧ True)
    (l0 : ∀ (τ : pm_S) (y : Nat → Int), an_GB pm_B τ → FQ [] σ τ → ((0 ≤ x0 ∧ x0 ≤ 9) ∧ (0 ≤ x1 ∧ x1 ≤ 0) ∧ (0 ≤ x2 ∧ x2 ≤ 399) ∧ ((-4) ≤ x3 ∧ x3 ≤ (-4)) ∧ True) → (True) → (True) → ((τ.1 67 0).toInt = 0 ∧ (τ.1 67 9).toInt = x3 ∧ True) → Ok 32 (e + 25) 46 [.ref 67, .int (Int32.ofInt (x0)), .int (Int32.ofInt 1), .int (Int32.ofInt (x2)), .int (Int32.ofInt 0)] [.ref 67] τ Q)
    (l1 : ∀ (τ : pm_S) (y : Nat → Int), an_GB pm_B τ → FQ [] σ τ → ((0 ≤ x0 ∧ x0 ≤ 9) ∧ (1 ≤ x1 ∧ x1 ≤ 1) ∧ (0 ≤ x2 ∧ x2 ≤ 399) ∧ ((-4) ≤ x3 ∧ x3 ≤ (-4)) ∧ True) → (True) → (True) → ((τ.1 67 0).toInt = 0 ∧ (τ.1 67 9).toInt = x3 ∧ True) → Ok 32 (e + 25) 36 [.ref 67, .int (Int32.ofInt (x0)), .int (Int32.ofInt (x1)), .int (Int32.ofInt (x2)), .int (Int32.ofInt 0)] [.int (Int32.ofInt (-4)), .ref 69] τ Q)
    (l2 : ∀ (τ : pm_S) (y : Nat → Int), an_GB pm_B τ → FQ [] σ τ → ((0 ≤ x0 ∧ x0 ≤ 9) ∧ (0 ≤ x1 ∧ x1 ≤ 0) ∧ (0 ≤ x2 ∧ x2 ≤ 399) ∧ ((-27) ≤ x3 ∧ x3 ≤ 9999) ∧ True) → (x3 ≠ (-5) ∧ x3 ≠ (-4) ∧ True) → (True) → ((τ.1 67 0).toInt = 0 ∧ (τ.1 67 9).toInt = x3 ∧ True) → Q none τ)
    (l3 : ∀ (τ : pm_S) (y : Nat → Int) (v4 : Value), v4.category = 1 → an_GB pm_B τ → FQ [] σ τ → ((0 ≤ x0 ∧ x0 ≤ 9) ∧ (1 ≤ x1 ∧ x1 ≤ 1) ∧ (0 ≤ x2 ∧ x2 ≤ 399) ∧ ((-27) ≤ x3 ∧ x3 ≤ 9999) ∧ True) → (x3 ≠ (-5) ∧ x3 ≠ (-4) ∧ True) → (True) → ((τ.1 67 0).toInt = 0 ∧ (τ.1 67 9).toInt = x3 ∧ True) → Ok 32 (e + 25) 63 [.ref 67, .int (Int32.ofInt (x0)), .int (Int32.ofInt (x1)), .int (Int32.ofInt (x2)), v4] [.int (Int32.ofInt (-4)), .ref 69] τ Q)
    (l4 : ∀ (τ : pm_S) (y : Nat → Int), an_GB pm_B τ → FQ [] σ τ → ((0 ≤ x0 ∧ x0 ≤ 9) ∧ (0 ≤ x1 ∧ x1 ≤ 0) ∧ (0 ≤ x2 ∧ x2 ≤ 399) ∧ ((-5) ≤ x3 ∧ x3 ≤ (-5)) ∧ True) → (x3 ≠ (-4) ∧ True) → (True) → ((τ.1 67 0).toInt = 0 ∧ (τ.1 67 9).toInt = x3 ∧ True) → Ok 32 (e + 25) 46 [.ref 67, .int (Int32.ofInt (x0)), .int (Int32.ofInt 0), .int (Int32.ofInt (x2)), .int (Int32.ofInt 1)] [.ref 67] τ Q)
    (l5 : ∀ (τ : pm_S) (y : Nat → Int), an_GB pm_B τ → FQ [] σ τ → ((0 ≤ x0 ∧ x0 ≤ 9) ∧ (1 ≤ x1 ∧ x1 ≤ 1) ∧ (0 ≤ x2 ∧ x2 ≤ 399) ∧ ((-5) ≤ x3 ∧ x3 ≤ (-5)) ∧ True) → (x3 ≠ (-4) ∧ True) → (True) → ((τ.1 67 0).toInt = 0 ∧ (τ.1 67 9).toInt = x3 ∧ True) → Ok 32 (e + 25) 46 [.ref 67, .int (Int32.ofInt (x0)), .int (Int32.ofInt 1), .int (Int32.ofInt (x2)), .int (Int32.ofInt 1)] [.ref 67] τ Q)
    : Ok 32 (e + 25) 7 [.ref 67, .int (Int32.ofInt (x0)), .int (Int32.ofInt (x1)), .int (Int32.ofInt (x2)), v4] [] σ Q := by
  refine an_segE (e0 := e) (B := pm_B) (F := []) (T := []) (S := []) (fun _ h => absurd h List.not_mem_nil) (k := 32) (d := 24) (cs := [36, 46, 63]) 34 7 4 [(0, 0, 9), (1, 0, 1), (2, 0, 399), (3, (-27), 9999)] [(67, (1, 0, 0), (1, 0, 0)), (67, (1, 0, 9), (0, 3, 0))] [(2, 67, 0), (0, 0, 0), (0, 1, 0), (0, 2, 0), (5, 0, 0)] [] [(46, [(2, 67, 0), (0, 0, 0), (1, 0, 1), (0, 2, 0), (1, 0, 0)], [(2, 67, 0)], [(0, 0, 9), (1, 0, 0), (2, 0, 399), (3, (-4), (-4))], [], [], [(67, (1, 0, 0), (1, 0, 0)), (67, (1, 0, 9), (0, 3, 0))]),
    (36, [(2, 67, 0), (0, 0, 0), (0, 1, 0), (0, 2, 0), (1, 0, 0)], [(1, 0, (-4)), (2, 69, 0)], [(0, 0, 9), (1, 1, 1), (2, 0, 399), (3, (-4), (-4))], [], [], [(67, (1, 0, 0), (1, 0, 0)), (67, (1, 0, 9), (0, 3, 0))]),
    (9999, [], [], [(0, 0, 9), (1, 0, 0), (2, 0, 399), (3, (-27), 9999)], [(3, 3, 3, (-5)), (3, 3, 3, (-4))], [], [(67, (1, 0, 0), (1, 0, 0)), (67, (1, 0, 9), (0, 3, 0))]),
    (63, [(2, 67, 0), (0, 0, 0), (0, 1, 0), (0, 2, 0), (5, 0, 0)], [(1, 0, (-4)), (2, 69, 0)], [(0, 0, 9), (1, 1, 1), (2, 0, 399), (3, (-27), 9999)], [(3, 3, 3, (-5)), (3, 3, 3, (-4))], [], [(67, (1, 0, 0), (1, 0, 0)), (67, (1, 0, 9), (0, 3, 0))]),
    (46, [(2, 67, 0), (0, 0, 0), (1, 0, 0), (0, 2, 0), (1, 0, 1)], [(2, 67, 0)], [(0, 0, 9), (1, 0, 0), (2, 0, 399), (3, (-5), (-5))], [(3, 3, 3, (-4))], [], [(67, (1, 0, 0), (1, 0, 0)), (67, (1, 0, 9), (0, 3, 0))]),
    (46, [(2, 67, 0), (0, 0, 0), (1, 0, 1), (0, 2, 0), (1, 0, 1)], [(2, 67, 0)], [(0, 0, 9), (1, 1, 1), (2, 0, 399), (3, (-5), (-5))], [(3, 3, 3, (-4))], [], [(67, (1, 0, 0), (1, 0, 0)), (67, (1, 0, 9), (0, 3, 0))])] (by decide +kernel) (ρ0 := (fun s => [x0, x1, x2, x3].getD s 0)) hB eF eC ⟨rfl, ⟨rfl, ⟨rfl, ⟨rfl, ⟨hv4, trivial⟩⟩⟩⟩⟩ trivial ?_
  refine List.forall_mem_cons.mpr ⟨?_, List.forall_mem_cons.mpr ⟨?_, List.forall_mem_cons.mpr ⟨?_, List.forall_mem_cons.mpr ⟨?_, List.forall_mem_cons.mpr ⟨?_, List.forall_mem_cons.mpr ⟨?_, fun _ h => absurd h List.not_mem_nil⟩⟩⟩⟩⟩⟩
  · intro ρ τ Lc stc hx g1 g2 g3 g4 g5 g6 g7 g8
    have e0 : ρ 0 = x0 := hx 0 (by decide)
    have e1 : ρ 1 = x1 := hx 1 (by decide)
    have e2 : ρ 2 = x2 := hx 2 (by decide)
    have e3 : ρ 3 = x3 := hx 3 (by decide)
    subst e0
    subst e1
    subst e2
    subst e3
    have g7 := g7 (by decide)
    match Lc, stc, g7, g8 with
    | [v0, v1, v2, v3, v4], [w0], ⟨hv0, hv1, hv2, hv3, hv4, _⟩, ⟨hw0, _⟩ =>
      cases hv0
      cases hv1
      cases hv2
      cases hv3
      cases hv4
      cases hw0
      exact l0 τ ρ  g1 g2 g3 g4 g5 g6
  · intro ρ τ Lc stc hx g1 g2 g3 g4 g5 g6 g7 g8
    have e0 : ρ 0 = x0 := hx 0 (by decide)
    have e1 : ρ 1 = x1 := hx 1 (by decide)
    have e2 : ρ 2 = x2 := hx 2 (by decide)
    have e3 : ρ 3 = x3 := hx 3 (by decide)
    subst e0
    subst e1
    subst e2
    subst e3
    have g7 := g7 (by decide)
    match Lc, stc, g7, g8 with
    | [v0, v1, v2, v3, v4], [w0, w1], ⟨hv0, hv1, hv2, hv3, hv4, _⟩, ⟨hw0, hw1, _⟩ =>
      cases hv0
      cases hv1
      cases hv2
      cases hv3
      cases hv4
      cases hw0
      cases hw1
      exact l1 τ ρ  g1 g2 g3 g4 g5 g6
  · intro ρ τ Lc stc hx g1 g2 g3 g4 g5 g6 g7 g8
    have e0 : ρ 0 = x0 := hx 0 (by decide)
    have e1 : ρ 1 = x1 := hx 1 (by decide)
    have e2 : ρ 2 = x2 := hx 2 (by decide)
    have e3 : ρ 3 = x3 := hx 3 (by decide)
    subst e0
    subst e1
    subst e2
    subst e3
    match stc, g8 with
    | [], _ => exact l2 τ ρ g1 g2 g3 g4 g5 g6
  · intro ρ τ Lc stc hx g1 g2 g3 g4 g5 g6 g7 g8
    have e0 : ρ 0 = x0 := hx 0 (by decide)
    have e1 : ρ 1 = x1 := hx 1 (by decide)
    have e2 : ρ 2 = x2 := hx 2 (by decide)
    have e3 : ρ 3 = x3 := hx 3 (by decide)
    subst e0
    subst e1
    subst e2
    subst e3
    have g7 := g7 (by decide)
    match Lc, stc, g7, g8 with
    | [v0, v1, v2, v3, v4], [w0, w1], ⟨hv0, hv1, hv2, hv3, hv4, _⟩, ⟨hw0, hw1, _⟩ =>
      cases hv0
      cases hv1
      cases hv2
      cases hv3
      cases hw0
      cases hw1
      exact l3 τ ρ v4 hv4 g1 g2 g3 g4 g5 g6
  · intro ρ τ Lc stc hx g1 g2 g3 g4 g5 g6 g7 g8
    have e0 : ρ 0 = x0 := hx 0 (by decide)
    have e1 : ρ 1 = x1 := hx 1 (by decide)
    have e2 : ρ 2 = x2 := hx 2 (by decide)
    have e3 : ρ 3 = x3 := hx 3 (by decide)
    subst e0
    subst e1
    subst e2
    subst e3
    have g7 := g7 (by decide)
    match Lc, stc, g7, g8 with
    | [v0, v1, v2, v3, v4], [w0], ⟨hv0, hv1, hv2, hv3, hv4, _⟩, ⟨hw0, _⟩ =>
      cases hv0
      cases hv1
      cases hv2
      cases hv3
      cases hv4
      cases hw0
      exact l4 τ ρ  g1 g2 g3 g4 g5 g6
  · intro ρ τ Lc stc hx g1 g2 g3 g4 g5 g6 g7 g8
    have e0 : ρ 0 = x0 := hx 0 (by decide)
    have e1 : ρ 1 = x1 := hx 1 (by decide)
    have e2 : ρ 2 = x2 := hx 2 (by decide)
    have e3 : ρ 3 = x3 := hx 3 (by decide)
    subst e0
    subst e1
    subst e2
    subst e3
    have g7 := g7 (by decide)
    match Lc, stc, g7, g8 with
    | [v0, v1, v2, v3, v4], [w0], ⟨hv0, hv1, hv2, hv3, hv4, _⟩, ⟨hw0, _⟩ =>
      cases hv0
      cases hv1
      cases hv2
      cases hv3
      cases hv4
      cases hw0
      exact l5 τ ρ  g1 g2 g3 g4 g5 g6
set_option maxRecDepth 100000 in
theorem py_a37 (e : Nat) {σ : pm_S} {Q : Option Value → pm_S → Prop} (x0 x1 : Int)  (hB : an_GB pm_B σ) (eF : (0 ≤ x0 ∧ x0 ≤ 9) ∧ (0 ≤ x1 ∧ x1 ≤ 399) ∧ True)
    (l0 : ∀ (τ : pm_S) (y : Nat → Int), an_GB pm_B τ → FQ [] σ τ → ((0 ≤ x0 ∧ x0 ≤ 9) ∧ (0 ≤ x1 ∧ x1 ≤ 399) ∧ True) → (True) → (True) → (True) → Ok 32 (e + 25) 46 [.ref 67, .int (Int32.ofInt (x0)), .int (Int32.ofInt 1), .int (Int32.ofInt (x1)), .int (Int32.ofInt 0)] [.ref 67] τ Q)
    : Ok 32 (e + 25) 37 [.ref 67, .int (Int32.ofInt (x0)), .int (Int32.ofInt 1), .int (Int32.ofInt (x1)), .int (Int32.ofInt 0)] [] σ Q := by
  refine an_segE (e0 := e) (B := pm_B) (F := []) (T := []) (S := []) (fun _ h => absurd h List.not_mem_nil) (k := 32) (d := 24) (cs := [46]) 10 37 2 [(0, 0, 9), (1, 0, 399)] [] [(2, 67, 0), (0, 0, 0), (1, 0, 1), (0, 1, 0), (1, 0, 0)] [] [(46, [(2, 67, 0), (0, 0, 0), (1, 0, 1), (0, 1, 0), (1, 0, 0)], [(2, 67, 0)], [(0, 0, 9), (1, 0, 399)], [], [], [])] (by decide +kernel) (ρ0 := (fun s => [x0, x1].getD s 0)) hB eF trivial ⟨rfl, ⟨rfl, ⟨rfl, ⟨rfl, ⟨rfl, trivial⟩⟩⟩⟩⟩ trivial ?_
  refine List.forall_mem_cons.mpr ⟨?_, fun _ h => absurd h List.not_mem_nil⟩
  · intro ρ τ Lc stc hx g1 g2 g3 g4 g5 g6 g7 g8
    have e0 : ρ 0 = x0 := hx 0 (by decide)
    have e1 : ρ 1 = x1 := hx 1 (by decide)
    subst e0
    subst e1
    have g7 := g7 (by decide)
    match Lc, stc, g7, g8 with
    | [v0, v1, v2, v3, v4], [w0], ⟨hv0, hv1, hv2, hv3, hv4, _⟩, ⟨hw0, _⟩ =>
      cases hv0
      cases hv1
      cases hv2
      cases hv3
      cases hv4
      cases hw0
      exact l0 τ ρ  g1 g2 g3 g4 g5 g6
set_option maxRecDepth 100000 in
theorem py_a47 (e : Nat) {σ : pm_S} {Q : Option Value → pm_S → Prop} (x0 x1 x2 x3 : Int)  (hB : an_GB pm_B σ) (eF : (0 ≤ x0 ∧ x0 ≤ 9) ∧ (0 ≤ x1 ∧ x1 ≤ 1) ∧ (0 ≤ x2 ∧ x2 ≤ 399) ∧ (0 ≤ x3 ∧ x3 ≤ 1) ∧ True)
    (l0 : ∀ (τ : pm_S) (y : Nat → Int), an_GB pm_B τ → FQ [] σ τ → ((0 ≤ x0 ∧ x0 ≤ 9) ∧ (0 ≤ x1 ∧ x1 ≤ 1) ∧ (0 ≤ x2 ∧ x2 ≤ 399) ∧ (0 ≤ x3 ∧ x3 ≤ 1) ∧ True) → (True) → (True) → (True) → Ok 32 (e + 25) 49 [.ref 67, .int (Int32.ofInt (x0)), .int (Int32.ofInt (x1)), .int (Int32.ofInt (x2)), .int (Int32.ofInt (x3))] [.int (Int32.ofInt (x0)), .ref 67] τ Q)
    : Ok 32 (e + 25) 47 [.ref 67, .int (Int32.ofInt (x0)), .int (Int32.ofInt (x1)), .int (Int32.ofInt (x2)), .int (Int32.ofInt (x3))] [] σ Q := by
  refine an_segE (e0 := e) (B := pm_B) (F := []) (T := []) (S := []) (fun _ h => absurd h List.not_mem_nil) (k := 32) (d := 24) (cs := [49]) 4 47 4 [(0, 0, 9), (1, 0, 1), (2, 0, 399), (3, 0, 1)] [] [(2, 67, 0), (0, 0, 0), (0, 1, 0), (0, 2, 0), (0, 3, 0)] [] [(49, [(2, 67, 0), (0, 0, 0), (0, 1, 0), (0, 2, 0), (0, 3, 0)], [(0, 0, 0), (2, 67, 0)], [(0, 0, 9), (1, 0, 1), (2, 0, 399), (3, 0, 1)], [], [], [])] (by decide +kernel) (ρ0 := (fun s => [x0, x1, x2, x3].getD s 0)) hB eF trivial ⟨rfl, ⟨rfl, ⟨rfl, ⟨rfl, ⟨rfl, trivial⟩⟩⟩⟩⟩ trivial ?_
  refine List.forall_mem_cons.mpr ⟨?_, fun _ h => absurd h List.not_mem_nil⟩
  · intro ρ τ Lc stc hx g1 g2 g3 g4 g5 g6 g7 g8
    have e0 : ρ 0 = x0 := hx 0 (by decide)
    have e1 : ρ 1 = x1 := hx 1 (by decide)
    have e2 : ρ 2 = x2 := hx 2 (by decide)
    have e3 : ρ 3 = x3 := hx 3 (by decide)
    subst e0
    subst e1
    subst e2
    subst e3
    have g7 := g7 (by decide)
    match Lc, stc, g7, g8 with
    | [v0, v1, v2, v3, v4], [w0, w1], ⟨hv0, hv1, hv2, hv3, hv4, _⟩, ⟨hw0, hw1, _⟩ =>
      cases hv0
      cases hv1
      cases hv2
      cases hv3
      cases hv4
      cases hw0
      cases hw1
      exact l0 τ ρ  g1 g2 g3 g4 g5 g6
set_option maxRecDepth 100000 in
theorem py_a50 (e : Nat) {σ : pm_S} {Q : Option Value → pm_S → Prop} (x0 x1 x2 x3 : Int)  (hB : an_GB pm_B σ) (eF : (0 ≤ x0 ∧ x0 ≤ 9) ∧ (0 ≤ x1 ∧ x1 ≤ 1) ∧ (0 ≤ x2 ∧ x2 ≤ 399) ∧ (0 ≤ x3 ∧ x3 ≤ 1) ∧ True)
    (l0 : ∀ (τ : pm_S) (y : Nat → Int), an_GB pm_B τ → FQ [] σ τ → ((0 ≤ x0 ∧ x0 ≤ 9) ∧ (0 ≤ x1 ∧ x1 ≤ 1) ∧ (0 ≤ x2 ∧ x2 ≤ 399) ∧ (0 ≤ x3 ∧ x3 ≤ 0) ∧ True) → (True) → (True) → (True) → Ok 32 (e + 25) 7 [.ref 67, .int (Int32.ofInt (x0)), .int (Int32.ofInt (x1)), .int (Int32.ofInt (x2 + 1)), .int (Int32.ofInt (x3))] [] τ Q)
    (l1 : ∀ (τ : pm_S) (y : Nat → Int), an_GB pm_B τ → FQ [] σ τ → ((0 ≤ x0 ∧ x0 ≤ 9) ∧ (0 ≤ x1 ∧ x1 ≤ 1) ∧ (0 ≤ x2 ∧ x2 ≤ 399) ∧ (1 ≤ x3 ∧ x3 ≤ 1) ∧ True) → (True) → (True) → (True) → Ok 32 (e + 25) 55 [.ref 67, .int (Int32.ofInt (x0)), .int (Int32.ofInt (x1)), .int (Int32.ofInt (x2)), .int (Int32.ofInt (x3))] [.int (Int32.ofInt (-5)), .ref 69] τ Q)
    : Ok 32 (e + 25) 50 [.ref 67, .int (Int32.ofInt (x0)), .int (Int32.ofInt (x1)), .int (Int32.ofInt (x2)), .int (Int32.ofInt (x3))] [] σ Q := by
  refine an_segE (e0 := e) (B := pm_B) (F := []) (T := []) (S := []) (fun _ h => absurd h List.not_mem_nil) (k := 32) (d := 24) (cs := [7, 55]) 7 50 4 [(0, 0, 9), (1, 0, 1), (2, 0, 399), (3, 0, 1)] [] [(2, 67, 0), (0, 0, 0), (0, 1, 0), (0, 2, 0), (0, 3, 0)] [] [(7, [(2, 67, 0), (0, 0, 0), (0, 1, 0), (0, 2, 1), (0, 3, 0)], [], [(0, 0, 9), (1, 0, 1), (2, 0, 399), (3, 0, 0)], [], [], []),
    (55, [(2, 67, 0), (0, 0, 0), (0, 1, 0), (0, 2, 0), (0, 3, 0)], [(1, 0, (-5)), (2, 69, 0)], [(0, 0, 9), (1, 0, 1), (2, 0, 399), (3, 1, 1)], [], [], [])] (by decide +kernel) (ρ0 := (fun s => [x0, x1, x2, x3].getD s 0)) hB eF trivial ⟨rfl, ⟨rfl, ⟨rfl, ⟨rfl, ⟨rfl, trivial⟩⟩⟩⟩⟩ trivial ?_
  refine List.forall_mem_cons.mpr ⟨?_, List.forall_mem_cons.mpr ⟨?_, fun _ h => absurd h List.not_mem_nil⟩⟩
  · intro ρ τ Lc stc hx g1 g2 g3 g4 g5 g6 g7 g8
    have e0 : ρ 0 = x0 := hx 0 (by decide)
    have e1 : ρ 1 = x1 := hx 1 (by decide)
    have e2 : ρ 2 = x2 := hx 2 (by decide)
    have e3 : ρ 3 = x3 := hx 3 (by decide)
    subst e0
    subst e1
    subst e2
    subst e3
    have g7 := g7 (by decide)
    match Lc, stc, g7, g8 with
    | [v0, v1, v2, v3, v4], [], ⟨hv0, hv1, hv2, hv3, hv4, _⟩, _ =>
      cases hv0
      cases hv1
      cases hv2
      cases hv3
      cases hv4
      exact l0 τ ρ  g1 g2 g3 g4 g5 g6
  · intro ρ τ Lc stc hx g1 g2 g3 g4 g5 g6 g7 g8
    have e0 : ρ 0 = x0 := hx 0 (by decide)
    have e1 : ρ 1 = x1 := hx 1 (by decide)
    have e2 : ρ 2 = x2 := hx 2 (by decide)
    have e3 : ρ 3 = x3 := hx 3 (by decide)
    subst e0
    subst e1
    subst e2
    subst e3
    have g7 := g7 (by decide)
    match Lc, stc, g7, g8 with
    | [v0, v1, v2, v3, v4], [w0, w1], ⟨hv0, hv1, hv2, hv3, hv4, _⟩, ⟨hw0, hw1, _⟩ =>
      cases hv0
      cases hv1
      cases hv2
      cases hv3
      cases hv4
      cases hw0
      cases hw1
      exact l1 τ ρ  g1 g2 g3 g4 g5 g6
set_option maxRecDepth 100000 in
theorem py_a56 (e : Nat) {σ : pm_S} {Q : Option Value → pm_S → Prop} (x0 x1 x2 x3 : Int)  (hB : an_GB pm_B σ) (eF : (0 ≤ x0 ∧ x0 ≤ 9) ∧ (0 ≤ x1 ∧ x1 ≤ 1) ∧ (0 ≤ x2 ∧ x2 ≤ 399) ∧ (0 ≤ x3 ∧ x3 ≤ 1) ∧ True)
    (l0 : ∀ (τ : pm_S) (y : Nat → Int), an_GB pm_B τ → FQ [] σ τ → ((0 ≤ x0 ∧ x0 ≤ 9) ∧ (0 ≤ x1 ∧ x1 ≤ 1) ∧ (0 ≤ x2 ∧ x2 ≤ 399) ∧ (0 ≤ x3 ∧ x3 ≤ 1) ∧ True) → (True) → (True) → (True) → Ok 32 (e + 25) 7 [.ref 67, .int (Int32.ofInt (x0)), .int (Int32.ofInt (x1)), .int (Int32.ofInt (x2 + 1)), .int (Int32.ofInt (x3))] [] τ Q)
    : Ok 32 (e + 25) 56 [.ref 67, .int (Int32.ofInt (x0)), .int (Int32.ofInt (x1)), .int (Int32.ofInt (x2)), .int (Int32.ofInt (x3))] [] σ Q := by
  refine an_segE (e0 := e) (B := pm_B) (F := []) (T := []) (S := []) (fun _ h => absurd h List.not_mem_nil) (k := 32) (d := 24) (cs := [7]) 4 56 4 [(0, 0, 9), (1, 0, 1), (2, 0, 399), (3, 0, 1)] [] [(2, 67, 0), (0, 0, 0), (0, 1, 0), (0, 2, 0), (0, 3, 0)] [] [(7, [(2, 67, 0), (0, 0, 0), (0, 1, 0), (0, 2, 1), (0, 3, 0)], [], [(0, 0, 9), (1, 0, 1), (2, 0, 399), (3, 0, 1)], [], [], [])] (by decide +kernel) (ρ0 := (fun s => [x0, x1, x2, x3].getD s 0)) hB eF trivial ⟨rfl, ⟨rfl, ⟨rfl, ⟨rfl, ⟨rfl, trivial⟩⟩⟩⟩⟩ trivial ?_
  refine List.forall_mem_cons.mpr ⟨?_, fun _ h => absurd h List.not_mem_nil⟩
  · intro ρ τ Lc stc hx g1 g2 g3 g4 g5 g6 g7 g8
    have e0 : ρ 0 = x0 := hx 0 (by decide)
    have e1 : ρ 1 = x1 := hx 1 (by decide)
    have e2 : ρ 2 = x2 := hx 2 (by decide)
    have e3 : ρ 3 = x3 := hx 3 (by decide)
    subst e0
    subst e1
    subst e2
    subst e3
    have g7 := g7 (by decide)
    match Lc, stc, g7, g8 with
    | [v0, v1, v2, v3, v4], [], ⟨hv0, hv1, hv2, hv3, hv4, _⟩, _ =>
      cases hv0
      cases hv1
      cases hv2
      cases hv3
      cases hv4
      exact l0 τ ρ  g1 g2 g3 g4 g5 g6
set_option maxRecDepth 100000 in
theorem py_a64 (e : Nat) {σ : pm_S} {Q : Option Value → pm_S → Prop} (v1 : Value) (v2 : Value) (v3 : Value) (v4 : Value) (hv1 : v1.category = 1) (hv2 : v2.category = 1) (hv3 : v3.category = 1) (hv4 : v4.category = 1) (hB : an_GB pm_B σ)
    (l0 : ∀ (τ : pm_S) (y : Nat → Int), an_GB pm_B τ → FQ [] σ τ → (True) → (True) → (True) → (True) → Q none τ)
    : Ok 32 (e + 25) 64 [.ref 67, v1, v2, v3, v4] [] σ Q := by
  refine an_segE (e0 := e) (B := pm_B) (F := []) (T := []) (S := []) (fun _ h => absurd h List.not_mem_nil) (k := 32) (d := 24) (cs := []) 3 64 0 [] [] [(2, 67, 0), (5, 0, 0), (5, 0, 0), (5, 0, 0), (5, 0, 0)] [] [(9999, [], [], [], [], [], [])] (by decide +kernel) (ρ0 := (fun s => [].getD s 0)) hB trivial trivial ⟨rfl, ⟨hv1, ⟨hv2, ⟨hv3, ⟨hv4, trivial⟩⟩⟩⟩⟩ trivial ?_
  refine List.forall_mem_cons.mpr ⟨?_, fun _ h => absurd h List.not_mem_nil⟩
  · intro ρ τ Lc stc hx g1 g2 g3 g4 g5 g6 g7 g8
    match stc, g8 with
    | [], _ => exact l0 τ ρ g1 g2 g3 g4 g5 g6
set_option maxRecDepth 100000 in
theorem py_af5 (e : Nat) {σ : pm_S} {Q : Option Value → pm_S → Prop} (x0 x1 : Int) (v3 : Value) (v4 : Value) (hv3 : v3.category = 1) (hv4 : v4.category = 1) (hB : an_GB pm_B σ) (eF : (0 ≤ x0 ∧ x0 ≤ 9) ∧ (1 ≤ x1 ∧ x1 ≤ 3) ∧ True) (eC : (σ.1 67 0).toInt = x1 ∧ True)
    (l0 : ∀ (τ : pm_S) (y : Nat → Int), an_GB pm_B τ → FQ [(67, 8), (67, 9), (69, 1), (70, 9999)] σ τ → ((0 ≤ x0 ∧ x0 ≤ 9) ∧ (1 ≤ x1 ∧ x1 ≤ 3) ∧ True) → (x1 ≠ 0 ∧ True) → (True) → (True) → Q none τ)
    : Ok 32 (e + 25) 5 [.ref 67, .int (Int32.ofInt (x0)), .int (Int32.ofInt 0), v3, v4] [] σ Q := by
  refine an_segE (e0 := e) (B := pm_B) (F := [(67, 8), (67, 9), (69, 1), (70, 9999)]) (T := []) (S := [sf_ru, sf_rs]) (List.forall_mem_cons.mpr ⟨sf_ru_ok, List.forall_mem_cons.mpr ⟨sf_rs_ok, fun _ h => absurd h List.not_mem_nil⟩⟩) (k := 32) (d := 24) (cs := []) 13 5 2 [(0, 0, 9), (1, 1, 3)] [(67, (1, 0, 0), (0, 1, 0))] [(2, 67, 0), (0, 0, 0), (1, 0, 0), (5, 0, 0), (5, 0, 0)] [] [(9999, [], [], [(0, 0, 9), (1, 1, 3)], [(3, 1, 1, 0)], [], [])] (by decide +kernel) (ρ0 := (fun s => [x0, x1].getD s 0)) hB eF eC ⟨rfl, ⟨rfl, ⟨rfl, ⟨hv3, ⟨hv4, trivial⟩⟩⟩⟩⟩ trivial ?_
  refine List.forall_mem_cons.mpr ⟨?_, fun _ h => absurd h List.not_mem_nil⟩
  · intro ρ τ Lc stc hx g1 g2 g3 g4 g5 g6 g7 g8
    have e0 : ρ 0 = x0 := hx 0 (by decide)
    have e1 : ρ 1 = x1 := hx 1 (by decide)
    subst e0
    subst e1
    match stc, g8 with
    | [], _ => exact l0 τ ρ g1 g2 g3 g4 g5 g6
set_option maxRecDepth 100000 in
theorem py_af50 (e : Nat) {σ : pm_S} {Q : Option Value → pm_S → Prop} (x0 x1 x2 x3 x4 : Int)  (hB : an_GB pm_B σ) (eF : (0 ≤ x0 ∧ x0 ≤ 9) ∧ (0 ≤ x1 ∧ x1 ≤ 1) ∧ (0 ≤ x2 ∧ x2 ≤ 399) ∧ (0 ≤ x3 ∧ x3 ≤ 1) ∧ (1 ≤ x4 ∧ x4 ≤ 3) ∧ True) (eC : (σ.1 67 0).toInt = x4 ∧ True)
    (l0 : ∀ (τ : pm_S) (y : Nat → Int), an_GB pm_B τ → FQ [(67, 8), (67, 9), (69, 1), (70, 9999)] σ τ → ((0 ≤ x0 ∧ x0 ≤ 9) ∧ (0 ≤ x1 ∧ x1 ≤ 1) ∧ (0 ≤ x2 ∧ x2 ≤ 399) ∧ (0 ≤ x3 ∧ x3 ≤ 1) ∧ (1 ≤ x4 ∧ x4 ≤ 3) ∧ True) → (True) → (True) → (True) → Q none τ)
    : Ok 32 (e + 25) 50 [.ref 67, .int (Int32.ofInt (x0)), .int (Int32.ofInt (x1)), .int (Int32.ofInt (x2)), .int (Int32.ofInt (x3))] [] σ Q := by
  refine an_segE (e0 := e) (B := pm_B) (F := [(67, 8), (67, 9), (69, 1), (70, 9999)]) (T := []) (S := [sf_ru, sf_rs]) (List.forall_mem_cons.mpr ⟨sf_ru_ok, List.forall_mem_cons.mpr ⟨sf_rs_ok, fun _ h => absurd h List.not_mem_nil⟩⟩) (k := 32) (d := 24) (cs := []) 61 50 5 [(0, 0, 9), (1, 0, 1), (2, 0, 399), (3, 0, 1), (4, 1, 3)] [(67, (1, 0, 0), (0, 4, 0))] [(2, 67, 0), (0, 0, 0), (0, 1, 0), (0, 2, 0), (0, 3, 0)] [] [(9999, [], [], [(0, 0, 9), (1, 0, 1), (2, 0, 399), (3, 0, 1), (4, 1, 3)], [], [], [])] (by decide +kernel) (ρ0 := (fun s => [x0, x1, x2, x3, x4].getD s 0)) hB eF eC ⟨rfl, ⟨rfl, ⟨rfl, ⟨rfl, ⟨rfl, trivial⟩⟩⟩⟩⟩ trivial ?_
  refine List.forall_mem_cons.mpr ⟨?_, fun _ h => absurd h List.not_mem_nil⟩
  · intro ρ τ Lc stc hx g1 g2 g3 g4 g5 g6 g7 g8
    have e0 : ρ 0 = x0 := hx 0 (by decide)
    have e1 : ρ 1 = x1 := hx 1 (by decide)
    have e2 : ρ 2 = x2 := hx 2 (by decide)
    have e3 : ρ 3 = x3 := hx 3 (by decide)
    have e4 : ρ 4 = x4 := hx 4 (by decide)
    subst e0
    subst e1
    subst e2
    subst e3
    subst e4
    match stc, g8 with
    | [], _ => exact l0 τ ρ g1 g2 g3 g4 g5 g6
set_option maxRecDepth 100000 in
theorem py_l0 {σ : pm_S} {Q : Option Value → pm_S → Prop} (x0 x1 : Int) (v1 : Value) (hv1 : v1.category = 1) (hB : an_GB pm_B σ) (eF : ((-27) ≤ x0 ∧ x0 ≤ 9999) ∧ (0 ≤ x1 ∧ x1 ≤ 16) ∧ True) (eC : (σ.1 67 9).toInt = x0 ∧ (σ.1 69 0).toInt = x1 ∧ True)
    (l0 : ∀ (τ : pm_S) (y : Nat → Int), an_GB pm_B τ → FQ [] σ τ → (((-1) ≤ x0 ∧ x0 ≤ (-1)) ∧ (0 ≤ x1 ∧ x1 ≤ 15) ∧ True) → (True) → (True) → ((τ.1 67 9).toInt = x0 ∧ (τ.1 69 0).toInt = x1 ∧ True) → Ok 31 126 23 [.ref 67, .int (Int32.ofInt (x0))] [.ref 67] τ Q)
    (l1 : ∀ (τ : pm_S) (y : Nat → Int), an_GB pm_B τ → FQ [] σ τ → (((-1) ≤ x0 ∧ x0 ≤ (-1)) ∧ (16 ≤ x1 ∧ x1 ≤ 16) ∧ True) → (True) → (True) → ((τ.1 67 9).toInt = x0 ∧ (τ.1 69 0).toInt = x1 ∧ True) → Ok 31 126 20 [.ref 67, .int (Int32.ofInt (x0))] [.int (Int32.ofInt 3), .ref 67] τ Q)
    (l2 : ∀ (τ : pm_S) (y : Nat → Int), an_GB pm_B τ → FQ [] σ τ → (((-2) ≤ x0 ∧ x0 ≤ (-2)) ∧ (0 ≤ x1 ∧ x1 ≤ 15) ∧ True) → (x0 ≠ (-1) ∧ True) → (True) → ((τ.1 67 9).toInt = x0 ∧ (τ.1 69 0).toInt = x1 ∧ True) → Ok 31 126 23 [.ref 67, .int (Int32.ofInt (x0))] [.ref 67] τ Q)
    (l3 : ∀ (τ : pm_S) (y : Nat → Int), an_GB pm_B τ → FQ [] σ τ → (((-2) ≤ x0 ∧ x0 ≤ (-2)) ∧ (16 ≤ x1 ∧ x1 ≤ 16) ∧ True) → (x0 ≠ (-1) ∧ True) → (True) → ((τ.1 67 9).toInt = x0 ∧ (τ.1 69 0).toInt = x1 ∧ True) → Ok 31 126 20 [.ref 67, .int (Int32.ofInt (x0))] [.int (Int32.ofInt 3), .ref 67] τ Q)
    (l4 : ∀ (τ : pm_S) (y : Nat → Int), an_GB pm_B τ → FQ [] σ τ → (((-27) ≤ x0 ∧ x0 ≤ 9999) ∧ (0 ≤ x1 ∧ x1 ≤ 16) ∧ True) → (x0 ≠ (-2) ∧ x0 ≠ (-1) ∧ True) → (True) → ((τ.1 67 9).toInt = x0 ∧ (τ.1 69 0).toInt = x1 ∧ True) → Ok 31 126 11 [.ref 67, .int (Int32.ofInt (x0))] [.int (Int32.ofInt 1), .ref 67] τ Q)
    : Ok 31 126 0 [.ref 67, v1] [] σ Q := by
  refine an_seg (B := pm_B) (F := []) (T := []) (S := []) (fun _ h => absurd h List.not_mem_nil) (k := 31) (d := 125) (cs := [11, 20, 23]) 18 0 2 [(0, (-27), 9999), (1, 0, 16)] [(67, (1, 0, 9), (0, 0, 0)), (69, (1, 0, 0), (0, 1, 0))] [(2, 67, 0), (5, 0, 0)] [] [(23, [(2, 67, 0), (0, 0, 0)], [(2, 67, 0)], [(0, (-1), (-1)), (1, 0, 15)], [], [], [(67, (1, 0, 9), (0, 0, 0)), (69, (1, 0, 0), (0, 1, 0))]),
    (20, [(2, 67, 0), (0, 0, 0)], [(1, 0, 3), (2, 67, 0)], [(0, (-1), (-1)), (1, 16, 16)], [], [], [(67, (1, 0, 9), (0, 0, 0)), (69, (1, 0, 0), (0, 1, 0))]),
    (23, [(2, 67, 0), (0, 0, 0)], [(2, 67, 0)], [(0, (-2), (-2)), (1, 0, 15)], [(3, 0, 0, (-1))], [], [(67, (1, 0, 9), (0, 0, 0)), (69, (1, 0, 0), (0, 1, 0))]),
    (20, [(2, 67, 0), (0, 0, 0)], [(1, 0, 3), (2, 67, 0)], [(0, (-2), (-2)), (1, 16, 16)], [(3, 0, 0, (-1))], [], [(67, (1, 0, 9), (0, 0, 0)), (69, (1, 0, 0), (0, 1, 0))]),
    (11, [(2, 67, 0), (0, 0, 0)], [(1, 0, 1), (2, 67, 0)], [(0, (-27), 9999), (1, 0, 16)], [(3, 0, 0, (-2)), (3, 0, 0, (-1))], [], [(67, (1, 0, 9), (0, 0, 0)), (69, (1, 0, 0), (0, 1, 0))])] (by decide +kernel) (ρ0 := (fun s => [x0, x1].getD s 0)) hB eF eC ⟨rfl, ⟨hv1, trivial⟩⟩ trivial ?_
  refine List.forall_mem_cons.mpr ⟨?_, List.forall_mem_cons.mpr ⟨?_, List.forall_mem_cons.mpr ⟨?_, List.forall_mem_cons.mpr ⟨?_, List.forall_mem_cons.mpr ⟨?_, fun _ h => absurd h List.not_mem_nil⟩⟩⟩⟩⟩
  · intro ρ τ Lc stc hx g1 g2 g3 g4 g5 g6 g7 g8
    have e0 : ρ 0 = x0 := hx 0 (by decide)
    have e1 : ρ 1 = x1 := hx 1 (by decide)
    subst e0
    subst e1
    have g7 := g7 (by decide)
    match Lc, stc, g7, g8 with
    | [v0, v1], [w0], ⟨hv0, hv1, _⟩, ⟨hw0, _⟩ =>
      cases hv0
      cases hv1
      cases hw0
      exact l0 τ ρ  g1 g2 g3 g4 g5 g6
  · intro ρ τ Lc stc hx g1 g2 g3 g4 g5 g6 g7 g8
    have e0 : ρ 0 = x0 := hx 0 (by decide)
    have e1 : ρ 1 = x1 := hx 1 (by decide)
    subst e0
    subst e1
    have g7 := g7 (by decide)
    match Lc, stc, g7, g8 with
    | [v0, v1], [w0, w1], ⟨hv0, hv1, _⟩, ⟨hw0, hw1, _⟩ =>
      cases hv0
      cases hv1
      cases hw0
      cases hw1
      exact l1 τ ρ  g1 g2 g3 g4 g5 g6
  · intro ρ τ Lc stc hx g1 g2 g3 g4 g5 g6 g7 g8
    have e0 : ρ 0 = x0 := hx 0 (by decide)
    have e1 : ρ 1 = x1 := hx 1 (by decide)
    subst e0
    subst e1
    have g7 := g7 (by decide)
    match Lc, stc, g7, g8 with
    | [v0, v1], [w0], ⟨hv0, hv1, _⟩, ⟨hw0, _⟩ =>
      cases hv0
      cases hv1
      cases hw0
      exact l2 τ ρ  g1 g2 g3 g4 g5 g6
  · intro ρ τ Lc stc hx g1 g2 g3 g4 g5 g6 g7 g8
    have e0 : ρ 0 = x0 := hx 0 (by decide)
    have e1 : ρ 1 = x1 := hx 1 (by decide)
    subst e0
    subst e1
    have g7 := g7 (by decide)
    match Lc, stc, g7, g8 with
    | [v0, v1], [w0, w1], ⟨hv0, hv1, _⟩, ⟨hw0, hw1, _⟩ =>
      cases hv0
      cases hv1
      cases hw0
      cases hw1
      exact l3 τ ρ  g1 g2 g3 g4 g5 g6
  · intro ρ τ Lc stc hx g1 g2 g3 g4 g5 g6 g7 g8
    have e0 : ρ 0 = x0 := hx 0 (by decide)
    have e1 : ρ 1 = x1 := hx 1 (by decide)
    subst e0
    subst e1
    have g7 := g7 (by decide)
    match Lc, stc, g7, g8 with
    | [v0, v1], [w0, w1], ⟨hv0, hv1, _⟩, ⟨hw0, hw1, _⟩ =>
      cases hv0
      cases hv1
      cases hw0
      cases hw1
      exact l4 τ ρ  g1 g2 g3 g4 g5 g6
set_option maxRecDepth 100000 in
theorem py_l12 {σ : pm_S} {Q : Option Value → pm_S → Prop} (v1 : Value) (hv1 : v1.category = 1) (hB : an_GB pm_B σ)
    (l0 : ∀ (τ : pm_S) (y : Nat → Int), an_GB pm_B τ → FQ [] σ τ → (True) → (True) → (True) → (True) → Q none τ)
    : Ok 31 126 12 [.ref 67, v1] [] σ Q := by
  refine an_seg (B := pm_B) (F := []) (T := []) (S := []) (fun _ h => absurd h List.not_mem_nil) (k := 31) (d := 125) (cs := []) 3 12 0 [] [] [(2, 67, 0), (5, 0, 0)] [] [(9999, [], [], [], [], [], [])] (by decide +kernel) (ρ0 := (fun s => [].getD s 0)) hB trivial trivial ⟨rfl, ⟨hv1, trivial⟩⟩ trivial ?_
  refine List.forall_mem_cons.mpr ⟨?_, fun _ h => absurd h List.not_mem_nil⟩
  · intro ρ τ Lc stc hx g1 g2 g3 g4 g5 g6 g7 g8
    match stc, g8 with
    | [], _ => exact l0 τ ρ g1 g2 g3 g4 g5 g6
set_option maxRecDepth 100000 in
theorem py_l21 {σ : pm_S} {Q : Option Value → pm_S → Prop} (v1 : Value) (hv1 : v1.category = 1) (hB : an_GB pm_B σ)
    (l0 : ∀ (τ : pm_S) (y : Nat → Int), an_GB pm_B τ → FQ [] σ τ → (True) → (True) → (True) → (True) → Q none τ)
    : Ok 31 126 21 [.ref 67, v1] [] σ Q := by
  refine an_seg (B := pm_B) (F := []) (T := []) (S := []) (fun _ h => absurd h List.not_mem_nil) (k := 31) (d := 125) (cs := []) 3 21 0 [] [] [(2, 67, 0), (5, 0, 0)] [] [(9999, [], [], [], [], [], [])] (by decide +kernel) (ρ0 := (fun s => [].getD s 0)) hB trivial trivial ⟨rfl, ⟨hv1, trivial⟩⟩ trivial ?_
  refine List.forall_mem_cons.mpr ⟨?_, fun _ h => absurd h List.not_mem_nil⟩
  · intro ρ τ Lc stc hx g1 g2 g3 g4 g5 g6 g7 g8
    match stc, g8 with
    | [], _ => exact l0 τ ρ g1 g2 g3 g4 g5 g6
set_option maxRecDepth 100000 in
theorem py_l24 {σ : pm_S} {Q : Option Value → pm_S → Prop} (x0 x1 : Int)  (hB : an_GB pm_B σ) (eF : ((-2) ≤ x0 ∧ x0 ≤ (-1)) ∧ ((-27) ≤ x1 ∧ x1 ≤ 9999) ∧ True) (eC : (σ.1 67 9).toInt = x1 ∧ True)
    (l0 : ∀ (τ : pm_S) (y : Nat → Int), an_GB pm_B τ → FQ [] σ τ → (((-2) ≤ x0 ∧ x0 ≤ (-1)) ∧ ((-27) ≤ x1 ∧ x1 ≤ 9999) ∧ True) → (x1 ≠ (-3) ∧ True) → (True) → ((τ.1 67 9).toInt = x1 ∧ True) → Ok 31 126 37 [.ref 67, .int (Int32.ofInt (x0))] [.int (Int32.ofInt 1), .ref 69] τ Q)
    (l1 : ∀ (τ : pm_S) (y : Nat → Int), an_GB pm_B τ → FQ [] σ τ → (((-2) ≤ x0 ∧ x0 ≤ (-1)) ∧ ((-3) ≤ x1 ∧ x1 ≤ (-3)) ∧ True) → (True) → (True) → ((τ.1 67 9).toInt = x1 ∧ True) → Ok 31 126 29 [.ref 67, .int (Int32.ofInt (x0))] [.ref 67] τ Q)
    : Ok 31 126 24 [.ref 67, .int (Int32.ofInt (x0))] [] σ Q := by
  refine an_seg (B := pm_B) (F := []) (T := []) (S := []) (fun _ h => absurd h List.not_mem_nil) (k := 31) (d := 125) (cs := [29, 37]) 9 24 2 [(0, (-2), (-1)), (1, (-27), 9999)] [(67, (1, 0, 9), (0, 1, 0))] [(2, 67, 0), (0, 0, 0)] [] [(37, [(2, 67, 0), (0, 0, 0)], [(1, 0, 1), (2, 69, 0)], [(0, (-2), (-1)), (1, (-27), 9999)], [(3, 1, 1, (-3))], [], [(67, (1, 0, 9), (0, 1, 0))]),
    (29, [(2, 67, 0), (0, 0, 0)], [(2, 67, 0)], [(0, (-2), (-1)), (1, (-3), (-3))], [], [], [(67, (1, 0, 9), (0, 1, 0))])] (by decide +kernel) (ρ0 := (fun s => [x0, x1].getD s 0)) hB eF eC ⟨rfl, ⟨rfl, trivial⟩⟩ trivial ?_
  refine List.forall_mem_cons.mpr ⟨?_, List.forall_mem_cons.mpr ⟨?_, fun _ h => absurd h List.not_mem_nil⟩⟩
  · intro ρ τ Lc stc hx g1 g2 g3 g4 g5 g6 g7 g8
    have e0 : ρ 0 = x0 := hx 0 (by decide)
    have e1 : ρ 1 = x1 := hx 1 (by decide)
    subst e0
    subst e1
    have g7 := g7 (by decide)
    match Lc, stc, g7, g8 with
    | [v0, v1], [w0, w1], ⟨hv0, hv1, _⟩, ⟨hw0, hw1, _⟩ =>
      cases hv0
      cases hv1
      cases hw0
      cases hw1
      exact l0 τ ρ  g1 g2 g3 g4 g5 g6
  · intro ρ τ Lc stc hx g1 g2 g3 g4 g5 g6 g7 g8
    have e0 : ρ 0 = x0 := hx 0 (by decide)
    have e1 : ρ 1 = x1 := hx 1 (by decide)
    subst e0
    subst e1
    have g7 := g7 (by decide)
    match Lc, stc, g7, g8 with
    | [v0, v1], [w0], ⟨hv0, hv1, _⟩, ⟨hw0, _⟩ =>
      cases hv0
      cases hv1
      cases hw0
      exact l1 τ ρ  g1 g2 g3 g4 g5 g6
set_option maxRecDepth 100000 in
theorem py_l30 {σ : pm_S} {Q : Option Value → pm_S → Prop} (x0 : Int)  (hB : an_GB pm_B σ) (eF : ((-2) ≤ x0 ∧ x0 ≤ (-1)) ∧ True)
    (l0 : ∀ (τ : pm_S) (y : Nat → Int), an_GB pm_B τ → FQ [] σ τ → (((-2) ≤ x0 ∧ x0 ≤ (-1)) ∧ True) → (True) → (True) → (True) → Ok 31 126 32 [.ref 67, .int (Int32.ofInt (x0))] [.int (Int32.ofInt 0), .ref 67] τ Q)
    : Ok 31 126 30 [.ref 67, .int (Int32.ofInt (x0))] [] σ Q := by
  refine an_seg (B := pm_B) (F := []) (T := []) (S := []) (fun _ h => absurd h List.not_mem_nil) (k := 31) (d := 125) (cs := [32]) 4 30 1 [(0, (-2), (-1))] [] [(2, 67, 0), (0, 0, 0)] [] [(32, [(2, 67, 0), (0, 0, 0)], [(1, 0, 0), (2, 67, 0)], [(0, (-2), (-1))], [], [], [])] (by decide +kernel) (ρ0 := (fun s => [x0].getD s 0)) hB eF trivial ⟨rfl, ⟨rfl, trivial⟩⟩ trivial ?_
  refine List.forall_mem_cons.mpr ⟨?_, fun _ h => absurd h List.not_mem_nil⟩
  · intro ρ τ Lc stc hx g1 g2 g3 g4 g5 g6 g7 g8
    have e0 : ρ 0 = x0 := hx 0 (by decide)
    subst e0
    have g7 := g7 (by decide)
    match Lc, stc, g7, g8 with
    | [v0, v1], [w0, w1], ⟨hv0, hv1, _⟩, ⟨hw0, hw1, _⟩ =>
      cases hv0
      cases hv1
      cases hw0
      cases hw1
      exact l0 τ ρ  g1 g2 g3 g4 g5 g6
set_option maxRecDepth 100000 in
theorem py_l33 {σ : pm_S} {Q : Option Value → pm_S → Prop} (x0 : Int)  (hB : an_GB pm_B σ) (eF : ((-2) ≤ x0 ∧ x0 ≤ (-1)) ∧ True)
    (l0 : ∀ (τ : pm_S) (y : Nat → Int), an_GB pm_B τ → FQ [] σ τ → (((-2) ≤ x0 ∧ x0 ≤ (-1)) ∧ True) → (True) → (True) → (True) → Ok 31 126 40 [.ref 67, .int (Int32.ofInt (x0))] [.int (Int32.ofInt (-16)), .ref 67] τ Q)
    : Ok 31 126 33 [.ref 67, .int (Int32.ofInt (x0))] [] σ Q := by
  refine an_seg (B := pm_B) (F := []) (T := []) (S := []) (fun _ h => absurd h List.not_mem_nil) (k := 31) (d := 125) (cs := [40]) 5 33 1 [(0, (-2), (-1))] [] [(2, 67, 0), (0, 0, 0)] [] [(40, [(2, 67, 0), (0, 0, 0)], [(1, 0, (-16)), (2, 67, 0)], [(0, (-2), (-1))], [], [], [])] (by decide +kernel) (ρ0 := (fun s => [x0].getD s 0)) hB eF trivial ⟨rfl, ⟨rfl, trivial⟩⟩ trivial ?_
  refine List.forall_mem_cons.mpr ⟨?_, fun _ h => absurd h List.not_mem_nil⟩
  · intro ρ τ Lc stc hx g1 g2 g3 g4 g5 g6 g7 g8
    have e0 : ρ 0 = x0 := hx 0 (by decide)
    subst e0
    have g7 := g7 (by decide)
    match Lc, stc, g7, g8 with
    | [v0, v1], [w0, w1], ⟨hv0, hv1, _⟩, ⟨hw0, hw1, _⟩ =>
      cases hv0
      cases hv1
      cases hw0
      cases hw1
      exact l0 τ ρ  g1 g2 g3 g4 g5 g6
set_option maxRecDepth 100000 in
theorem py_l38 {σ : pm_S} {Q : Option Value → pm_S → Prop} (x0 : Int)  (hB : an_GB pm_B σ) (eF : ((-2) ≤ x0 ∧ x0 ≤ (-1)) ∧ True)
    (l0 : ∀ (τ : pm_S) (y : Nat → Int), an_GB pm_B τ → FQ [] σ τ → (((-2) ≤ x0 ∧ x0 ≤ (-1)) ∧ True) → (True) → (True) → (True) → Ok 31 126 40 [.ref 67, .int (Int32.ofInt (x0))] [.int (Int32.ofInt (-16)), .ref 67] τ Q)
    : Ok 31 126 38 [.ref 67, .int (Int32.ofInt (x0))] [] σ Q := by
  refine an_seg (B := pm_B) (F := []) (T := []) (S := []) (fun _ h => absurd h List.not_mem_nil) (k := 31) (d := 125) (cs := [40]) 4 38 1 [(0, (-2), (-1))] [] [(2, 67, 0), (0, 0, 0)] [] [(40, [(2, 67, 0), (0, 0, 0)], [(1, 0, (-16)), (2, 67, 0)], [(0, (-2), (-1))], [], [], [])] (by decide +kernel) (ρ0 := (fun s => [x0].getD s 0)) hB eF trivial ⟨rfl, ⟨rfl, trivial⟩⟩ trivial ?_
  refine List.forall_mem_cons.mpr ⟨?_, fun _ h => absurd h List.not_mem_nil⟩
  · intro ρ τ Lc stc hx g1 g2 g3 g4 g5 g6 g7 g8
    have e0 : ρ 0 = x0 := hx 0 (by decide)
    subst e0
    have g7 := g7 (by decide)
    match Lc, stc, g7, g8 with
    | [v0, v1], [w0, w1], ⟨hv0, hv1, _⟩, ⟨hw0, hw1, _⟩ =>
      cases hv0
      cases hv1
      cases hw0
      cases hw1
      exact l0 τ ρ  g1 g2 g3 g4 g5 g6
set_option maxRecDepth 100000 in
theorem py_l41 {σ : pm_S} {Q : Option Value → pm_S → Prop} (x0 : Int)  (hB : an_GB pm_B σ) (eF : ((-2) ≤ x0 ∧ x0 ≤ (-1)) ∧ True)
    (l0 : ∀ (τ : pm_S) (y : Nat → Int), an_GB pm_B τ → FQ [] σ τ → (((-2) ≤ x0 ∧ x0 ≤ (-1)) ∧ True) → (True) → (True) → (True) → Ok 31 126 44 [.ref 67, .int (Int32.ofInt (x0))] [.int (Int32.ofInt (x0)), .ref 69] τ Q)
    : Ok 31 126 41 [.ref 67, .int (Int32.ofInt (x0))] [] σ Q := by
  refine an_seg (B := pm_B) (F := []) (T := []) (S := []) (fun _ h => absurd h List.not_mem_nil) (k := 31) (d := 125) (cs := [44]) 5 41 1 [(0, (-2), (-1))] [] [(2, 67, 0), (0, 0, 0)] [] [(44, [(2, 67, 0), (0, 0, 0)], [(0, 0, 0), (2, 69, 0)], [(0, (-2), (-1))], [], [], [])] (by decide +kernel) (ρ0 := (fun s => [x0].getD s 0)) hB eF trivial ⟨rfl, ⟨rfl, trivial⟩⟩ trivial ?_
  refine List.forall_mem_cons.mpr ⟨?_, fun _ h => absurd h List.not_mem_nil⟩
  · intro ρ τ Lc stc hx g1 g2 g3 g4 g5 g6 g7 g8
    have e0 : ρ 0 = x0 := hx 0 (by decide)
    subst e0
    have g7 := g7 (by decide)
    match Lc, stc, g7, g8 with
    | [v0, v1], [w0, w1], ⟨hv0, hv1, _⟩, ⟨hw0, hw1, _⟩ =>
      cases hv0
      cases hv1
      cases hw0
      cases hw1
      exact l0 τ ρ  g1 g2 g3 g4 g5 g6
set_option maxRecDepth 100000 in
theorem py_l45 {σ : pm_S} {Q : Option Value → pm_S → Prop} (x0 : Int)  (hB : an_GB pm_B σ) (eF : ((-2) ≤ x0 ∧ x0 ≤ (-1)) ∧ True)
    (l0 : ∀ (τ : pm_S) (y : Nat → Int), an_GB pm_B τ → FQ [] σ τ → (((-2) ≤ x0 ∧ x0 ≤ (-1)) ∧ True) → (True) → (True) → (True) → Q none τ)
    : Ok 31 126 45 [.ref 67, .int (Int32.ofInt (x0))] [] σ Q := by
  refine an_seg (B := pm_B) (F := []) (T := []) (S := []) (fun _ h => absurd h List.not_mem_nil) (k := 31) (d := 125) (cs := []) 3 45 1 [(0, (-2), (-1))] [] [(2, 67, 0), (0, 0, 0)] [] [(9999, [], [], [(0, (-2), (-1))], [], [], [])] (by decide +kernel) (ρ0 := (fun s => [x0].getD s 0)) hB eF trivial ⟨rfl, ⟨rfl, trivial⟩⟩ trivial ?_
  refine List.forall_mem_cons.mpr ⟨?_, fun _ h => absurd h List.not_mem_nil⟩
  · intro ρ τ Lc stc hx g1 g2 g3 g4 g5 g6 g7 g8
    have e0 : ρ 0 = x0 := hx 0 (by decide)
    subst e0
    match stc, g8 with
    | [], _ => exact l0 τ ρ g1 g2 g3 g4 g5 g6
set_option maxRecDepth 100000 in
theorem py_lf33 {σ : pm_S} {Q : Option Value → pm_S → Prop} (x0 x1 x2 : Int)  (hB : an_GB pm_B σ) (eF : ((-2) ≤ x0 ∧ x0 ≤ (-1)) ∧ (1 ≤ x1 ∧ x1 ≤ 3) ∧ (0 ≤ x2 ∧ x2 ≤ 15) ∧ True) (eC : (σ.1 67 0).toInt = x1 ∧ (σ.1 69 0).toInt = x2 ∧ True)
    (l0 : ∀ (τ : pm_S) (y : Nat → Int), an_GB pm_B τ → FQ [(67, 8), (67, 9), (69, 1), (70, 9999), (69, 0)] σ τ → (((-2) ≤ x0 ∧ x0 ≤ (-1)) ∧ (1 ≤ x1 ∧ x1 ≤ 3) ∧ (0 ≤ x2 ∧ x2 ≤ 15) ∧ True) → (True) → (True) → (True) → Q none τ)
    : Ok 31 126 33 [.ref 67, .int (Int32.ofInt (x0))] [] σ Q := by
  refine an_seg (B := pm_B) (F := [(67, 8), (67, 9), (69, 1), (70, 9999), (69, 0)]) (T := []) (S := [sf_ru, sf_rs]) (List.forall_mem_cons.mpr ⟨sf_ru_ok, List.forall_mem_cons.mpr ⟨sf_rs_ok, fun _ h => absurd h List.not_mem_nil⟩⟩) (k := 31) (d := 125) (cs := []) 69 33 3 [(0, (-2), (-1)), (1, 1, 3), (2, 0, 15)] [(67, (1, 0, 0), (0, 1, 0)), (69, (1, 0, 0), (0, 2, 0))] [(2, 67, 0), (0, 0, 0)] [] [(9999, [], [], [(0, (-2), (-1)), (1, 1, 3), (2, 0, 15)], [], [], [])] (by decide +kernel) (ρ0 := (fun s => [x0, x1, x2].getD s 0)) hB eF eC ⟨rfl, ⟨rfl, trivial⟩⟩ trivial ?_
  refine List.forall_mem_cons.mpr ⟨?_, fun _ h => absurd h List.not_mem_nil⟩
  · intro ρ τ Lc stc hx g1 g2 g3 g4 g5 g6 g7 g8
    have e0 : ρ 0 = x0 := hx 0 (by decide)
    have e1 : ρ 1 = x1 := hx 1 (by decide)
    have e2 : ρ 2 = x2 := hx 2 (by decide)
    subst e0
    subst e1
    subst e2
    match stc, g8 with
    | [], _ => exact l0 τ ρ g1 g2 g3 g4 g5 g6
set_option maxRecDepth 100000 in
theorem py_lf41 {σ : pm_S} {Q : Option Value → pm_S → Prop} (x0 x1 x2 : Int)  (hB : an_GB pm_B σ) (eF : ((-2) ≤ x0 ∧ x0 ≤ (-1)) ∧ (1 ≤ x1 ∧ x1 ≤ 3) ∧ (0 ≤ x2 ∧ x2 ≤ 15) ∧ True) (eC : (σ.1 67 0).toInt = x1 ∧ (σ.1 69 0).toInt = x2 ∧ True)
    (l0 : ∀ (τ : pm_S) (y : Nat → Int), an_GB pm_B τ → FQ [(67, 8), (67, 9), (69, 1), (70, 9999), (69, 0)] σ τ → (((-2) ≤ x0 ∧ x0 ≤ (-1)) ∧ (1 ≤ x1 ∧ x1 ≤ 3) ∧ (0 ≤ x2 ∧ x2 ≤ 15) ∧ True) → (True) → (True) → (True) → Q none τ)
    : Ok 31 126 41 [.ref 67, .int (Int32.ofInt (x0))] [] σ Q := by
  refine an_seg (B := pm_B) (F := [(67, 8), (67, 9), (69, 1), (70, 9999), (69, 0)]) (T := []) (S := [sf_ru, sf_rs]) (List.forall_mem_cons.mpr ⟨sf_ru_ok, List.forall_mem_cons.mpr ⟨sf_rs_ok, fun _ h => absurd h List.not_mem_nil⟩⟩) (k := 31) (d := 125) (cs := []) 36 41 3 [(0, (-2), (-1)), (1, 1, 3), (2, 0, 15)] [(67, (1, 0, 0), (0, 1, 0)), (69, (1, 0, 0), (0, 2, 0))] [(2, 67, 0), (0, 0, 0)] [] [(9999, [], [], [(0, (-2), (-1)), (1, 1, 3), (2, 0, 15)], [], [], [])] (by decide +kernel) (ρ0 := (fun s => [x0, x1, x2].getD s 0)) hB eF eC ⟨rfl, ⟨rfl, trivial⟩⟩ trivial ?_
  refine List.forall_mem_cons.mpr ⟨?_, fun _ h => absurd h List.not_mem_nil⟩
  · intro ρ τ Lc stc hx g1 g2 g3 g4 g5 g6 g7 g8
    have e0 : ρ 0 = x0 := hx 0 (by decide)
    have e1 : ρ 1 = x1 := hx 1 (by decide)
    have e2 : ρ 2 = x2 := hx 2 (by decide)
    subst e0
    subst e1
    subst e2
    match stc, g8 with
    | [], _ => exact l0 τ ρ g1 g2 g3 g4 g5 g6
set_option maxRecDepth 100000 in
theorem py_v0 {σ : pm_S} {Q : Option Value → pm_S → Prop} (x0 : Int)  (hB : an_GB pm_B σ) (eF : ((-2) ≤ x0 ∧ x0 ≤ (-1)) ∧ True)
    (l0 : ∀ (τ : pm_S) (y : Nat → Int), an_GB pm_B τ → FQ [] σ τ → (((-2) ≤ x0 ∧ x0 ≤ (-1)) ∧ True) → (True) → (True) → (True) → Ok 15 7 2 [.ref 69, .int (Int32.ofInt (x0))] [.int (Int32.ofInt (x0)), .ref 69] τ Q)
    : Ok 15 7 0 [.ref 69, .int (Int32.ofInt (x0))] [] σ Q := by
  refine an_seg (B := pm_B) (F := []) (T := []) (S := []) (fun _ h => absurd h List.not_mem_nil) (k := 15) (d := 6) (cs := [2]) 4 0 1 [(0, (-2), (-1))] [] [(2, 69, 0), (0, 0, 0)] [] [(2, [(2, 69, 0), (0, 0, 0)], [(0, 0, 0), (2, 69, 0)], [(0, (-2), (-1))], [], [], [])] (by decide +kernel) (ρ0 := (fun s => [x0].getD s 0)) hB eF trivial ⟨rfl, ⟨rfl, trivial⟩⟩ trivial ?_
  refine List.forall_mem_cons.mpr ⟨?_, fun _ h => absurd h List.not_mem_nil⟩
  · intro ρ τ Lc stc hx g1 g2 g3 g4 g5 g6 g7 g8
    have e0 : ρ 0 = x0 := hx 0 (by decide)
    subst e0
    have g7 := g7 (by decide)
    match Lc, stc, g7, g8 with
    | [v0, v1], [w0, w1], ⟨hv0, hv1, _⟩, ⟨hw0, hw1, _⟩ =>
      cases hv0
      cases hv1
      cases hw0
      cases hw1
      exact l0 τ ρ  g1 g2 g3 g4 g5 g6
set_option maxRecDepth 100000 in
theorem py_v3 {σ : pm_S} {Q : Option Value → pm_S → Prop} (x0 x1 : Int)  (hB : an_GB pm_B σ) (eF : ((-2) ≤ x0 ∧ x0 ≤ (-1)) ∧ (0 ≤ x1 ∧ x1 ≤ 15) ∧ True) (eC : (σ.1 69 0).toInt = x1 ∧ True)
    (l0 : ∀ (τ : pm_S) (y : Nat → Int), an_GB pm_B τ → FQ [(69, 0)] σ τ → (((-2) ≤ x0 ∧ x0 ≤ (-1)) ∧ (0 ≤ x1 ∧ x1 ≤ 15) ∧ True) → (True) → (True) → ((τ.1 69 0).toInt = x1 + 1 ∧ True) → Q none τ)
    : Ok 15 7 3 [.ref 69, .int (Int32.ofInt (x0))] [] σ Q := by
  refine an_seg (B := pm_B) (F := [(69, 0)]) (T := []) (S := []) (fun _ h => absurd h List.not_mem_nil) (k := 15) (d := 6) (cs := []) 9 3 2 [(0, (-2), (-1)), (1, 0, 15)] [(69, (1, 0, 0), (0, 1, 0))] [(2, 69, 0), (0, 0, 0)] [] [(9999, [], [], [(0, (-2), (-1)), (1, 0, 15)], [], [], [(69, (1, 0, 0), (0, 1, 1))])] (by decide +kernel) (ρ0 := (fun s => [x0, x1].getD s 0)) hB eF eC ⟨rfl, ⟨rfl, trivial⟩⟩ trivial ?_
  refine List.forall_mem_cons.mpr ⟨?_, fun _ h => absurd h List.not_mem_nil⟩
  · intro ρ τ Lc stc hx g1 g2 g3 g4 g5 g6 g7 g8
    have e0 : ρ 0 = x0 := hx 0 (by decide)
    have e1 : ρ 1 = x1 := hx 1 (by decide)
    subst e0
    subst e1
    match stc, g8 with
    | [], _ => exact l0 τ ρ g1 g2 g3 g4 g5 g6
