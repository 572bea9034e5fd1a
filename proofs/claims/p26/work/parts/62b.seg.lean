/-! the image's walks: segments, by program, each checked by the kernel -/
set_option maxRecDepth 100000 in
theorem sg_i1_h {σ : pm_S} {Q : Option Value → pm_S → Prop} (x0 : Int) (v1 : Value) (hv1 : v1.category = 1) (hB : an_GB pm_B σ) (eF : (0 ≤ x0 ∧ x0 ≤ 10) ∧ True)
    (l0 : ∀ (τ : pm_S) (y : Nat → Int) (v1 : Value), v1.category = 1 → an_GB pm_B τ → FQ [] σ τ → ((10 ≤ x0 ∧ x0 ≤ 10) ∧ True) → (True) → (True) → (True) → Ok 245 21 48 [.ref 93, v1, .int (Int32.ofInt (x0))] [] τ Q)
    (l1 : ∀ (τ : pm_S) (y : Nat → Int) (v1 : Value), v1.category = 1 → an_GB pm_B τ → FQ [] σ τ → ((0 ≤ x0 ∧ x0 ≤ 9) ∧ (0 ≤ y 1 ∧ y 1 ≤ 99) ∧ True) → (True) → (True) → ((τ.1 94 (x0).toNat).toInt = y 1 ∧ True) → Ok 245 21 44 [.ref 93, v1, .int (Int32.ofInt (x0))] [.int (Int32.ofInt (y 1)), .ref 93, .int (Int32.ofInt (x0)), .ref 94] τ Q)
    : Ok 245 21 33 [.ref 93, v1, .int (Int32.ofInt (x0))] [] σ Q := by
  refine an_seg (B := pm_B) (F := []) (T := [94]) (S := []) (fun _ h => absurd h List.not_mem_nil) (k := 245) (d := 20) (cs := [44, 48]) 13 33 1 [(0, 0, 10)] [] [(2, 93, 0), (5, 0, 0), (0, 0, 0)] [] [(48, [(2, 93, 0), (5, 0, 0), (0, 0, 0)], [], [(0, 10, 10)], [], [], []),
    (44, [(2, 93, 0), (5, 0, 0), (0, 0, 0)], [(0, 1, 0), (2, 93, 0), (0, 0, 0), (2, 94, 0)], [(0, 0, 9), (1, 0, 99)], [], [], [(94, (0, 0, 0), (0, 1, 0))])] (by decide +kernel) (ρ0 := (fun s => [x0].getD s 0)) hB eF trivial ⟨rfl, ⟨hv1, ⟨rfl, trivial⟩⟩⟩ trivial ?_
  refine List.forall_mem_cons.mpr ⟨?_, List.forall_mem_cons.mpr ⟨?_, fun _ h => absurd h List.not_mem_nil⟩⟩
  · intro ρ τ Lc stc hx g1 g2 g3 g4 g5 g6 g7 g8
    have e0 : ρ 0 = x0 := hx 0 (by decide)
    subst e0
    have g7 := g7 (by decide)
    match Lc, stc, g7, g8 with
    | [v0, v1, v2], [], ⟨hv0, hv1, hv2, _⟩, _ =>
      cases hv0
      cases hv2
      exact l0 τ ρ v1 hv1 g1 g2 g3 g4 g5 g6
  · intro ρ τ Lc stc hx g1 g2 g3 g4 g5 g6 g7 g8
    have e0 : ρ 0 = x0 := hx 0 (by decide)
    subst e0
    have g7 := g7 (by decide)
    match Lc, stc, g7, g8 with
    | [v0, v1, v2], [w0, w1, w2, w3], ⟨hv0, hv1, hv2, _⟩, ⟨hw0, hw1, hw2, hw3, _⟩ =>
      cases hv0
      cases hv2
      cases hw0
      cases hw1
      cases hw2
      cases hw3
      exact l1 τ ρ v1 hv1 g1 g2 g3 g4 g5 g6
set_option maxRecDepth 100000 in
theorem sg_i1_e {σ : pm_S} {Q : Option Value → pm_S → Prop} (x0 : Int) (v1 : Value) (hv1 : v1.category = 1) (hB : an_GB pm_B σ) (eF : (0 ≤ x0 ∧ x0 ≤ 9) ∧ True)
    (l0 : ∀ (τ : pm_S) (y : Nat → Int) (v1 : Value), v1.category = 1 → an_GB pm_B τ → FQ [] σ τ → ((0 ≤ x0 ∧ x0 ≤ 9) ∧ True) → (True) → (True) → (True) → Ok 245 21 33 [.ref 93, v1, .int (Int32.ofInt (x0 + 1))] [] τ Q)
    : Ok 245 21 46 [.ref 93, v1, .int (Int32.ofInt (x0))] [] σ Q := by
  refine an_seg (B := pm_B) (F := []) (T := []) (S := []) (fun _ h => absurd h List.not_mem_nil) (k := 245) (d := 20) (cs := [33]) 4 46 1 [(0, 0, 9)] [] [(2, 93, 0), (5, 0, 0), (0, 0, 0)] [] [(33, [(2, 93, 0), (5, 0, 0), (0, 0, 1)], [], [(0, 0, 9)], [], [], [])] (by decide +kernel) (ρ0 := (fun s => [x0].getD s 0)) hB eF trivial ⟨rfl, ⟨hv1, ⟨rfl, trivial⟩⟩⟩ trivial ?_
  refine List.forall_mem_cons.mpr ⟨?_, fun _ h => absurd h List.not_mem_nil⟩
  · intro ρ τ Lc stc hx g1 g2 g3 g4 g5 g6 g7 g8
    have e0 : ρ 0 = x0 := hx 0 (by decide)
    subst e0
    have g7 := g7 (by decide)
    match Lc, stc, g7, g8 with
    | [v0, v1, v2], [], ⟨hv0, hv1, hv2, _⟩, _ =>
      cases hv0
      cases hv2
      exact l0 τ ρ v1 hv1 g1 g2 g3 g4 g5 g6
set_option maxRecDepth 100000 in
theorem sg_i2_h {σ : pm_S} {Q : Option Value → pm_S → Prop} (x0 : Int) (v1 : Value) (hv1 : v1.category = 1) (hB : an_GB pm_B σ) (eF : (0 ≤ x0 ∧ x0 ≤ 100) ∧ True)
    (l0 : ∀ (τ : pm_S) (y : Nat → Int) (v1 : Value), v1.category = 1 → an_GB pm_B τ → FQ [] σ τ → ((100 ≤ x0 ∧ x0 ≤ 100) ∧ True) → (True) → (True) → (True) → Ok 245 21 65 [.ref 93, v1, .int (Int32.ofInt (x0))] [] τ Q)
    (l1 : ∀ (τ : pm_S) (y : Nat → Int) (v1 : Value), v1.category = 1 → an_GB pm_B τ → FQ [] σ τ → ((0 ≤ x0 ∧ x0 ≤ 99) ∧ ((-9) ≤ y 1 ∧ y 1 ≤ 90) ∧ True) → (True) → (True) → ((τ.1 95 (x0).toNat).toInt = y 1 ∧ True) → Ok 245 21 61 [.ref 93, v1, .int (Int32.ofInt (x0))] [.int (Int32.ofInt (y 1)), .ref 93, .int (Int32.ofInt (x0)), .ref 95] τ Q)
    : Ok 245 21 50 [.ref 93, v1, .int (Int32.ofInt (x0))] [] σ Q := by
  refine an_seg (B := pm_B) (F := []) (T := [95]) (S := []) (fun _ h => absurd h List.not_mem_nil) (k := 245) (d := 20) (cs := [61, 65]) 13 50 1 [(0, 0, 100)] [] [(2, 93, 0), (5, 0, 0), (0, 0, 0)] [] [(65, [(2, 93, 0), (5, 0, 0), (0, 0, 0)], [], [(0, 100, 100)], [], [], []),
    (61, [(2, 93, 0), (5, 0, 0), (0, 0, 0)], [(0, 1, 0), (2, 93, 0), (0, 0, 0), (2, 95, 0)], [(0, 0, 99), (1, (-9), 90)], [], [], [(95, (0, 0, 0), (0, 1, 0))])] (by decide +kernel) (ρ0 := (fun s => [x0].getD s 0)) hB eF trivial ⟨rfl, ⟨hv1, ⟨rfl, trivial⟩⟩⟩ trivial ?_
  refine List.forall_mem_cons.mpr ⟨?_, List.forall_mem_cons.mpr ⟨?_, fun _ h => absurd h List.not_mem_nil⟩⟩
  · intro ρ τ Lc stc hx g1 g2 g3 g4 g5 g6 g7 g8
    have e0 : ρ 0 = x0 := hx 0 (by decide)
    subst e0
    have g7 := g7 (by decide)
    match Lc, stc, g7, g8 with
    | [v0, v1, v2], [], ⟨hv0, hv1, hv2, _⟩, _ =>
      cases hv0
      cases hv2
      exact l0 τ ρ v1 hv1 g1 g2 g3 g4 g5 g6
  · intro ρ τ Lc stc hx g1 g2 g3 g4 g5 g6 g7 g8
    have e0 : ρ 0 = x0 := hx 0 (by decide)
    subst e0
    have g7 := g7 (by decide)
    match Lc, stc, g7, g8 with
    | [v0, v1, v2], [w0, w1, w2, w3], ⟨hv0, hv1, hv2, _⟩, ⟨hw0, hw1, hw2, hw3, _⟩ =>
      cases hv0
      cases hv2
      cases hw0
      cases hw1
      cases hw2
      cases hw3
      exact l1 τ ρ v1 hv1 g1 g2 g3 g4 g5 g6
set_option maxRecDepth 100000 in
theorem sg_i2_e {σ : pm_S} {Q : Option Value → pm_S → Prop} (x0 : Int) (v1 : Value) (hv1 : v1.category = 1) (hB : an_GB pm_B σ) (eF : (0 ≤ x0 ∧ x0 ≤ 99) ∧ True)
    (l0 : ∀ (τ : pm_S) (y : Nat → Int) (v1 : Value), v1.category = 1 → an_GB pm_B τ → FQ [] σ τ → ((0 ≤ x0 ∧ x0 ≤ 99) ∧ True) → (True) → (True) → (True) → Ok 245 21 50 [.ref 93, v1, .int (Int32.ofInt (x0 + 1))] [] τ Q)
    : Ok 245 21 63 [.ref 93, v1, .int (Int32.ofInt (x0))] [] σ Q := by
  refine an_seg (B := pm_B) (F := []) (T := []) (S := []) (fun _ h => absurd h List.not_mem_nil) (k := 245) (d := 20) (cs := [50]) 4 63 1 [(0, 0, 99)] [] [(2, 93, 0), (5, 0, 0), (0, 0, 0)] [] [(50, [(2, 93, 0), (5, 0, 0), (0, 0, 1)], [], [(0, 0, 99)], [], [], [])] (by decide +kernel) (ρ0 := (fun s => [x0].getD s 0)) hB eF trivial ⟨rfl, ⟨hv1, ⟨rfl, trivial⟩⟩⟩ trivial ?_
  refine List.forall_mem_cons.mpr ⟨?_, fun _ h => absurd h List.not_mem_nil⟩
  · intro ρ τ Lc stc hx g1 g2 g3 g4 g5 g6 g7 g8
    have e0 : ρ 0 = x0 := hx 0 (by decide)
    subst e0
    have g7 := g7 (by decide)
    match Lc, stc, g7, g8 with
    | [v0, v1, v2], [], ⟨hv0, hv1, hv2, _⟩, _ =>
      cases hv0
      cases hv2
      exact l0 τ ρ v1 hv1 g1 g2 g3 g4 g5 g6
set_option maxRecDepth 100000 in
theorem sg_i3_h {σ : pm_S} {Q : Option Value → pm_S → Prop} (x0 : Int) (v1 : Value) (hv1 : v1.category = 1) (hB : an_GB pm_B σ) (eF : (0 ≤ x0 ∧ x0 ≤ 80) ∧ True)
    (l0 : ∀ (τ : pm_S) (y : Nat → Int) (v1 : Value), v1.category = 1 → an_GB pm_B τ → FQ [] σ τ → ((80 ≤ x0 ∧ x0 ≤ 80) ∧ True) → (True) → (True) → (True) → Ok 245 21 82 [.ref 93, v1, .int (Int32.ofInt (x0))] [] τ Q)
    (l1 : ∀ (τ : pm_S) (y : Nat → Int) (v1 : Value), v1.category = 1 → an_GB pm_B τ → FQ [] σ τ → ((0 ≤ x0 ∧ x0 ≤ 79) ∧ (0 ≤ y 1 ∧ y 1 ≤ 100) ∧ True) → (True) → (True) → ((τ.1 113 (x0).toNat).toInt = y 1 ∧ True) → Ok 245 21 78 [.ref 93, v1, .int (Int32.ofInt (x0))] [.int (Int32.ofInt (y 1)), .ref 93, .int (Int32.ofInt (x0)), .ref 113] τ Q)
    : Ok 245 21 67 [.ref 93, v1, .int (Int32.ofInt (x0))] [] σ Q := by
  refine an_seg (B := pm_B) (F := []) (T := [113]) (S := []) (fun _ h => absurd h List.not_mem_nil) (k := 245) (d := 20) (cs := [78, 82]) 13 67 1 [(0, 0, 80)] [] [(2, 93, 0), (5, 0, 0), (0, 0, 0)] [] [(82, [(2, 93, 0), (5, 0, 0), (0, 0, 0)], [], [(0, 80, 80)], [], [], []),
    (78, [(2, 93, 0), (5, 0, 0), (0, 0, 0)], [(0, 1, 0), (2, 93, 0), (0, 0, 0), (2, 113, 0)], [(0, 0, 79), (1, 0, 100)], [], [], [(113, (0, 0, 0), (0, 1, 0))])] (by decide +kernel) (ρ0 := (fun s => [x0].getD s 0)) hB eF trivial ⟨rfl, ⟨hv1, ⟨rfl, trivial⟩⟩⟩ trivial ?_
  refine List.forall_mem_cons.mpr ⟨?_, List.forall_mem_cons.mpr ⟨?_, fun _ h => absurd h List.not_mem_nil⟩⟩
  · intro ρ τ Lc stc hx g1 g2 g3 g4 g5 g6 g7 g8
    have e0 : ρ 0 = x0 := hx 0 (by decide)
    subst e0
    have g7 := g7 (by decide)
    match Lc, stc, g7, g8 with
    | [v0, v1, v2], [], ⟨hv0, hv1, hv2, _⟩, _ =>
      cases hv0
      cases hv2
      exact l0 τ ρ v1 hv1 g1 g2 g3 g4 g5 g6
  · intro ρ τ Lc stc hx g1 g2 g3 g4 g5 g6 g7 g8
    have e0 : ρ 0 = x0 := hx 0 (by decide)
    subst e0
    have g7 := g7 (by decide)
    match Lc, stc, g7, g8 with
    | [v0, v1, v2], [w0, w1, w2, w3], ⟨hv0, hv1, hv2, _⟩, ⟨hw0, hw1, hw2, hw3, _⟩ =>
      cases hv0
      cases hv2
      cases hw0
      cases hw1
      cases hw2
      cases hw3
      exact l1 τ ρ v1 hv1 g1 g2 g3 g4 g5 g6
set_option maxRecDepth 100000 in
theorem sg_i3_e {σ : pm_S} {Q : Option Value → pm_S → Prop} (x0 : Int) (v1 : Value) (hv1 : v1.category = 1) (hB : an_GB pm_B σ) (eF : (0 ≤ x0 ∧ x0 ≤ 79) ∧ True)
    (l0 : ∀ (τ : pm_S) (y : Nat → Int) (v1 : Value), v1.category = 1 → an_GB pm_B τ → FQ [] σ τ → ((0 ≤ x0 ∧ x0 ≤ 79) ∧ True) → (True) → (True) → (True) → Ok 245 21 67 [.ref 93, v1, .int (Int32.ofInt (x0 + 1))] [] τ Q)
    : Ok 245 21 80 [.ref 93, v1, .int (Int32.ofInt (x0))] [] σ Q := by
  refine an_seg (B := pm_B) (F := []) (T := []) (S := []) (fun _ h => absurd h List.not_mem_nil) (k := 245) (d := 20) (cs := [67]) 4 80 1 [(0, 0, 79)] [] [(2, 93, 0), (5, 0, 0), (0, 0, 0)] [] [(67, [(2, 93, 0), (5, 0, 0), (0, 0, 1)], [], [(0, 0, 79)], [], [], [])] (by decide +kernel) (ρ0 := (fun s => [x0].getD s 0)) hB eF trivial ⟨rfl, ⟨hv1, ⟨rfl, trivial⟩⟩⟩ trivial ?_
  refine List.forall_mem_cons.mpr ⟨?_, fun _ h => absurd h List.not_mem_nil⟩
  · intro ρ τ Lc stc hx g1 g2 g3 g4 g5 g6 g7 g8
    have e0 : ρ 0 = x0 := hx 0 (by decide)
    subst e0
    have g7 := g7 (by decide)
    match Lc, stc, g7, g8 with
    | [v0, v1, v2], [], ⟨hv0, hv1, hv2, _⟩, _ =>
      cases hv0
      cases hv2
      exact l0 τ ρ v1 hv1 g1 g2 g3 g4 g5 g6
set_option maxRecDepth 100000 in
theorem sg_i4_h {σ : pm_S} {Q : Option Value → pm_S → Prop} (x0 : Int) (v1 : Value) (hv1 : v1.category = 1) (hB : an_GB pm_B σ) (eF : (0 ≤ x0 ∧ x0 ≤ 10) ∧ True)
    (l0 : ∀ (τ : pm_S) (y : Nat → Int) (v1 : Value), v1.category = 1 → an_GB pm_B τ → FQ [] σ τ → ((10 ≤ x0 ∧ x0 ≤ 10) ∧ True) → (True) → (True) → (True) → Ok 245 21 145 [.ref 93, v1, .int (Int32.ofInt (x0))] [] τ Q)
    (l1 : ∀ (τ : pm_S) (y : Nat → Int) (v1 : Value), v1.category = 1 → an_GB pm_B τ → FQ [] σ τ → ((0 ≤ x0 ∧ x0 ≤ 9) ∧ (0 ≤ y 1 ∧ y 1 ≤ 9) ∧ True) → (True) → (True) → ((τ.1 96 (x0).toNat).toInt = y 1 ∧ True) → Ok 245 21 101 [.ref 93, v1, .int (Int32.ofInt (x0))] [.int (Int32.ofInt (y 1)), .ref 93, .int (Int32.ofInt (x0)), .ref 96] τ Q)
    : Ok 245 21 90 [.ref 93, v1, .int (Int32.ofInt (x0))] [] σ Q := by
  refine an_seg (B := pm_B) (F := []) (T := [96]) (S := []) (fun _ h => absurd h List.not_mem_nil) (k := 245) (d := 20) (cs := [101, 145]) 13 90 1 [(0, 0, 10)] [] [(2, 93, 0), (5, 0, 0), (0, 0, 0)] [] [(145, [(2, 93, 0), (5, 0, 0), (0, 0, 0)], [], [(0, 10, 10)], [], [], []),
    (101, [(2, 93, 0), (5, 0, 0), (0, 0, 0)], [(0, 1, 0), (2, 93, 0), (0, 0, 0), (2, 96, 0)], [(0, 0, 9), (1, 0, 9)], [], [], [(96, (0, 0, 0), (0, 1, 0))])] (by decide +kernel) (ρ0 := (fun s => [x0].getD s 0)) hB eF trivial ⟨rfl, ⟨hv1, ⟨rfl, trivial⟩⟩⟩ trivial ?_
  refine List.forall_mem_cons.mpr ⟨?_, List.forall_mem_cons.mpr ⟨?_, fun _ h => absurd h List.not_mem_nil⟩⟩
  · intro ρ τ Lc stc hx g1 g2 g3 g4 g5 g6 g7 g8
    have e0 : ρ 0 = x0 := hx 0 (by decide)
    subst e0
    have g7 := g7 (by decide)
    match Lc, stc, g7, g8 with
    | [v0, v1, v2], [], ⟨hv0, hv1, hv2, _⟩, _ =>
      cases hv0
      cases hv2
      exact l0 τ ρ v1 hv1 g1 g2 g3 g4 g5 g6
  · intro ρ τ Lc stc hx g1 g2 g3 g4 g5 g6 g7 g8
    have e0 : ρ 0 = x0 := hx 0 (by decide)
    subst e0
    have g7 := g7 (by decide)
    match Lc, stc, g7, g8 with
    | [v0, v1, v2], [w0, w1, w2, w3], ⟨hv0, hv1, hv2, _⟩, ⟨hw0, hw1, hw2, hw3, _⟩ =>
      cases hv0
      cases hv2
      cases hw0
      cases hw1
      cases hw2
      cases hw3
      exact l1 τ ρ v1 hv1 g1 g2 g3 g4 g5 g6
set_option maxRecDepth 100000 in
theorem sg_i4_0 {σ : pm_S} {Q : Option Value → pm_S → Prop} (x0 : Int) (v1 : Value) (hv1 : v1.category = 1) (hB : an_GB pm_B σ) (eF : (0 ≤ x0 ∧ x0 ≤ 9) ∧ True)
    (l0 : ∀ (τ : pm_S) (y : Nat → Int) (v1 : Value), v1.category = 1 → an_GB pm_B τ → FQ [] σ τ → ((0 ≤ x0 ∧ x0 ≤ 9) ∧ ((-2147483648) ≤ y 1 ∧ y 1 ≤ 2147483647) ∧ True) → (True) → (True) → ((τ.1 97 (x0).toNat).toInt = y 1 ∧ True) → Ok 245 21 111 [.ref 93, v1, .int (Int32.ofInt (x0))] [.int (Int32.ofInt (y 1)), .ref 93, .int (Int32.ofInt (x0)), .ref 97] τ Q)
    : Ok 245 21 103 [.ref 93, v1, .int (Int32.ofInt (x0))] [] σ Q := by
  refine an_seg (B := pm_B) (F := []) (T := [97]) (S := []) (fun _ h => absurd h List.not_mem_nil) (k := 245) (d := 20) (cs := [111]) 10 103 1 [(0, 0, 9)] [] [(2, 93, 0), (5, 0, 0), (0, 0, 0)] [] [(111, [(2, 93, 0), (5, 0, 0), (0, 0, 0)], [(0, 1, 0), (2, 93, 0), (0, 0, 0), (2, 97, 0)], [(0, 0, 9), (1, (-2147483648), 2147483647)], [], [], [(97, (0, 0, 0), (0, 1, 0))])] (by decide +kernel) (ρ0 := (fun s => [x0].getD s 0)) hB eF trivial ⟨rfl, ⟨hv1, ⟨rfl, trivial⟩⟩⟩ trivial ?_
  refine List.forall_mem_cons.mpr ⟨?_, fun _ h => absurd h List.not_mem_nil⟩
  · intro ρ τ Lc stc hx g1 g2 g3 g4 g5 g6 g7 g8
    have e0 : ρ 0 = x0 := hx 0 (by decide)
    subst e0
    have g7 := g7 (by decide)
    match Lc, stc, g7, g8 with
    | [v0, v1, v2], [w0, w1, w2, w3], ⟨hv0, hv1, hv2, _⟩, ⟨hw0, hw1, hw2, hw3, _⟩ =>
      cases hv0
      cases hv2
      cases hw0
      cases hw1
      cases hw2
      cases hw3
      exact l0 τ ρ v1 hv1 g1 g2 g3 g4 g5 g6
set_option maxRecDepth 100000 in
theorem sg_i4_1 {σ : pm_S} {Q : Option Value → pm_S → Prop} (x0 : Int) (v1 : Value) (hv1 : v1.category = 1) (hB : an_GB pm_B σ) (eF : (0 ≤ x0 ∧ x0 ≤ 9) ∧ True)
    (l0 : ∀ (τ : pm_S) (y : Nat → Int) (v1 : Value), v1.category = 1 → an_GB pm_B τ → FQ [] σ τ → ((0 ≤ x0 ∧ x0 ≤ 9) ∧ ((-2147483648) ≤ y 1 ∧ y 1 ≤ 2147483647) ∧ True) → (True) → (True) → ((τ.1 98 (x0).toNat).toInt = y 1 ∧ True) → Ok 245 21 121 [.ref 93, v1, .int (Int32.ofInt (x0))] [.int (Int32.ofInt (y 1)), .ref 93, .int (Int32.ofInt (x0)), .ref 98] τ Q)
    : Ok 245 21 113 [.ref 93, v1, .int (Int32.ofInt (x0))] [] σ Q := by
  refine an_seg (B := pm_B) (F := []) (T := [98]) (S := []) (fun _ h => absurd h List.not_mem_nil) (k := 245) (d := 20) (cs := [121]) 10 113 1 [(0, 0, 9)] [] [(2, 93, 0), (5, 0, 0), (0, 0, 0)] [] [(121, [(2, 93, 0), (5, 0, 0), (0, 0, 0)], [(0, 1, 0), (2, 93, 0), (0, 0, 0), (2, 98, 0)], [(0, 0, 9), (1, (-2147483648), 2147483647)], [], [], [(98, (0, 0, 0), (0, 1, 0))])] (by decide +kernel) (ρ0 := (fun s => [x0].getD s 0)) hB eF trivial ⟨rfl, ⟨hv1, ⟨rfl, trivial⟩⟩⟩ trivial ?_
  refine List.forall_mem_cons.mpr ⟨?_, fun _ h => absurd h List.not_mem_nil⟩
  · intro ρ τ Lc stc hx g1 g2 g3 g4 g5 g6 g7 g8
    have e0 : ρ 0 = x0 := hx 0 (by decide)
    subst e0
    have g7 := g7 (by decide)
    match Lc, stc, g7, g8 with
    | [v0, v1, v2], [w0, w1, w2, w3], ⟨hv0, hv1, hv2, _⟩, ⟨hw0, hw1, hw2, hw3, _⟩ =>
      cases hv0
      cases hv2
      cases hw0
      cases hw1
      cases hw2
      cases hw3
      exact l0 τ ρ v1 hv1 g1 g2 g3 g4 g5 g6
set_option maxRecDepth 100000 in
theorem sg_i4_2 {σ : pm_S} {Q : Option Value → pm_S → Prop} (x0 : Int) (v1 : Value) (hv1 : v1.category = 1) (hB : an_GB pm_B σ) (eF : (0 ≤ x0 ∧ x0 ≤ 9) ∧ True)
    (l0 : ∀ (τ : pm_S) (y : Nat → Int) (v1 : Value), v1.category = 1 → an_GB pm_B τ → FQ [] σ τ → ((0 ≤ x0 ∧ x0 ≤ 9) ∧ (0 ≤ y 1 ∧ y 1 ≤ 9) ∧ True) → (True) → (True) → ((τ.1 99 (x0).toNat).toInt = y 1 ∧ True) → Ok 245 21 131 [.ref 93, v1, .int (Int32.ofInt (x0))] [.int (Int32.ofInt (y 1)), .ref 93, .int (Int32.ofInt (x0)), .ref 99] τ Q)
    : Ok 245 21 123 [.ref 93, v1, .int (Int32.ofInt (x0))] [] σ Q := by
  refine an_seg (B := pm_B) (F := []) (T := [99]) (S := []) (fun _ h => absurd h List.not_mem_nil) (k := 245) (d := 20) (cs := [131]) 10 123 1 [(0, 0, 9)] [] [(2, 93, 0), (5, 0, 0), (0, 0, 0)] [] [(131, [(2, 93, 0), (5, 0, 0), (0, 0, 0)], [(0, 1, 0), (2, 93, 0), (0, 0, 0), (2, 99, 0)], [(0, 0, 9), (1, 0, 9)], [], [], [(99, (0, 0, 0), (0, 1, 0))])] (by decide +kernel) (ρ0 := (fun s => [x0].getD s 0)) hB eF trivial ⟨rfl, ⟨hv1, ⟨rfl, trivial⟩⟩⟩ trivial ?_
  refine List.forall_mem_cons.mpr ⟨?_, fun _ h => absurd h List.not_mem_nil⟩
  · intro ρ τ Lc stc hx g1 g2 g3 g4 g5 g6 g7 g8
    have e0 : ρ 0 = x0 := hx 0 (by decide)
    subst e0
    have g7 := g7 (by decide)
    match Lc, stc, g7, g8 with
    | [v0, v1, v2], [w0, w1, w2, w3], ⟨hv0, hv1, hv2, _⟩, ⟨hw0, hw1, hw2, hw3, _⟩ =>
      cases hv0
      cases hv2
      cases hw0
      cases hw1
      cases hw2
      cases hw3
      exact l0 τ ρ v1 hv1 g1 g2 g3 g4 g5 g6
set_option maxRecDepth 100000 in
theorem sg_i4_3 {σ : pm_S} {Q : Option Value → pm_S → Prop} (x0 : Int) (v1 : Value) (hv1 : v1.category = 1) (hB : an_GB pm_B σ) (eF : (0 ≤ x0 ∧ x0 ≤ 9) ∧ True)
    (l0 : ∀ (τ : pm_S) (y : Nat → Int) (v1 : Value), v1.category = 1 → an_GB pm_B τ → FQ [] σ τ → ((0 ≤ x0 ∧ x0 ≤ 9) ∧ (0 ≤ y 1 ∧ y 1 ≤ 10) ∧ True) → (True) → (True) → ((τ.1 100 (x0).toNat).toInt = y 1 ∧ True) → Ok 245 21 141 [.ref 93, v1, .int (Int32.ofInt (x0))] [.int (Int32.ofInt (y 1)), .ref 93, .int (Int32.ofInt (x0)), .ref 100] τ Q)
    : Ok 245 21 133 [.ref 93, v1, .int (Int32.ofInt (x0))] [] σ Q := by
  refine an_seg (B := pm_B) (F := []) (T := [100]) (S := []) (fun _ h => absurd h List.not_mem_nil) (k := 245) (d := 20) (cs := [141]) 10 133 1 [(0, 0, 9)] [] [(2, 93, 0), (5, 0, 0), (0, 0, 0)] [] [(141, [(2, 93, 0), (5, 0, 0), (0, 0, 0)], [(0, 1, 0), (2, 93, 0), (0, 0, 0), (2, 100, 0)], [(0, 0, 9), (1, 0, 10)], [], [], [(100, (0, 0, 0), (0, 1, 0))])] (by decide +kernel) (ρ0 := (fun s => [x0].getD s 0)) hB eF trivial ⟨rfl, ⟨hv1, ⟨rfl, trivial⟩⟩⟩ trivial ?_
  refine List.forall_mem_cons.mpr ⟨?_, fun _ h => absurd h List.not_mem_nil⟩
  · intro ρ τ Lc stc hx g1 g2 g3 g4 g5 g6 g7 g8
    have e0 : ρ 0 = x0 := hx 0 (by decide)
    subst e0
    have g7 := g7 (by decide)
    match Lc, stc, g7, g8 with
    | [v0, v1, v2], [w0, w1, w2, w3], ⟨hv0, hv1, hv2, _⟩, ⟨hw0, hw1, hw2, hw3, _⟩ =>
      cases hv0
      cases hv2
      cases hw0
      cases hw1
      cases hw2
      cases hw3
      exact l0 τ ρ v1 hv1 g1 g2 g3 g4 g5 g6
set_option maxRecDepth 100000 in
theorem sg_i4_e {σ : pm_S} {Q : Option Value → pm_S → Prop} (x0 : Int) (v1 : Value) (hv1 : v1.category = 1) (hB : an_GB pm_B σ) (eF : (0 ≤ x0 ∧ x0 ≤ 9) ∧ True)
    (l0 : ∀ (τ : pm_S) (y : Nat → Int) (v1 : Value), v1.category = 1 → an_GB pm_B τ → FQ [] σ τ → ((0 ≤ x0 ∧ x0 ≤ 9) ∧ True) → (True) → (True) → (True) → Ok 245 21 90 [.ref 93, v1, .int (Int32.ofInt (x0 + 1))] [] τ Q)
    : Ok 245 21 143 [.ref 93, v1, .int (Int32.ofInt (x0))] [] σ Q := by
  refine an_seg (B := pm_B) (F := []) (T := []) (S := []) (fun _ h => absurd h List.not_mem_nil) (k := 245) (d := 20) (cs := [90]) 4 143 1 [(0, 0, 9)] [] [(2, 93, 0), (5, 0, 0), (0, 0, 0)] [] [(90, [(2, 93, 0), (5, 0, 0), (0, 0, 1)], [], [(0, 0, 9)], [], [], [])] (by decide +kernel) (ρ0 := (fun s => [x0].getD s 0)) hB eF trivial ⟨rfl, ⟨hv1, ⟨rfl, trivial⟩⟩⟩ trivial ?_
  refine List.forall_mem_cons.mpr ⟨?_, fun _ h => absurd h List.not_mem_nil⟩
  · intro ρ τ Lc stc hx g1 g2 g3 g4 g5 g6 g7 g8
    have e0 : ρ 0 = x0 := hx 0 (by decide)
    subst e0
    have g7 := g7 (by decide)
    match Lc, stc, g7, g8 with
    | [v0, v1, v2], [], ⟨hv0, hv1, hv2, _⟩, _ =>
      cases hv0
      cases hv2
      exact l0 τ ρ v1 hv1 g1 g2 g3 g4 g5 g6
set_option maxRecDepth 100000 in
theorem sg_i5_h {σ : pm_S} {Q : Option Value → pm_S → Prop} (x0 : Int) (v1 : Value) (hv1 : v1.category = 1) (hB : an_GB pm_B σ) (eF : (0 ≤ x0 ∧ x0 ≤ 4) ∧ True)
    (l0 : ∀ (τ : pm_S) (y : Nat → Int) (v1 : Value), v1.category = 1 → an_GB pm_B τ → FQ [] σ τ → ((4 ≤ x0 ∧ x0 ≤ 4) ∧ True) → (True) → (True) → (True) → Ok 245 21 180 [.ref 93, v1, .int (Int32.ofInt (x0))] [] τ Q)
    (l1 : ∀ (τ : pm_S) (y : Nat → Int) (v1 : Value), v1.category = 1 → an_GB pm_B τ → FQ [] σ τ → ((0 ≤ x0 ∧ x0 ≤ 3) ∧ ((-2147483648) ≤ y 1 ∧ y 1 ≤ 2147483647) ∧ True) → (True) → (True) → ((τ.1 108 (x0).toNat).toInt = y 1 ∧ True) → Ok 245 21 176 [.ref 93, v1, .int (Int32.ofInt (x0))] [.int (Int32.ofInt (y 1)), .ref 93, .int (Int32.ofInt (x0)), .ref 108] τ Q)
    : Ok 245 21 165 [.ref 93, v1, .int (Int32.ofInt (x0))] [] σ Q := by
  refine an_seg (B := pm_B) (F := []) (T := [108]) (S := []) (fun _ h => absurd h List.not_mem_nil) (k := 245) (d := 20) (cs := [176, 180]) 13 165 1 [(0, 0, 4)] [] [(2, 93, 0), (5, 0, 0), (0, 0, 0)] [] [(180, [(2, 93, 0), (5, 0, 0), (0, 0, 0)], [], [(0, 4, 4)], [], [], []),
    (176, [(2, 93, 0), (5, 0, 0), (0, 0, 0)], [(0, 1, 0), (2, 93, 0), (0, 0, 0), (2, 108, 0)], [(0, 0, 3), (1, (-2147483648), 2147483647)], [], [], [(108, (0, 0, 0), (0, 1, 0))])] (by decide +kernel) (ρ0 := (fun s => [x0].getD s 0)) hB eF trivial ⟨rfl, ⟨hv1, ⟨rfl, trivial⟩⟩⟩ trivial ?_
  refine List.forall_mem_cons.mpr ⟨?_, List.forall_mem_cons.mpr ⟨?_, fun _ h => absurd h List.not_mem_nil⟩⟩
  · intro ρ τ Lc stc hx g1 g2 g3 g4 g5 g6 g7 g8
    have e0 : ρ 0 = x0 := hx 0 (by decide)
    subst e0
    have g7 := g7 (by decide)
    match Lc, stc, g7, g8 with
    | [v0, v1, v2], [], ⟨hv0, hv1, hv2, _⟩, _ =>
      cases hv0
      cases hv2
      exact l0 τ ρ v1 hv1 g1 g2 g3 g4 g5 g6
  · intro ρ τ Lc stc hx g1 g2 g3 g4 g5 g6 g7 g8
    have e0 : ρ 0 = x0 := hx 0 (by decide)
    subst e0
    have g7 := g7 (by decide)
    match Lc, stc, g7, g8 with
    | [v0, v1, v2], [w0, w1, w2, w3], ⟨hv0, hv1, hv2, _⟩, ⟨hw0, hw1, hw2, hw3, _⟩ =>
      cases hv0
      cases hv2
      cases hw0
      cases hw1
      cases hw2
      cases hw3
      exact l1 τ ρ v1 hv1 g1 g2 g3 g4 g5 g6
set_option maxRecDepth 100000 in
theorem sg_i5_e {σ : pm_S} {Q : Option Value → pm_S → Prop} (x0 : Int) (v1 : Value) (hv1 : v1.category = 1) (hB : an_GB pm_B σ) (eF : (0 ≤ x0 ∧ x0 ≤ 3) ∧ True)
    (l0 : ∀ (τ : pm_S) (y : Nat → Int) (v1 : Value), v1.category = 1 → an_GB pm_B τ → FQ [] σ τ → ((0 ≤ x0 ∧ x0 ≤ 3) ∧ True) → (True) → (True) → (True) → Ok 245 21 165 [.ref 93, v1, .int (Int32.ofInt (x0 + 1))] [] τ Q)
    : Ok 245 21 178 [.ref 93, v1, .int (Int32.ofInt (x0))] [] σ Q := by
  refine an_seg (B := pm_B) (F := []) (T := []) (S := []) (fun _ h => absurd h List.not_mem_nil) (k := 245) (d := 20) (cs := [165]) 4 178 1 [(0, 0, 3)] [] [(2, 93, 0), (5, 0, 0), (0, 0, 0)] [] [(165, [(2, 93, 0), (5, 0, 0), (0, 0, 1)], [], [(0, 0, 3)], [], [], [])] (by decide +kernel) (ρ0 := (fun s => [x0].getD s 0)) hB eF trivial ⟨rfl, ⟨hv1, ⟨rfl, trivial⟩⟩⟩ trivial ?_
  refine List.forall_mem_cons.mpr ⟨?_, fun _ h => absurd h List.not_mem_nil⟩
  · intro ρ τ Lc stc hx g1 g2 g3 g4 g5 g6 g7 g8
    have e0 : ρ 0 = x0 := hx 0 (by decide)
    subst e0
    have g7 := g7 (by decide)
    match Lc, stc, g7, g8 with
    | [v0, v1, v2], [], ⟨hv0, hv1, hv2, _⟩, _ =>
      cases hv0
      cases hv2
      exact l0 τ ρ v1 hv1 g1 g2 g3 g4 g5 g6
set_option maxRecDepth 100000 in
theorem sg_d1_h {σ : pm_S} {Q : Option Value → pm_S → Prop} (x0 : Int)  (hB : an_GB pm_B σ) (eF : (0 ≤ x0 ∧ x0 ≤ 30) ∧ True)
    (l0 : ∀ (τ : pm_S) (y : Nat → Int), an_GB pm_B τ → FQ [] σ τ → ((30 ≤ x0 ∧ x0 ≤ 30) ∧ True) → (True) → (True) → (True) → Ok 243 11 83 [.ref 93, .int (Int32.ofInt (x0))] [] τ Q)
    (l1 : ∀ (τ : pm_S) (y : Nat → Int), an_GB pm_B τ → FQ [] σ τ → ((0 ≤ x0 ∧ x0 ≤ 29) ∧ (0 ≤ y 1 ∧ y 1 ≤ 9) ∧ True) → (True) → (True) → ((τ.1 101 (x0).toNat).toInt = y 1 ∧ True) → Ok 243 11 19 [.ref 93, .int (Int32.ofInt (x0))] [.int (Int32.ofInt (y 1)), .ref 93, .int (Int32.ofInt (x0)), .ref 101] τ Q)
    : Ok 243 11 8 [.ref 93, .int (Int32.ofInt (x0))] [] σ Q := by
  refine an_seg (B := pm_B) (F := []) (T := [101]) (S := []) (fun _ h => absurd h List.not_mem_nil) (k := 243) (d := 10) (cs := [19, 83]) 13 8 1 [(0, 0, 30)] [] [(2, 93, 0), (0, 0, 0)] [] [(83, [(2, 93, 0), (0, 0, 0)], [], [(0, 30, 30)], [], [], []),
    (19, [(2, 93, 0), (0, 0, 0)], [(0, 1, 0), (2, 93, 0), (0, 0, 0), (2, 101, 0)], [(0, 0, 29), (1, 0, 9)], [], [], [(101, (0, 0, 0), (0, 1, 0))])] (by decide +kernel) (ρ0 := (fun s => [x0].getD s 0)) hB eF trivial ⟨rfl, ⟨rfl, trivial⟩⟩ trivial ?_
  refine List.forall_mem_cons.mpr ⟨?_, List.forall_mem_cons.mpr ⟨?_, fun _ h => absurd h List.not_mem_nil⟩⟩
  · intro ρ τ Lc stc hx g1 g2 g3 g4 g5 g6 g7 g8
    have e0 : ρ 0 = x0 := hx 0 (by decide)
    subst e0
    have g7 := g7 (by decide)
    match Lc, stc, g7, g8 with
    | [v0, v1], [], ⟨hv0, hv1, _⟩, _ =>
      cases hv0
      cases hv1
      exact l0 τ ρ  g1 g2 g3 g4 g5 g6
  · intro ρ τ Lc stc hx g1 g2 g3 g4 g5 g6 g7 g8
    have e0 : ρ 0 = x0 := hx 0 (by decide)
    subst e0
    have g7 := g7 (by decide)
    match Lc, stc, g7, g8 with
    | [v0, v1], [w0, w1, w2, w3], ⟨hv0, hv1, _⟩, ⟨hw0, hw1, hw2, hw3, _⟩ =>
      cases hv0
      cases hv1
      cases hw0
      cases hw1
      cases hw2
      cases hw3
      exact l1 τ ρ  g1 g2 g3 g4 g5 g6
set_option maxRecDepth 100000 in
theorem sg_d1_0 {σ : pm_S} {Q : Option Value → pm_S → Prop} (x0 : Int)  (hB : an_GB pm_B σ) (eF : (0 ≤ x0 ∧ x0 ≤ 29) ∧ True)
    (l0 : ∀ (τ : pm_S) (y : Nat → Int), an_GB pm_B τ → FQ [] σ τ → ((0 ≤ x0 ∧ x0 ≤ 29) ∧ (0 ≤ y 1 ∧ y 1 ≤ 9) ∧ True) → (True) → (True) → ((τ.1 102 (x0).toNat).toInt = y 1 ∧ True) → Ok 243 11 29 [.ref 93, .int (Int32.ofInt (x0))] [.int (Int32.ofInt (y 1)), .ref 93, .int (Int32.ofInt (x0)), .ref 102] τ Q)
    : Ok 243 11 21 [.ref 93, .int (Int32.ofInt (x0))] [] σ Q := by
  refine an_seg (B := pm_B) (F := []) (T := [102]) (S := []) (fun _ h => absurd h List.not_mem_nil) (k := 243) (d := 10) (cs := [29]) 10 21 1 [(0, 0, 29)] [] [(2, 93, 0), (0, 0, 0)] [] [(29, [(2, 93, 0), (0, 0, 0)], [(0, 1, 0), (2, 93, 0), (0, 0, 0), (2, 102, 0)], [(0, 0, 29), (1, 0, 9)], [], [], [(102, (0, 0, 0), (0, 1, 0))])] (by decide +kernel) (ρ0 := (fun s => [x0].getD s 0)) hB eF trivial ⟨rfl, ⟨rfl, trivial⟩⟩ trivial ?_
  refine List.forall_mem_cons.mpr ⟨?_, fun _ h => absurd h List.not_mem_nil⟩
  · intro ρ τ Lc stc hx g1 g2 g3 g4 g5 g6 g7 g8
    have e0 : ρ 0 = x0 := hx 0 (by decide)
    subst e0
    have g7 := g7 (by decide)
    match Lc, stc, g7, g8 with
    | [v0, v1], [w0, w1, w2, w3], ⟨hv0, hv1, _⟩, ⟨hw0, hw1, hw2, hw3, _⟩ =>
      cases hv0
      cases hv1
      cases hw0
      cases hw1
      cases hw2
      cases hw3
      exact l0 τ ρ  g1 g2 g3 g4 g5 g6
set_option maxRecDepth 100000 in
theorem sg_d1_1 {σ : pm_S} {Q : Option Value → pm_S → Prop} (x0 : Int)  (hB : an_GB pm_B σ) (eF : (0 ≤ x0 ∧ x0 ≤ 29) ∧ True)
    (l0 : ∀ (τ : pm_S) (y : Nat → Int), an_GB pm_B τ → FQ [] σ τ → ((0 ≤ x0 ∧ x0 ≤ 29) ∧ (0 ≤ y 1 ∧ y 1 ≤ 99999) ∧ True) → (True) → (True) → ((τ.1 103 (x0).toNat).toInt = y 1 ∧ True) → Ok 243 11 39 [.ref 93, .int (Int32.ofInt (x0))] [.int (Int32.ofInt (y 1)), .ref 93, .int (Int32.ofInt (x0)), .ref 103] τ Q)
    : Ok 243 11 31 [.ref 93, .int (Int32.ofInt (x0))] [] σ Q := by
  refine an_seg (B := pm_B) (F := []) (T := [103]) (S := []) (fun _ h => absurd h List.not_mem_nil) (k := 243) (d := 10) (cs := [39]) 10 31 1 [(0, 0, 29)] [] [(2, 93, 0), (0, 0, 0)] [] [(39, [(2, 93, 0), (0, 0, 0)], [(0, 1, 0), (2, 93, 0), (0, 0, 0), (2, 103, 0)], [(0, 0, 29), (1, 0, 99999)], [], [], [(103, (0, 0, 0), (0, 1, 0))])] (by decide +kernel) (ρ0 := (fun s => [x0].getD s 0)) hB eF trivial ⟨rfl, ⟨rfl, trivial⟩⟩ trivial ?_
  refine List.forall_mem_cons.mpr ⟨?_, fun _ h => absurd h List.not_mem_nil⟩
  · intro ρ τ Lc stc hx g1 g2 g3 g4 g5 g6 g7 g8
    have e0 : ρ 0 = x0 := hx 0 (by decide)
    subst e0
    have g7 := g7 (by decide)
    match Lc, stc, g7, g8 with
    | [v0, v1], [w0, w1, w2, w3], ⟨hv0, hv1, _⟩, ⟨hw0, hw1, hw2, hw3, _⟩ =>
      cases hv0
      cases hv1
      cases hw0
      cases hw1
      cases hw2
      cases hw3
      exact l0 τ ρ  g1 g2 g3 g4 g5 g6
set_option maxRecDepth 100000 in
theorem sg_d1_2 {σ : pm_S} {Q : Option Value → pm_S → Prop} (x0 : Int)  (hB : an_GB pm_B σ) (eF : (0 ≤ x0 ∧ x0 ≤ 29) ∧ True)
    (l0 : ∀ (τ : pm_S) (y : Nat → Int), an_GB pm_B τ → FQ [] σ τ → ((0 ≤ x0 ∧ x0 ≤ 29) ∧ (0 ≤ y 1 ∧ y 1 ≤ 9) ∧ True) → (True) → (True) → ((τ.1 104 (x0).toNat).toInt = y 1 ∧ True) → Ok 243 11 49 [.ref 93, .int (Int32.ofInt (x0))] [.int (Int32.ofInt (y 1)), .ref 93, .int (Int32.ofInt (x0)), .ref 104] τ Q)
    : Ok 243 11 41 [.ref 93, .int (Int32.ofInt (x0))] [] σ Q := by
  refine an_seg (B := pm_B) (F := []) (T := [104]) (S := []) (fun _ h => absurd h List.not_mem_nil) (k := 243) (d := 10) (cs := [49]) 10 41 1 [(0, 0, 29)] [] [(2, 93, 0), (0, 0, 0)] [] [(49, [(2, 93, 0), (0, 0, 0)], [(0, 1, 0), (2, 93, 0), (0, 0, 0), (2, 104, 0)], [(0, 0, 29), (1, 0, 9)], [], [], [(104, (0, 0, 0), (0, 1, 0))])] (by decide +kernel) (ρ0 := (fun s => [x0].getD s 0)) hB eF trivial ⟨rfl, ⟨rfl, trivial⟩⟩ trivial ?_
  refine List.forall_mem_cons.mpr ⟨?_, fun _ h => absurd h List.not_mem_nil⟩
  · intro ρ τ Lc stc hx g1 g2 g3 g4 g5 g6 g7 g8
    have e0 : ρ 0 = x0 := hx 0 (by decide)
    subst e0
    have g7 := g7 (by decide)
    match Lc, stc, g7, g8 with
    | [v0, v1], [w0, w1, w2, w3], ⟨hv0, hv1, _⟩, ⟨hw0, hw1, hw2, hw3, _⟩ =>
      cases hv0
      cases hv1
      cases hw0
      cases hw1
      cases hw2
      cases hw3
      exact l0 τ ρ  g1 g2 g3 g4 g5 g6
set_option maxRecDepth 100000 in
theorem sg_d1_3 {σ : pm_S} {Q : Option Value → pm_S → Prop} (x0 : Int)  (hB : an_GB pm_B σ) (eF : (0 ≤ x0 ∧ x0 ≤ 29) ∧ True)
    (l0 : ∀ (τ : pm_S) (y : Nat → Int), an_GB pm_B τ → FQ [] σ τ → ((0 ≤ x0 ∧ x0 ≤ 29) ∧ ((-2147483648) ≤ y 1 ∧ y 1 ≤ 2147483647) ∧ True) → (True) → (True) → ((τ.1 105 (x0).toNat).toInt = y 1 ∧ True) → Ok 243 11 59 [.ref 93, .int (Int32.ofInt (x0))] [.int (Int32.ofInt (y 1)), .ref 93, .int (Int32.ofInt (x0)), .ref 105] τ Q)
    : Ok 243 11 51 [.ref 93, .int (Int32.ofInt (x0))] [] σ Q := by
  refine an_seg (B := pm_B) (F := []) (T := [105]) (S := []) (fun _ h => absurd h List.not_mem_nil) (k := 243) (d := 10) (cs := [59]) 10 51 1 [(0, 0, 29)] [] [(2, 93, 0), (0, 0, 0)] [] [(59, [(2, 93, 0), (0, 0, 0)], [(0, 1, 0), (2, 93, 0), (0, 0, 0), (2, 105, 0)], [(0, 0, 29), (1, (-2147483648), 2147483647)], [], [], [(105, (0, 0, 0), (0, 1, 0))])] (by decide +kernel) (ρ0 := (fun s => [x0].getD s 0)) hB eF trivial ⟨rfl, ⟨rfl, trivial⟩⟩ trivial ?_
  refine List.forall_mem_cons.mpr ⟨?_, fun _ h => absurd h List.not_mem_nil⟩
  · intro ρ τ Lc stc hx g1 g2 g3 g4 g5 g6 g7 g8
    have e0 : ρ 0 = x0 := hx 0 (by decide)
    subst e0
    have g7 := g7 (by decide)
    match Lc, stc, g7, g8 with
    | [v0, v1], [w0, w1, w2, w3], ⟨hv0, hv1, _⟩, ⟨hw0, hw1, hw2, hw3, _⟩ =>
      cases hv0
      cases hv1
      cases hw0
      cases hw1
      cases hw2
      cases hw3
      exact l0 τ ρ  g1 g2 g3 g4 g5 g6
set_option maxRecDepth 100000 in
theorem sg_d1_4 {σ : pm_S} {Q : Option Value → pm_S → Prop} (x0 : Int)  (hB : an_GB pm_B σ) (eF : (0 ≤ x0 ∧ x0 ≤ 29) ∧ True)
    (l0 : ∀ (τ : pm_S) (y : Nat → Int), an_GB pm_B τ → FQ [] σ τ → ((0 ≤ x0 ∧ x0 ≤ 29) ∧ ((-2147483648) ≤ y 1 ∧ y 1 ≤ 2147483647) ∧ True) → (True) → (True) → ((τ.1 106 (x0).toNat).toInt = y 1 ∧ True) → Ok 243 11 69 [.ref 93, .int (Int32.ofInt (x0))] [.int (Int32.ofInt (y 1)), .ref 93, .int (Int32.ofInt (x0)), .ref 106] τ Q)
    : Ok 243 11 61 [.ref 93, .int (Int32.ofInt (x0))] [] σ Q := by
  refine an_seg (B := pm_B) (F := []) (T := [106]) (S := []) (fun _ h => absurd h List.not_mem_nil) (k := 243) (d := 10) (cs := [69]) 10 61 1 [(0, 0, 29)] [] [(2, 93, 0), (0, 0, 0)] [] [(69, [(2, 93, 0), (0, 0, 0)], [(0, 1, 0), (2, 93, 0), (0, 0, 0), (2, 106, 0)], [(0, 0, 29), (1, (-2147483648), 2147483647)], [], [], [(106, (0, 0, 0), (0, 1, 0))])] (by decide +kernel) (ρ0 := (fun s => [x0].getD s 0)) hB eF trivial ⟨rfl, ⟨rfl, trivial⟩⟩ trivial ?_
  refine List.forall_mem_cons.mpr ⟨?_, fun _ h => absurd h List.not_mem_nil⟩
  · intro ρ τ Lc stc hx g1 g2 g3 g4 g5 g6 g7 g8
    have e0 : ρ 0 = x0 := hx 0 (by decide)
    subst e0
    have g7 := g7 (by decide)
    match Lc, stc, g7, g8 with
    | [v0, v1], [w0, w1, w2, w3], ⟨hv0, hv1, _⟩, ⟨hw0, hw1, hw2, hw3, _⟩ =>
      cases hv0
      cases hv1
      cases hw0
      cases hw1
      cases hw2
      cases hw3
      exact l0 τ ρ  g1 g2 g3 g4 g5 g6
set_option maxRecDepth 100000 in
theorem sg_d1_5 {σ : pm_S} {Q : Option Value → pm_S → Prop} (x0 : Int)  (hB : an_GB pm_B σ) (eF : (0 ≤ x0 ∧ x0 ≤ 29) ∧ True)
    (l0 : ∀ (τ : pm_S) (y : Nat → Int), an_GB pm_B τ → FQ [] σ τ → ((0 ≤ x0 ∧ x0 ≤ 29) ∧ ((-2147483648) ≤ y 1 ∧ y 1 ≤ 2147483647) ∧ True) → (True) → (True) → ((τ.1 107 (x0).toNat).toInt = y 1 ∧ True) → Ok 243 11 79 [.ref 93, .int (Int32.ofInt (x0))] [.int (Int32.ofInt (y 1)), .ref 93, .int (Int32.ofInt (x0)), .ref 107] τ Q)
    : Ok 243 11 71 [.ref 93, .int (Int32.ofInt (x0))] [] σ Q := by
  refine an_seg (B := pm_B) (F := []) (T := [107]) (S := []) (fun _ h => absurd h List.not_mem_nil) (k := 243) (d := 10) (cs := [79]) 10 71 1 [(0, 0, 29)] [] [(2, 93, 0), (0, 0, 0)] [] [(79, [(2, 93, 0), (0, 0, 0)], [(0, 1, 0), (2, 93, 0), (0, 0, 0), (2, 107, 0)], [(0, 0, 29), (1, (-2147483648), 2147483647)], [], [], [(107, (0, 0, 0), (0, 1, 0))])] (by decide +kernel) (ρ0 := (fun s => [x0].getD s 0)) hB eF trivial ⟨rfl, ⟨rfl, trivial⟩⟩ trivial ?_
  refine List.forall_mem_cons.mpr ⟨?_, fun _ h => absurd h List.not_mem_nil⟩
  · intro ρ τ Lc stc hx g1 g2 g3 g4 g5 g6 g7 g8
    have e0 : ρ 0 = x0 := hx 0 (by decide)
    subst e0
    have g7 := g7 (by decide)
    match Lc, stc, g7, g8 with
    | [v0, v1], [w0, w1, w2, w3], ⟨hv0, hv1, _⟩, ⟨hw0, hw1, hw2, hw3, _⟩ =>
      cases hv0
      cases hv1
      cases hw0
      cases hw1
      cases hw2
      cases hw3
      exact l0 τ ρ  g1 g2 g3 g4 g5 g6
set_option maxRecDepth 100000 in
theorem sg_d1_e {σ : pm_S} {Q : Option Value → pm_S → Prop} (x0 : Int)  (hB : an_GB pm_B σ) (eF : (0 ≤ x0 ∧ x0 ≤ 29) ∧ True)
    (l0 : ∀ (τ : pm_S) (y : Nat → Int), an_GB pm_B τ → FQ [] σ τ → ((0 ≤ x0 ∧ x0 ≤ 29) ∧ True) → (True) → (True) → (True) → Ok 243 11 8 [.ref 93, .int (Int32.ofInt (x0 + 1))] [] τ Q)
    : Ok 243 11 81 [.ref 93, .int (Int32.ofInt (x0))] [] σ Q := by
  refine an_seg (B := pm_B) (F := []) (T := []) (S := []) (fun _ h => absurd h List.not_mem_nil) (k := 243) (d := 10) (cs := [8]) 4 81 1 [(0, 0, 29)] [] [(2, 93, 0), (0, 0, 0)] [] [(8, [(2, 93, 0), (0, 0, 1)], [], [(0, 0, 29)], [], [], [])] (by decide +kernel) (ρ0 := (fun s => [x0].getD s 0)) hB eF trivial ⟨rfl, ⟨rfl, trivial⟩⟩ trivial ?_
  refine List.forall_mem_cons.mpr ⟨?_, fun _ h => absurd h List.not_mem_nil⟩
  · intro ρ τ Lc stc hx g1 g2 g3 g4 g5 g6 g7 g8
    have e0 : ρ 0 = x0 := hx 0 (by decide)
    subst e0
    have g7 := g7 (by decide)
    match Lc, stc, g7, g8 with
    | [v0, v1], [], ⟨hv0, hv1, _⟩, _ =>
      cases hv0
      cases hv1
      exact l0 τ ρ  g1 g2 g3 g4 g5 g6
set_option maxRecDepth 100000 in
theorem sg_d2_h {σ : pm_S} {Q : Option Value → pm_S → Prop} (x0 : Int)  (hB : an_GB pm_B σ) (eF : (0 ≤ x0 ∧ x0 ≤ 30) ∧ True)
    (l0 : ∀ (τ : pm_S) (y : Nat → Int), an_GB pm_B τ → FQ [] σ τ → ((30 ≤ x0 ∧ x0 ≤ 30) ∧ True) → (True) → (True) → (True) → Ok 243 11 136 [.ref 93, .int (Int32.ofInt (x0))] [] τ Q)
    (l1 : ∀ (τ : pm_S) (y : Nat → Int), an_GB pm_B τ → FQ [] σ τ → ((0 ≤ x0 ∧ x0 ≤ 29) ∧ ((-2147483648) ≤ y 1 ∧ y 1 ≤ 2147483647) ∧ True) → (True) → (True) → ((τ.1 109 (x0).toNat).toInt = y 1 ∧ True) → Ok 243 11 102 [.ref 93, .int (Int32.ofInt (x0))] [.int (Int32.ofInt (y 1)), .ref 93, .int (Int32.ofInt (x0)), .ref 109] τ Q)
    : Ok 243 11 91 [.ref 93, .int (Int32.ofInt (x0))] [] σ Q := by
  refine an_seg (B := pm_B) (F := []) (T := [109]) (S := []) (fun _ h => absurd h List.not_mem_nil) (k := 243) (d := 10) (cs := [102, 136]) 13 91 1 [(0, 0, 30)] [] [(2, 93, 0), (0, 0, 0)] [] [(136, [(2, 93, 0), (0, 0, 0)], [], [(0, 30, 30)], [], [], []),
    (102, [(2, 93, 0), (0, 0, 0)], [(0, 1, 0), (2, 93, 0), (0, 0, 0), (2, 109, 0)], [(0, 0, 29), (1, (-2147483648), 2147483647)], [], [], [(109, (0, 0, 0), (0, 1, 0))])] (by decide +kernel) (ρ0 := (fun s => [x0].getD s 0)) hB eF trivial ⟨rfl, ⟨rfl, trivial⟩⟩ trivial ?_
  refine List.forall_mem_cons.mpr ⟨?_, List.forall_mem_cons.mpr ⟨?_, fun _ h => absurd h List.not_mem_nil⟩⟩
  · intro ρ τ Lc stc hx g1 g2 g3 g4 g5 g6 g7 g8
    have e0 : ρ 0 = x0 := hx 0 (by decide)
    subst e0
    have g7 := g7 (by decide)
    match Lc, stc, g7, g8 with
    | [v0, v1], [], ⟨hv0, hv1, _⟩, _ =>
      cases hv0
      cases hv1
      exact l0 τ ρ  g1 g2 g3 g4 g5 g6
  · intro ρ τ Lc stc hx g1 g2 g3 g4 g5 g6 g7 g8
    have e0 : ρ 0 = x0 := hx 0 (by decide)
    subst e0
    have g7 := g7 (by decide)
    match Lc, stc, g7, g8 with
    | [v0, v1], [w0, w1, w2, w3], ⟨hv0, hv1, _⟩, ⟨hw0, hw1, hw2, hw3, _⟩ =>
      cases hv0
      cases hv1
      cases hw0
      cases hw1
      cases hw2
      cases hw3
      exact l1 τ ρ  g1 g2 g3 g4 g5 g6
set_option maxRecDepth 100000 in
theorem sg_d2_0 {σ : pm_S} {Q : Option Value → pm_S → Prop} (x0 : Int)  (hB : an_GB pm_B σ) (eF : (0 ≤ x0 ∧ x0 ≤ 29) ∧ True)
    (l0 : ∀ (τ : pm_S) (y : Nat → Int), an_GB pm_B τ → FQ [] σ τ → ((0 ≤ x0 ∧ x0 ≤ 29) ∧ (0 ≤ y 1 ∧ y 1 ≤ 9) ∧ True) → (True) → (True) → ((τ.1 110 (x0).toNat).toInt = y 1 ∧ True) → Ok 243 11 112 [.ref 93, .int (Int32.ofInt (x0))] [.int (Int32.ofInt (y 1)), .ref 93, .int (Int32.ofInt (x0)), .ref 110] τ Q)
    : Ok 243 11 104 [.ref 93, .int (Int32.ofInt (x0))] [] σ Q := by
  refine an_seg (B := pm_B) (F := []) (T := [110]) (S := []) (fun _ h => absurd h List.not_mem_nil) (k := 243) (d := 10) (cs := [112]) 10 104 1 [(0, 0, 29)] [] [(2, 93, 0), (0, 0, 0)] [] [(112, [(2, 93, 0), (0, 0, 0)], [(0, 1, 0), (2, 93, 0), (0, 0, 0), (2, 110, 0)], [(0, 0, 29), (1, 0, 9)], [], [], [(110, (0, 0, 0), (0, 1, 0))])] (by decide +kernel) (ρ0 := (fun s => [x0].getD s 0)) hB eF trivial ⟨rfl, ⟨rfl, trivial⟩⟩ trivial ?_
  refine List.forall_mem_cons.mpr ⟨?_, fun _ h => absurd h List.not_mem_nil⟩
  · intro ρ τ Lc stc hx g1 g2 g3 g4 g5 g6 g7 g8
    have e0 : ρ 0 = x0 := hx 0 (by decide)
    subst e0
    have g7 := g7 (by decide)
    match Lc, stc, g7, g8 with
    | [v0, v1], [w0, w1, w2, w3], ⟨hv0, hv1, _⟩, ⟨hw0, hw1, hw2, hw3, _⟩ =>
      cases hv0
      cases hv1
      cases hw0
      cases hw1
      cases hw2
      cases hw3
      exact l0 τ ρ  g1 g2 g3 g4 g5 g6
set_option maxRecDepth 100000 in
theorem sg_d2_1 {σ : pm_S} {Q : Option Value → pm_S → Prop} (x0 : Int)  (hB : an_GB pm_B σ) (eF : (0 ≤ x0 ∧ x0 ≤ 29) ∧ True)
    (l0 : ∀ (τ : pm_S) (y : Nat → Int), an_GB pm_B τ → FQ [] σ τ → ((0 ≤ x0 ∧ x0 ≤ 29) ∧ ((-1) ≤ y 1 ∧ y 1 ≤ 9) ∧ True) → (True) → (True) → ((τ.1 111 (x0).toNat).toInt = y 1 ∧ True) → Ok 243 11 122 [.ref 93, .int (Int32.ofInt (x0))] [.int (Int32.ofInt (y 1)), .ref 93, .int (Int32.ofInt (x0)), .ref 111] τ Q)
    : Ok 243 11 114 [.ref 93, .int (Int32.ofInt (x0))] [] σ Q := by
  refine an_seg (B := pm_B) (F := []) (T := [111]) (S := []) (fun _ h => absurd h List.not_mem_nil) (k := 243) (d := 10) (cs := [122]) 10 114 1 [(0, 0, 29)] [] [(2, 93, 0), (0, 0, 0)] [] [(122, [(2, 93, 0), (0, 0, 0)], [(0, 1, 0), (2, 93, 0), (0, 0, 0), (2, 111, 0)], [(0, 0, 29), (1, (-1), 9)], [], [], [(111, (0, 0, 0), (0, 1, 0))])] (by decide +kernel) (ρ0 := (fun s => [x0].getD s 0)) hB eF trivial ⟨rfl, ⟨rfl, trivial⟩⟩ trivial ?_
  refine List.forall_mem_cons.mpr ⟨?_, fun _ h => absurd h List.not_mem_nil⟩
  · intro ρ τ Lc stc hx g1 g2 g3 g4 g5 g6 g7 g8
    have e0 : ρ 0 = x0 := hx 0 (by decide)
    subst e0
    have g7 := g7 (by decide)
    match Lc, stc, g7, g8 with
    | [v0, v1], [w0, w1, w2, w3], ⟨hv0, hv1, _⟩, ⟨hw0, hw1, hw2, hw3, _⟩ =>
      cases hv0
      cases hv1
      cases hw0
      cases hw1
      cases hw2
      cases hw3
      exact l0 τ ρ  g1 g2 g3 g4 g5 g6
set_option maxRecDepth 100000 in
theorem sg_d2_2 {σ : pm_S} {Q : Option Value → pm_S → Prop} (x0 : Int)  (hB : an_GB pm_B σ) (eF : (0 ≤ x0 ∧ x0 ≤ 29) ∧ True)
    (l0 : ∀ (τ : pm_S) (y : Nat → Int), an_GB pm_B τ → FQ [] σ τ → ((0 ≤ x0 ∧ x0 ≤ 29) ∧ ((-1) ≤ y 1 ∧ y 1 ≤ 9) ∧ True) → (True) → (True) → ((τ.1 112 (x0).toNat).toInt = y 1 ∧ True) → Ok 243 11 132 [.ref 93, .int (Int32.ofInt (x0))] [.int (Int32.ofInt (y 1)), .ref 93, .int (Int32.ofInt (x0)), .ref 112] τ Q)
    : Ok 243 11 124 [.ref 93, .int (Int32.ofInt (x0))] [] σ Q := by
  refine an_seg (B := pm_B) (F := []) (T := [112]) (S := []) (fun _ h => absurd h List.not_mem_nil) (k := 243) (d := 10) (cs := [132]) 10 124 1 [(0, 0, 29)] [] [(2, 93, 0), (0, 0, 0)] [] [(132, [(2, 93, 0), (0, 0, 0)], [(0, 1, 0), (2, 93, 0), (0, 0, 0), (2, 112, 0)], [(0, 0, 29), (1, (-1), 9)], [], [], [(112, (0, 0, 0), (0, 1, 0))])] (by decide +kernel) (ρ0 := (fun s => [x0].getD s 0)) hB eF trivial ⟨rfl, ⟨rfl, trivial⟩⟩ trivial ?_
  refine List.forall_mem_cons.mpr ⟨?_, fun _ h => absurd h List.not_mem_nil⟩
  · intro ρ τ Lc stc hx g1 g2 g3 g4 g5 g6 g7 g8
    have e0 : ρ 0 = x0 := hx 0 (by decide)
    subst e0
    have g7 := g7 (by decide)
    match Lc, stc, g7, g8 with
    | [v0, v1], [w0, w1, w2, w3], ⟨hv0, hv1, _⟩, ⟨hw0, hw1, hw2, hw3, _⟩ =>
      cases hv0
      cases hv1
      cases hw0
      cases hw1
      cases hw2
      cases hw3
      exact l0 τ ρ  g1 g2 g3 g4 g5 g6
set_option maxRecDepth 100000 in
theorem sg_d2_e {σ : pm_S} {Q : Option Value → pm_S → Prop} (x0 : Int)  (hB : an_GB pm_B σ) (eF : (0 ≤ x0 ∧ x0 ≤ 29) ∧ True)
    (l0 : ∀ (τ : pm_S) (y : Nat → Int), an_GB pm_B τ → FQ [] σ τ → ((0 ≤ x0 ∧ x0 ≤ 29) ∧ True) → (True) → (True) → (True) → Ok 243 11 91 [.ref 93, .int (Int32.ofInt (x0 + 1))] [] τ Q)
    : Ok 243 11 134 [.ref 93, .int (Int32.ofInt (x0))] [] σ Q := by
  refine an_seg (B := pm_B) (F := []) (T := []) (S := []) (fun _ h => absurd h List.not_mem_nil) (k := 243) (d := 10) (cs := [91]) 4 134 1 [(0, 0, 29)] [] [(2, 93, 0), (0, 0, 0)] [] [(91, [(2, 93, 0), (0, 0, 1)], [], [(0, 0, 29)], [], [], [])] (by decide +kernel) (ρ0 := (fun s => [x0].getD s 0)) hB eF trivial ⟨rfl, ⟨rfl, trivial⟩⟩ trivial ?_
  refine List.forall_mem_cons.mpr ⟨?_, fun _ h => absurd h List.not_mem_nil⟩
  · intro ρ τ Lc stc hx g1 g2 g3 g4 g5 g6 g7 g8
    have e0 : ρ 0 = x0 := hx 0 (by decide)
    subst e0
    have g7 := g7 (by decide)
    match Lc, stc, g7, g8 with
    | [v0, v1], [], ⟨hv0, hv1, _⟩, _ =>
      cases hv0
      cases hv1
      exact l0 τ ρ  g1 g2 g3 g4 g5 g6
set_option maxRecDepth 100000 in
theorem sg_w1_h {σ : pm_S} {Q : Option Value → pm_S → Prop} (x0 : Int)  (hB : an_GB pm_B σ) (eF : (0 ≤ x0 ∧ x0 ≤ 16) ∧ True)
    (l0 : ∀ (τ : pm_S) (y : Nat → Int), an_GB pm_B τ → FQ [] σ τ → ((16 ≤ x0 ∧ x0 ≤ 16) ∧ True) → (True) → (True) → (True) → Ok 244 11 43 [.ref 93, .int (Int32.ofInt (x0))] [] τ Q)
    (l1 : ∀ (τ : pm_S) (y : Nat → Int), an_GB pm_B τ → FQ [] σ τ → ((0 ≤ x0 ∧ x0 ≤ 15) ∧ ((-2147483648) ≤ y 1 ∧ y 1 ≤ 2147483647) ∧ True) → (True) → (True) → ((τ.1 116 (x0).toNat).toInt = y 1 ∧ True) → Ok 244 11 19 [.ref 93, .int (Int32.ofInt (x0))] [.int (Int32.ofInt (y 1)), .ref 93, .int (Int32.ofInt (x0)), .ref 116] τ Q)
    : Ok 244 11 8 [.ref 93, .int (Int32.ofInt (x0))] [] σ Q := by
  refine an_seg (B := pm_B) (F := []) (T := [116]) (S := []) (fun _ h => absurd h List.not_mem_nil) (k := 244) (d := 10) (cs := [19, 43]) 13 8 1 [(0, 0, 16)] [] [(2, 93, 0), (0, 0, 0)] [] [(43, [(2, 93, 0), (0, 0, 0)], [], [(0, 16, 16)], [], [], []),
    (19, [(2, 93, 0), (0, 0, 0)], [(0, 1, 0), (2, 93, 0), (0, 0, 0), (2, 116, 0)], [(0, 0, 15), (1, (-2147483648), 2147483647)], [], [], [(116, (0, 0, 0), (0, 1, 0))])] (by decide +kernel) (ρ0 := (fun s => [x0].getD s 0)) hB eF trivial ⟨rfl, ⟨rfl, trivial⟩⟩ trivial ?_
  refine List.forall_mem_cons.mpr ⟨?_, List.forall_mem_cons.mpr ⟨?_, fun _ h => absurd h List.not_mem_nil⟩⟩
  · intro ρ τ Lc stc hx g1 g2 g3 g4 g5 g6 g7 g8
    have e0 : ρ 0 = x0 := hx 0 (by decide)
    subst e0
    have g7 := g7 (by decide)
    match Lc, stc, g7, g8 with
    | [v0, v1], [], ⟨hv0, hv1, _⟩, _ =>
      cases hv0
      cases hv1
      exact l0 τ ρ  g1 g2 g3 g4 g5 g6
  · intro ρ τ Lc stc hx g1 g2 g3 g4 g5 g6 g7 g8
    have e0 : ρ 0 = x0 := hx 0 (by decide)
    subst e0
    have g7 := g7 (by decide)
    match Lc, stc, g7, g8 with
    | [v0, v1], [w0, w1, w2, w3], ⟨hv0, hv1, _⟩, ⟨hw0, hw1, hw2, hw3, _⟩ =>
      cases hv0
      cases hv1
      cases hw0
      cases hw1
      cases hw2
      cases hw3
      exact l1 τ ρ  g1 g2 g3 g4 g5 g6
set_option maxRecDepth 100000 in
theorem sg_w1_0 {σ : pm_S} {Q : Option Value → pm_S → Prop} (x0 : Int)  (hB : an_GB pm_B σ) (eF : (0 ≤ x0 ∧ x0 ≤ 15) ∧ True)
    (l0 : ∀ (τ : pm_S) (y : Nat → Int), an_GB pm_B τ → FQ [] σ τ → ((0 ≤ x0 ∧ x0 ≤ 15) ∧ (0 ≤ y 1 ∧ y 1 ≤ 400) ∧ True) → (True) → (True) → ((τ.1 117 (x0).toNat).toInt = y 1 ∧ True) → Ok 244 11 29 [.ref 93, .int (Int32.ofInt (x0))] [.int (Int32.ofInt (y 1)), .ref 93, .int (Int32.ofInt (x0)), .ref 117] τ Q)
    : Ok 244 11 21 [.ref 93, .int (Int32.ofInt (x0))] [] σ Q := by
  refine an_seg (B := pm_B) (F := []) (T := [117]) (S := []) (fun _ h => absurd h List.not_mem_nil) (k := 244) (d := 10) (cs := [29]) 10 21 1 [(0, 0, 15)] [] [(2, 93, 0), (0, 0, 0)] [] [(29, [(2, 93, 0), (0, 0, 0)], [(0, 1, 0), (2, 93, 0), (0, 0, 0), (2, 117, 0)], [(0, 0, 15), (1, 0, 400)], [], [], [(117, (0, 0, 0), (0, 1, 0))])] (by decide +kernel) (ρ0 := (fun s => [x0].getD s 0)) hB eF trivial ⟨rfl, ⟨rfl, trivial⟩⟩ trivial ?_
  refine List.forall_mem_cons.mpr ⟨?_, fun _ h => absurd h List.not_mem_nil⟩
  · intro ρ τ Lc stc hx g1 g2 g3 g4 g5 g6 g7 g8
    have e0 : ρ 0 = x0 := hx 0 (by decide)
    subst e0
    have g7 := g7 (by decide)
    match Lc, stc, g7, g8 with
    | [v0, v1], [w0, w1, w2, w3], ⟨hv0, hv1, _⟩, ⟨hw0, hw1, hw2, hw3, _⟩ =>
      cases hv0
      cases hv1
      cases hw0
      cases hw1
      cases hw2
      cases hw3
      exact l0 τ ρ  g1 g2 g3 g4 g5 g6
set_option maxRecDepth 100000 in
theorem sg_w1_1 {σ : pm_S} {Q : Option Value → pm_S → Prop} (x0 : Int)  (hB : an_GB pm_B σ) (eF : (0 ≤ x0 ∧ x0 ≤ 15) ∧ True)
    (l0 : ∀ (τ : pm_S) (y : Nat → Int), an_GB pm_B τ → FQ [] σ τ → ((0 ≤ x0 ∧ x0 ≤ 15) ∧ (0 ≤ y 1 ∧ y 1 ≤ 400) ∧ True) → (True) → (True) → ((τ.1 118 (x0).toNat).toInt = y 1 ∧ True) → Ok 244 11 39 [.ref 93, .int (Int32.ofInt (x0))] [.int (Int32.ofInt (y 1)), .ref 93, .int (Int32.ofInt (x0)), .ref 118] τ Q)
    : Ok 244 11 31 [.ref 93, .int (Int32.ofInt (x0))] [] σ Q := by
  refine an_seg (B := pm_B) (F := []) (T := [118]) (S := []) (fun _ h => absurd h List.not_mem_nil) (k := 244) (d := 10) (cs := [39]) 10 31 1 [(0, 0, 15)] [] [(2, 93, 0), (0, 0, 0)] [] [(39, [(2, 93, 0), (0, 0, 0)], [(0, 1, 0), (2, 93, 0), (0, 0, 0), (2, 118, 0)], [(0, 0, 15), (1, 0, 400)], [], [], [(118, (0, 0, 0), (0, 1, 0))])] (by decide +kernel) (ρ0 := (fun s => [x0].getD s 0)) hB eF trivial ⟨rfl, ⟨rfl, trivial⟩⟩ trivial ?_
  refine List.forall_mem_cons.mpr ⟨?_, fun _ h => absurd h List.not_mem_nil⟩
  · intro ρ τ Lc stc hx g1 g2 g3 g4 g5 g6 g7 g8
    have e0 : ρ 0 = x0 := hx 0 (by decide)
    subst e0
    have g7 := g7 (by decide)
    match Lc, stc, g7, g8 with
    | [v0, v1], [w0, w1, w2, w3], ⟨hv0, hv1, _⟩, ⟨hw0, hw1, hw2, hw3, _⟩ =>
      cases hv0
      cases hv1
      cases hw0
      cases hw1
      cases hw2
      cases hw3
      exact l0 τ ρ  g1 g2 g3 g4 g5 g6
set_option maxRecDepth 100000 in
theorem sg_w1_e {σ : pm_S} {Q : Option Value → pm_S → Prop} (x0 : Int)  (hB : an_GB pm_B σ) (eF : (0 ≤ x0 ∧ x0 ≤ 15) ∧ True)
    (l0 : ∀ (τ : pm_S) (y : Nat → Int), an_GB pm_B τ → FQ [] σ τ → ((0 ≤ x0 ∧ x0 ≤ 15) ∧ True) → (True) → (True) → (True) → Ok 244 11 8 [.ref 93, .int (Int32.ofInt (x0 + 1))] [] τ Q)
    : Ok 244 11 41 [.ref 93, .int (Int32.ofInt (x0))] [] σ Q := by
  refine an_seg (B := pm_B) (F := []) (T := []) (S := []) (fun _ h => absurd h List.not_mem_nil) (k := 244) (d := 10) (cs := [8]) 4 41 1 [(0, 0, 15)] [] [(2, 93, 0), (0, 0, 0)] [] [(8, [(2, 93, 0), (0, 0, 1)], [], [(0, 0, 15)], [], [], [])] (by decide +kernel) (ρ0 := (fun s => [x0].getD s 0)) hB eF trivial ⟨rfl, ⟨rfl, trivial⟩⟩ trivial ?_
  refine List.forall_mem_cons.mpr ⟨?_, fun _ h => absurd h List.not_mem_nil⟩
  · intro ρ τ Lc stc hx g1 g2 g3 g4 g5 g6 g7 g8
    have e0 : ρ 0 = x0 := hx 0 (by decide)
    subst e0
    have g7 := g7 (by decide)
    match Lc, stc, g7, g8 with
    | [v0, v1], [], ⟨hv0, hv1, _⟩, _ =>
      cases hv0
      cases hv1
      exact l0 τ ρ  g1 g2 g3 g4 g5 g6
set_option maxRecDepth 100000 in
theorem sg_w2_h {σ : pm_S} {Q : Option Value → pm_S → Prop} (x0 : Int)  (hB : an_GB pm_B σ) (eF : (0 ≤ x0 ∧ x0 ≤ 400) ∧ True)
    (l0 : ∀ (τ : pm_S) (y : Nat → Int), an_GB pm_B τ → FQ [] σ τ → ((400 ≤ x0 ∧ x0 ≤ 400) ∧ True) → (True) → (True) → (True) → Ok 244 11 70 [.ref 93, .int (Int32.ofInt (x0))] [] τ Q)
    (l1 : ∀ (τ : pm_S) (y : Nat → Int), an_GB pm_B τ → FQ [] σ τ → ((0 ≤ x0 ∧ x0 ≤ 399) ∧ (0 ≤ y 1 ∧ y 1 ≤ 11) ∧ True) → (True) → (True) → ((τ.1 119 (x0).toNat).toInt = y 1 ∧ True) → Ok 244 11 56 [.ref 93, .int (Int32.ofInt (x0))] [.int (Int32.ofInt (y 1)), .ref 93, .int (Int32.ofInt (x0)), .ref 119] τ Q)
    : Ok 244 11 45 [.ref 93, .int (Int32.ofInt (x0))] [] σ Q := by
  refine an_seg (B := pm_B) (F := []) (T := [119]) (S := []) (fun _ h => absurd h List.not_mem_nil) (k := 244) (d := 10) (cs := [56, 70]) 13 45 1 [(0, 0, 400)] [] [(2, 93, 0), (0, 0, 0)] [] [(70, [(2, 93, 0), (0, 0, 0)], [], [(0, 400, 400)], [], [], []),
    (56, [(2, 93, 0), (0, 0, 0)], [(0, 1, 0), (2, 93, 0), (0, 0, 0), (2, 119, 0)], [(0, 0, 399), (1, 0, 11)], [], [], [(119, (0, 0, 0), (0, 1, 0))])] (by decide +kernel) (ρ0 := (fun s => [x0].getD s 0)) hB eF trivial ⟨rfl, ⟨rfl, trivial⟩⟩ trivial ?_
  refine List.forall_mem_cons.mpr ⟨?_, List.forall_mem_cons.mpr ⟨?_, fun _ h => absurd h List.not_mem_nil⟩⟩
  · intro ρ τ Lc stc hx g1 g2 g3 g4 g5 g6 g7 g8
    have e0 : ρ 0 = x0 := hx 0 (by decide)
    subst e0
    have g7 := g7 (by decide)
    match Lc, stc, g7, g8 with
    | [v0, v1], [], ⟨hv0, hv1, _⟩, _ =>
      cases hv0
      cases hv1
      exact l0 τ ρ  g1 g2 g3 g4 g5 g6
  · intro ρ τ Lc stc hx g1 g2 g3 g4 g5 g6 g7 g8
    have e0 : ρ 0 = x0 := hx 0 (by decide)
    subst e0
    have g7 := g7 (by decide)
    match Lc, stc, g7, g8 with
    | [v0, v1], [w0, w1, w2, w3], ⟨hv0, hv1, _⟩, ⟨hw0, hw1, hw2, hw3, _⟩ =>
      cases hv0
      cases hv1
      cases hw0
      cases hw1
      cases hw2
      cases hw3
      exact l1 τ ρ  g1 g2 g3 g4 g5 g6
set_option maxRecDepth 100000 in
theorem sg_w2_0 {σ : pm_S} {Q : Option Value → pm_S → Prop} (x0 : Int)  (hB : an_GB pm_B σ) (eF : (0 ≤ x0 ∧ x0 ≤ 399) ∧ True)
    (l0 : ∀ (τ : pm_S) (y : Nat → Int), an_GB pm_B τ → FQ [] σ τ → ((0 ≤ x0 ∧ x0 ≤ 399) ∧ ((-2147483648) ≤ y 1 ∧ y 1 ≤ 2147483647) ∧ True) → (True) → (True) → ((τ.1 120 (x0).toNat).toInt = y 1 ∧ True) → Ok 244 11 66 [.ref 93, .int (Int32.ofInt (x0))] [.int (Int32.ofInt (y 1)), .ref 93, .int (Int32.ofInt (x0)), .ref 120] τ Q)
    : Ok 244 11 58 [.ref 93, .int (Int32.ofInt (x0))] [] σ Q := by
  refine an_seg (B := pm_B) (F := []) (T := [120]) (S := []) (fun _ h => absurd h List.not_mem_nil) (k := 244) (d := 10) (cs := [66]) 10 58 1 [(0, 0, 399)] [] [(2, 93, 0), (0, 0, 0)] [] [(66, [(2, 93, 0), (0, 0, 0)], [(0, 1, 0), (2, 93, 0), (0, 0, 0), (2, 120, 0)], [(0, 0, 399), (1, (-2147483648), 2147483647)], [], [], [(120, (0, 0, 0), (0, 1, 0))])] (by decide +kernel) (ρ0 := (fun s => [x0].getD s 0)) hB eF trivial ⟨rfl, ⟨rfl, trivial⟩⟩ trivial ?_
  refine List.forall_mem_cons.mpr ⟨?_, fun _ h => absurd h List.not_mem_nil⟩
  · intro ρ τ Lc stc hx g1 g2 g3 g4 g5 g6 g7 g8
    have e0 : ρ 0 = x0 := hx 0 (by decide)
    subst e0
    have g7 := g7 (by decide)
    match Lc, stc, g7, g8 with
    | [v0, v1], [w0, w1, w2, w3], ⟨hv0, hv1, _⟩, ⟨hw0, hw1, hw2, hw3, _⟩ =>
      cases hv0
      cases hv1
      cases hw0
      cases hw1
      cases hw2
      cases hw3
      exact l0 τ ρ  g1 g2 g3 g4 g5 g6
set_option maxRecDepth 100000 in
theorem sg_w2_e {σ : pm_S} {Q : Option Value → pm_S → Prop} (x0 : Int)  (hB : an_GB pm_B σ) (eF : (0 ≤ x0 ∧ x0 ≤ 399) ∧ True)
    (l0 : ∀ (τ : pm_S) (y : Nat → Int), an_GB pm_B τ → FQ [] σ τ → ((0 ≤ x0 ∧ x0 ≤ 399) ∧ True) → (True) → (True) → (True) → Ok 244 11 45 [.ref 93, .int (Int32.ofInt (x0 + 1))] [] τ Q)
    : Ok 244 11 68 [.ref 93, .int (Int32.ofInt (x0))] [] σ Q := by
  refine an_seg (B := pm_B) (F := []) (T := []) (S := []) (fun _ h => absurd h List.not_mem_nil) (k := 244) (d := 10) (cs := [45]) 4 68 1 [(0, 0, 399)] [] [(2, 93, 0), (0, 0, 0)] [] [(45, [(2, 93, 0), (0, 0, 1)], [], [(0, 0, 399)], [], [], [])] (by decide +kernel) (ρ0 := (fun s => [x0].getD s 0)) hB eF trivial ⟨rfl, ⟨rfl, trivial⟩⟩ trivial ?_
  refine List.forall_mem_cons.mpr ⟨?_, fun _ h => absurd h List.not_mem_nil⟩
  · intro ρ τ Lc stc hx g1 g2 g3 g4 g5 g6 g7 g8
    have e0 : ρ 0 = x0 := hx 0 (by decide)
    subst e0
    have g7 := g7 (by decide)
    match Lc, stc, g7, g8 with
    | [v0, v1], [], ⟨hv0, hv1, _⟩, _ =>
      cases hv0
      cases hv1
      exact l0 τ ρ  g1 g2 g3 g4 g5 g6
set_option maxRecDepth 100000 in
theorem sg_im0 {σ : pm_S} {Q : Option Value → pm_S → Prop} (x0 x1 : Int) (v2 : Value) (hv2 : v2.category = 1) (hB : an_GB pm_B σ) (eF : (0 ≤ x0 ∧ x0 ≤ 1) ∧ (0 ≤ x1 ∧ x1 ≤ 1) ∧ True) (eC : (σ.1 93 64).toInt = x1 ∧ True)
    (l0 : ∀ (τ : pm_S) (y : Nat → Int) (v2 : Value), v2.category = 1 → an_GB pm_B τ → FQ [(93, 0), (93, 63), (93, 64), (93, 65)] σ τ → ((1 ≤ x0 ∧ x0 ≤ 1) ∧ (0 ≤ x1 ∧ x1 ≤ 1) ∧ ((-2147483648) ≤ y 2 ∧ y 2 ≤ 2147483647) ∧ True) → (True) → (True) → ((τ.1 93 0).toInt = 0 ∧ (τ.1 93 1).toInt = y 2 ∧ (τ.1 93 63).toInt = 1 ∧ (τ.1 93 64).toInt = 1 ∧ (τ.1 93 65).toInt = 0 ∧ True) → Ok 245 21 23 [.ref 93, .int (Int32.ofInt (x0)), v2] [.int (Int32.ofInt (y 2)), .ref 93, .ref 93] τ Q)
    (l1 : ∀ (τ : pm_S) (y : Nat → Int) (v2 : Value), v2.category = 1 → an_GB pm_B τ → FQ [(93, 0), (93, 63), (93, 64), (93, 65)] σ τ → ((0 ≤ x0 ∧ x0 ≤ 0) ∧ (1 ≤ x1 ∧ x1 ≤ 1) ∧ ((-2147483648) ≤ y 2 ∧ y 2 ≤ 2147483647) ∧ True) → (True) → (True) → ((τ.1 93 0).toInt = 0 ∧ (τ.1 93 1).toInt = y 2 ∧ (τ.1 93 63).toInt = 0 ∧ (τ.1 93 64).toInt = 1 ∧ (τ.1 93 65).toInt = 0 ∧ True) → Ok 245 21 23 [.ref 93, .int (Int32.ofInt (x0)), v2] [.int (Int32.ofInt (y 2)), .ref 93, .ref 93] τ Q)
    (l2 : ∀ (τ : pm_S) (y : Nat → Int), an_GB pm_B τ → FQ [(93, 0), (93, 63), (93, 64), (93, 65)] σ τ → ((0 ≤ x0 ∧ x0 ≤ 0) ∧ (0 ≤ x1 ∧ x1 ≤ 0) ∧ True) → (True) → (True) → ((τ.1 93 0).toInt = 0 ∧ (τ.1 93 64).toInt = x1 ∧ True) → Q (some (.int (Int32.ofInt 0))) τ)
    : Ok 245 21 0 [.ref 93, .int (Int32.ofInt (x0)), v2] [] σ Q := by
  refine an_seg (B := pm_B) (F := [(93, 0), (93, 63), (93, 64), (93, 65)]) (T := []) (S := []) (fun _ h => absurd h List.not_mem_nil) (k := 245) (d := 20) (cs := [23]) 23 0 2 [(0, 0, 1), (1, 0, 1)] [(93, (1, 0, 64), (0, 1, 0))] [(2, 93, 0), (0, 0, 0), (5, 0, 0)] [] [(23, [(2, 93, 0), (0, 0, 0), (5, 0, 0)], [(0, 2, 0), (2, 93, 0), (2, 93, 0)], [(0, 1, 1), (1, 0, 1), (2, (-2147483648), 2147483647)], [], [], [(93, (1, 0, 0), (1, 0, 0)), (93, (1, 0, 1), (0, 2, 0)), (93, (1, 0, 63), (1, 0, 1)), (93, (1, 0, 64), (1, 0, 1)), (93, (1, 0, 65), (1, 0, 0))]),
    (23, [(2, 93, 0), (0, 0, 0), (5, 0, 0)], [(0, 2, 0), (2, 93, 0), (2, 93, 0)], [(0, 0, 0), (1, 1, 1), (2, (-2147483648), 2147483647)], [], [], [(93, (1, 0, 0), (1, 0, 0)), (93, (1, 0, 1), (0, 2, 0)), (93, (1, 0, 63), (1, 0, 0)), (93, (1, 0, 64), (1, 0, 1)), (93, (1, 0, 65), (1, 0, 0))]),
    (9999, [], [(1, 0, 0)], [(0, 0, 0), (1, 0, 0)], [], [], [(93, (1, 0, 0), (1, 0, 0)), (93, (1, 0, 64), (0, 1, 0))])] (by decide +kernel) (ρ0 := (fun s => [x0, x1].getD s 0)) hB eF eC ⟨rfl, ⟨rfl, ⟨hv2, trivial⟩⟩⟩ trivial ?_
  refine List.forall_mem_cons.mpr ⟨?_, List.forall_mem_cons.mpr ⟨?_, List.forall_mem_cons.mpr ⟨?_, fun _ h => absurd h List.not_mem_nil⟩⟩⟩
  · intro ρ τ Lc stc hx g1 g2 g3 g4 g5 g6 g7 g8
    have e0 : ρ 0 = x0 := hx 0 (by decide)
    have e1 : ρ 1 = x1 := hx 1 (by decide)
    subst e0
    subst e1
    have g7 := g7 (by decide)
    match Lc, stc, g7, g8 with
    | [v0, v1, v2], [w0, w1, w2], ⟨hv0, hv1, hv2, _⟩, ⟨hw0, hw1, hw2, _⟩ =>
      cases hv0
      cases hv1
      cases hw0
      cases hw1
      cases hw2
      exact l0 τ ρ v2 hv2 g1 g2 g3 g4 g5 g6
  · intro ρ τ Lc stc hx g1 g2 g3 g4 g5 g6 g7 g8
    have e0 : ρ 0 = x0 := hx 0 (by decide)
    have e1 : ρ 1 = x1 := hx 1 (by decide)
    subst e0
    subst e1
    have g7 := g7 (by decide)
    match Lc, stc, g7, g8 with
    | [v0, v1, v2], [w0, w1, w2], ⟨hv0, hv1, hv2, _⟩, ⟨hw0, hw1, hw2, _⟩ =>
      cases hv0
      cases hv1
      cases hw0
      cases hw1
      cases hw2
      exact l1 τ ρ v2 hv2 g1 g2 g3 g4 g5 g6
  · intro ρ τ Lc stc hx g1 g2 g3 g4 g5 g6 g7 g8
    have e0 : ρ 0 = x0 := hx 0 (by decide)
    have e1 : ρ 1 = x1 := hx 1 (by decide)
    subst e0
    subst e1
    match stc, g8 with
    | [_], ⟨h, _⟩ => cases h; exact l2 τ ρ g1 g2 g3 g4 g5 g6
set_option maxRecDepth 100000 in
theorem sg_im25 {σ : pm_S} {Q : Option Value → pm_S → Prop} (v1 : Value) (v2 : Value) (hv1 : v1.category = 1) (hv2 : v2.category = 1) (hB : an_GB pm_B σ)
    (l0 : ∀ (τ : pm_S) (y : Nat → Int) (v1 : Value) (v2 : Value), v1.category = 1 → v2.category = 1 → an_GB pm_B τ → FQ [] σ τ → ((0 ≤ y 0 ∧ y 0 ≤ 10) ∧ True) → (True) → (True) → ((τ.1 93 2).toInt = y 0 ∧ True) → Ok 245 21 29 [.ref 93, v1, v2] [.int (Int32.ofInt (y 0)), .ref 93, .ref 93] τ Q)
    : Ok 245 21 25 [.ref 93, v1, v2] [] σ Q := by
  refine an_seg (B := pm_B) (F := []) (T := []) (S := []) (fun _ h => absurd h List.not_mem_nil) (k := 245) (d := 20) (cs := [29]) 6 25 0 [] [] [(2, 93, 0), (5, 0, 0), (5, 0, 0)] [] [(29, [(2, 93, 0), (5, 0, 0), (5, 0, 0)], [(0, 0, 0), (2, 93, 0), (2, 93, 0)], [(0, 0, 10)], [], [], [(93, (1, 0, 2), (0, 0, 0))])] (by decide +kernel) (ρ0 := (fun s => [].getD s 0)) hB trivial trivial ⟨rfl, ⟨hv1, ⟨hv2, trivial⟩⟩⟩ trivial ?_
  refine List.forall_mem_cons.mpr ⟨?_, fun _ h => absurd h List.not_mem_nil⟩
  · intro ρ τ Lc stc hx g1 g2 g3 g4 g5 g6 g7 g8
    have g7 := g7 (by decide)
    match Lc, stc, g7, g8 with
    | [v0, v1, v2], [w0, w1, w2], ⟨hv0, hv1, hv2, _⟩, ⟨hw0, hw1, hw2, _⟩ =>
      cases hv0
      cases hw0
      cases hw1
      cases hw2
      exact l0 τ ρ v1 v2 hv1 hv2 g1 g2 g3 g4 g5 g6
set_option maxRecDepth 100000 in
theorem sg_im31 {σ : pm_S} {Q : Option Value → pm_S → Prop} (v1 : Value) (v2 : Value) (hv1 : v1.category = 1) (hv2 : v2.category = 1) (hB : an_GB pm_B σ)
    (l0 : ∀ (τ : pm_S) (y : Nat → Int) (v1 : Value), v1.category = 1 → an_GB pm_B τ → FQ [] σ τ → (True) → (True) → (True) → (True) → Ok 245 21 33 [.ref 93, v1, .int (Int32.ofInt 0)] [] τ Q)
    : Ok 245 21 31 [.ref 93, v1, v2] [] σ Q := by
  refine an_seg (B := pm_B) (F := []) (T := []) (S := []) (fun _ h => absurd h List.not_mem_nil) (k := 245) (d := 20) (cs := [33]) 4 31 0 [] [] [(2, 93, 0), (5, 0, 0), (5, 0, 0)] [] [(33, [(2, 93, 0), (5, 0, 0), (1, 0, 0)], [], [], [], [], [])] (by decide +kernel) (ρ0 := (fun s => [].getD s 0)) hB trivial trivial ⟨rfl, ⟨hv1, ⟨hv2, trivial⟩⟩⟩ trivial ?_
  refine List.forall_mem_cons.mpr ⟨?_, fun _ h => absurd h List.not_mem_nil⟩
  · intro ρ τ Lc stc hx g1 g2 g3 g4 g5 g6 g7 g8
    have g7 := g7 (by decide)
    match Lc, stc, g7, g8 with
    | [v0, v1, v2], [], ⟨hv0, hv1, hv2, _⟩, _ =>
      cases hv0
      cases hv2
      exact l0 τ ρ v1 hv1 g1 g2 g3 g4 g5 g6
set_option maxRecDepth 100000 in
theorem sg_im48 {σ : pm_S} {Q : Option Value → pm_S → Prop} (v1 : Value) (v2 : Value) (hv1 : v1.category = 1) (hv2 : v2.category = 1) (hB : an_GB pm_B σ)
    (l0 : ∀ (τ : pm_S) (y : Nat → Int) (v1 : Value), v1.category = 1 → an_GB pm_B τ → FQ [] σ τ → (True) → (True) → (True) → (True) → Ok 245 21 50 [.ref 93, v1, .int (Int32.ofInt 0)] [] τ Q)
    : Ok 245 21 48 [.ref 93, v1, v2] [] σ Q := by
  refine an_seg (B := pm_B) (F := []) (T := []) (S := []) (fun _ h => absurd h List.not_mem_nil) (k := 245) (d := 20) (cs := [50]) 4 48 0 [] [] [(2, 93, 0), (5, 0, 0), (5, 0, 0)] [] [(50, [(2, 93, 0), (5, 0, 0), (1, 0, 0)], [], [], [], [], [])] (by decide +kernel) (ρ0 := (fun s => [].getD s 0)) hB trivial trivial ⟨rfl, ⟨hv1, ⟨hv2, trivial⟩⟩⟩ trivial ?_
  refine List.forall_mem_cons.mpr ⟨?_, fun _ h => absurd h List.not_mem_nil⟩
  · intro ρ τ Lc stc hx g1 g2 g3 g4 g5 g6 g7 g8
    have g7 := g7 (by decide)
    match Lc, stc, g7, g8 with
    | [v0, v1, v2], [], ⟨hv0, hv1, hv2, _⟩, _ =>
      cases hv0
      cases hv2
      exact l0 τ ρ v1 hv1 g1 g2 g3 g4 g5 g6
set_option maxRecDepth 100000 in
theorem sg_im65 {σ : pm_S} {Q : Option Value → pm_S → Prop} (v1 : Value) (v2 : Value) (hv1 : v1.category = 1) (hv2 : v2.category = 1) (hB : an_GB pm_B σ)
    (l0 : ∀ (τ : pm_S) (y : Nat → Int) (v1 : Value), v1.category = 1 → an_GB pm_B τ → FQ [] σ τ → (True) → (True) → (True) → (True) → Ok 245 21 67 [.ref 93, v1, .int (Int32.ofInt 0)] [] τ Q)
    : Ok 245 21 65 [.ref 93, v1, v2] [] σ Q := by
  refine an_seg (B := pm_B) (F := []) (T := []) (S := []) (fun _ h => absurd h List.not_mem_nil) (k := 245) (d := 20) (cs := [67]) 4 65 0 [] [] [(2, 93, 0), (5, 0, 0), (5, 0, 0)] [] [(67, [(2, 93, 0), (5, 0, 0), (1, 0, 0)], [], [], [], [], [])] (by decide +kernel) (ρ0 := (fun s => [].getD s 0)) hB trivial trivial ⟨rfl, ⟨hv1, ⟨hv2, trivial⟩⟩⟩ trivial ?_
  refine List.forall_mem_cons.mpr ⟨?_, fun _ h => absurd h List.not_mem_nil⟩
  · intro ρ τ Lc stc hx g1 g2 g3 g4 g5 g6 g7 g8
    have g7 := g7 (by decide)
    match Lc, stc, g7, g8 with
    | [v0, v1, v2], [], ⟨hv0, hv1, hv2, _⟩, _ =>
      cases hv0
      cases hv2
      exact l0 τ ρ v1 hv1 g1 g2 g3 g4 g5 g6
set_option maxRecDepth 100000 in
theorem sg_im82 {σ : pm_S} {Q : Option Value → pm_S → Prop} (v1 : Value) (v2 : Value) (hv1 : v1.category = 1) (hv2 : v2.category = 1) (hB : an_GB pm_B σ)
    (l0 : ∀ (τ : pm_S) (y : Nat → Int) (v1 : Value) (v2 : Value), v1.category = 1 → v2.category = 1 → an_GB pm_B τ → FQ [] σ τ → ((0 ≤ y 0 ∧ y 0 ≤ 10) ∧ True) → (True) → (True) → ((τ.1 93 5).toInt = y 0 ∧ True) → Ok 245 21 86 [.ref 93, v1, v2] [.int (Int32.ofInt (y 0)), .ref 93, .ref 93] τ Q)
    : Ok 245 21 82 [.ref 93, v1, v2] [] σ Q := by
  refine an_seg (B := pm_B) (F := []) (T := []) (S := []) (fun _ h => absurd h List.not_mem_nil) (k := 245) (d := 20) (cs := [86]) 6 82 0 [] [] [(2, 93, 0), (5, 0, 0), (5, 0, 0)] [] [(86, [(2, 93, 0), (5, 0, 0), (5, 0, 0)], [(0, 0, 0), (2, 93, 0), (2, 93, 0)], [(0, 0, 10)], [], [], [(93, (1, 0, 5), (0, 0, 0))])] (by decide +kernel) (ρ0 := (fun s => [].getD s 0)) hB trivial trivial ⟨rfl, ⟨hv1, ⟨hv2, trivial⟩⟩⟩ trivial ?_
  refine List.forall_mem_cons.mpr ⟨?_, fun _ h => absurd h List.not_mem_nil⟩
  · intro ρ τ Lc stc hx g1 g2 g3 g4 g5 g6 g7 g8
    have g7 := g7 (by decide)
    match Lc, stc, g7, g8 with
    | [v0, v1, v2], [w0, w1, w2], ⟨hv0, hv1, hv2, _⟩, ⟨hw0, hw1, hw2, _⟩ =>
      cases hv0
      cases hw0
      cases hw1
      cases hw2
      exact l0 τ ρ v1 v2 hv1 hv2 g1 g2 g3 g4 g5 g6
set_option maxRecDepth 100000 in
theorem sg_im88 {σ : pm_S} {Q : Option Value → pm_S → Prop} (v1 : Value) (v2 : Value) (hv1 : v1.category = 1) (hv2 : v2.category = 1) (hB : an_GB pm_B σ)
    (l0 : ∀ (τ : pm_S) (y : Nat → Int) (v1 : Value), v1.category = 1 → an_GB pm_B τ → FQ [] σ τ → (True) → (True) → (True) → (True) → Ok 245 21 90 [.ref 93, v1, .int (Int32.ofInt 0)] [] τ Q)
    : Ok 245 21 88 [.ref 93, v1, v2] [] σ Q := by
  refine an_seg (B := pm_B) (F := []) (T := []) (S := []) (fun _ h => absurd h List.not_mem_nil) (k := 245) (d := 20) (cs := [90]) 4 88 0 [] [] [(2, 93, 0), (5, 0, 0), (5, 0, 0)] [] [(90, [(2, 93, 0), (5, 0, 0), (1, 0, 0)], [], [], [], [], [])] (by decide +kernel) (ρ0 := (fun s => [].getD s 0)) hB trivial trivial ⟨rfl, ⟨hv1, ⟨hv2, trivial⟩⟩⟩ trivial ?_
  refine List.forall_mem_cons.mpr ⟨?_, fun _ h => absurd h List.not_mem_nil⟩
  · intro ρ τ Lc stc hx g1 g2 g3 g4 g5 g6 g7 g8
    have g7 := g7 (by decide)
    match Lc, stc, g7, g8 with
    | [v0, v1, v2], [], ⟨hv0, hv1, hv2, _⟩, _ =>
      cases hv0
      cases hv2
      exact l0 τ ρ v1 hv1 g1 g2 g3 g4 g5 g6
set_option maxRecDepth 100000 in
theorem sg_im145 {σ : pm_S} {Q : Option Value → pm_S → Prop} (v1 : Value) (v2 : Value) (hv1 : v1.category = 1) (hv2 : v2.category = 1) (hB : an_GB pm_B σ)
    (l0 : ∀ (τ : pm_S) (y : Nat → Int) (v1 : Value) (v2 : Value), v1.category = 1 → v2.category = 1 → an_GB pm_B τ → FQ [] σ τ → (((-2147483648) ≤ y 0 ∧ y 0 ≤ 2147483647) ∧ True) → (True) → (True) → ((τ.1 93 19).toInt = y 0 ∧ True) → Ok 245 21 149 [.ref 93, v1, v2] [.int (Int32.ofInt (y 0)), .ref 93, .ref 93] τ Q)
    : Ok 245 21 145 [.ref 93, v1, v2] [] σ Q := by
  refine an_seg (B := pm_B) (F := []) (T := []) (S := []) (fun _ h => absurd h List.not_mem_nil) (k := 245) (d := 20) (cs := [149]) 6 145 0 [] [] [(2, 93, 0), (5, 0, 0), (5, 0, 0)] [] [(149, [(2, 93, 0), (5, 0, 0), (5, 0, 0)], [(0, 0, 0), (2, 93, 0), (2, 93, 0)], [(0, (-2147483648), 2147483647)], [], [], [(93, (1, 0, 19), (0, 0, 0))])] (by decide +kernel) (ρ0 := (fun s => [].getD s 0)) hB trivial trivial ⟨rfl, ⟨hv1, ⟨hv2, trivial⟩⟩⟩ trivial ?_
  refine List.forall_mem_cons.mpr ⟨?_, fun _ h => absurd h List.not_mem_nil⟩
  · intro ρ τ Lc stc hx g1 g2 g3 g4 g5 g6 g7 g8
    have g7 := g7 (by decide)
    match Lc, stc, g7, g8 with
    | [v0, v1, v2], [w0, w1, w2], ⟨hv0, hv1, hv2, _⟩, ⟨hw0, hw1, hw2, _⟩ =>
      cases hv0
      cases hw0
      cases hw1
      cases hw2
      exact l0 τ ρ v1 v2 hv1 hv2 g1 g2 g3 g4 g5 g6
set_option maxRecDepth 100000 in
theorem sg_im151 {σ : pm_S} {Q : Option Value → pm_S → Prop} (v1 : Value) (v2 : Value) (hv1 : v1.category = 1) (hv2 : v2.category = 1) (hB : an_GB pm_B σ)
    (l0 : ∀ (τ : pm_S) (y : Nat → Int) (v1 : Value) (v2 : Value), v1.category = 1 → v2.category = 1 → an_GB pm_B τ → FQ [] σ τ → (((-2147483648) ≤ y 0 ∧ y 0 ≤ 2147483647) ∧ True) → (True) → (True) → ((τ.1 93 20).toInt = y 0 ∧ True) → Ok 245 21 155 [.ref 93, v1, v2] [.int (Int32.ofInt (y 0)), .ref 93, .ref 93] τ Q)
    : Ok 245 21 151 [.ref 93, v1, v2] [] σ Q := by
  refine an_seg (B := pm_B) (F := []) (T := []) (S := []) (fun _ h => absurd h List.not_mem_nil) (k := 245) (d := 20) (cs := [155]) 6 151 0 [] [] [(2, 93, 0), (5, 0, 0), (5, 0, 0)] [] [(155, [(2, 93, 0), (5, 0, 0), (5, 0, 0)], [(0, 0, 0), (2, 93, 0), (2, 93, 0)], [(0, (-2147483648), 2147483647)], [], [], [(93, (1, 0, 20), (0, 0, 0))])] (by decide +kernel) (ρ0 := (fun s => [].getD s 0)) hB trivial trivial ⟨rfl, ⟨hv1, ⟨hv2, trivial⟩⟩⟩ trivial ?_
  refine List.forall_mem_cons.mpr ⟨?_, fun _ h => absurd h List.not_mem_nil⟩
  · intro ρ τ Lc stc hx g1 g2 g3 g4 g5 g6 g7 g8
    have g7 := g7 (by decide)
    match Lc, stc, g7, g8 with
    | [v0, v1, v2], [w0, w1, w2], ⟨hv0, hv1, hv2, _⟩, ⟨hw0, hw1, hw2, _⟩ =>
      cases hv0
      cases hw0
      cases hw1
      cases hw2
      exact l0 τ ρ v1 v2 hv1 hv2 g1 g2 g3 g4 g5 g6
set_option maxRecDepth 100000 in
theorem sg_im157 {σ : pm_S} {Q : Option Value → pm_S → Prop} (v1 : Value) (v2 : Value) (hv1 : v1.category = 1) (hv2 : v2.category = 1) (hB : an_GB pm_B σ)
    (l0 : ∀ (τ : pm_S) (y : Nat → Int) (v1 : Value) (v2 : Value), v1.category = 1 → v2.category = 1 → an_GB pm_B τ → FQ [] σ τ → (((-2147483648) ≤ y 0 ∧ y 0 ≤ 2147483647) ∧ True) → (True) → (True) → ((τ.1 93 21).toInt = y 0 ∧ True) → Ok 245 21 161 [.ref 93, v1, v2] [.int (Int32.ofInt (y 0)), .ref 93, .ref 93] τ Q)
    : Ok 245 21 157 [.ref 93, v1, v2] [] σ Q := by
  refine an_seg (B := pm_B) (F := []) (T := []) (S := []) (fun _ h => absurd h List.not_mem_nil) (k := 245) (d := 20) (cs := [161]) 6 157 0 [] [] [(2, 93, 0), (5, 0, 0), (5, 0, 0)] [] [(161, [(2, 93, 0), (5, 0, 0), (5, 0, 0)], [(0, 0, 0), (2, 93, 0), (2, 93, 0)], [(0, (-2147483648), 2147483647)], [], [], [(93, (1, 0, 21), (0, 0, 0))])] (by decide +kernel) (ρ0 := (fun s => [].getD s 0)) hB trivial trivial ⟨rfl, ⟨hv1, ⟨hv2, trivial⟩⟩⟩ trivial ?_
  refine List.forall_mem_cons.mpr ⟨?_, fun _ h => absurd h List.not_mem_nil⟩
  · intro ρ τ Lc stc hx g1 g2 g3 g4 g5 g6 g7 g8
    have g7 := g7 (by decide)
    match Lc, stc, g7, g8 with
    | [v0, v1, v2], [w0, w1, w2], ⟨hv0, hv1, hv2, _⟩, ⟨hw0, hw1, hw2, _⟩ =>
      cases hv0
      cases hw0
      cases hw1
      cases hw2
      exact l0 τ ρ v1 v2 hv1 hv2 g1 g2 g3 g4 g5 g6
set_option maxRecDepth 100000 in
theorem sg_im163 {σ : pm_S} {Q : Option Value → pm_S → Prop} (v1 : Value) (v2 : Value) (hv1 : v1.category = 1) (hv2 : v2.category = 1) (hB : an_GB pm_B σ)
    (l0 : ∀ (τ : pm_S) (y : Nat → Int) (v1 : Value), v1.category = 1 → an_GB pm_B τ → FQ [] σ τ → (True) → (True) → (True) → (True) → Ok 245 21 165 [.ref 93, v1, .int (Int32.ofInt 0)] [] τ Q)
    : Ok 245 21 163 [.ref 93, v1, v2] [] σ Q := by
  refine an_seg (B := pm_B) (F := []) (T := []) (S := []) (fun _ h => absurd h List.not_mem_nil) (k := 245) (d := 20) (cs := [165]) 4 163 0 [] [] [(2, 93, 0), (5, 0, 0), (5, 0, 0)] [] [(165, [(2, 93, 0), (5, 0, 0), (1, 0, 0)], [], [], [], [], [])] (by decide +kernel) (ρ0 := (fun s => [].getD s 0)) hB trivial trivial ⟨rfl, ⟨hv1, ⟨hv2, trivial⟩⟩⟩ trivial ?_
  refine List.forall_mem_cons.mpr ⟨?_, fun _ h => absurd h List.not_mem_nil⟩
  · intro ρ τ Lc stc hx g1 g2 g3 g4 g5 g6 g7 g8
    have g7 := g7 (by decide)
    match Lc, stc, g7, g8 with
    | [v0, v1, v2], [], ⟨hv0, hv1, hv2, _⟩, _ =>
      cases hv0
      cases hv2
      exact l0 τ ρ v1 hv1 g1 g2 g3 g4 g5 g6
set_option maxRecDepth 100000 in
theorem sg_im180 {σ : pm_S} {Q : Option Value → pm_S → Prop} (v1 : Value) (v2 : Value) (hv1 : v1.category = 1) (hv2 : v2.category = 1) (hB : an_GB pm_B σ)
    (l0 : ∀ (τ : pm_S) (y : Nat → Int) (v1 : Value) (v2 : Value), v1.category = 1 → v2.category = 1 → an_GB pm_B τ → FQ [] σ τ → (True) → (True) → (True) → (True) → Ok 245 21 181 [.ref 93, v1, v2] [.ref 93] τ Q)
    : Ok 245 21 180 [.ref 93, v1, v2] [] σ Q := by
  refine an_seg (B := pm_B) (F := []) (T := []) (S := []) (fun _ h => absurd h List.not_mem_nil) (k := 245) (d := 20) (cs := [181]) 3 180 0 [] [] [(2, 93, 0), (5, 0, 0), (5, 0, 0)] [] [(181, [(2, 93, 0), (5, 0, 0), (5, 0, 0)], [(2, 93, 0)], [], [], [], [])] (by decide +kernel) (ρ0 := (fun s => [].getD s 0)) hB trivial trivial ⟨rfl, ⟨hv1, ⟨hv2, trivial⟩⟩⟩ trivial ?_
  refine List.forall_mem_cons.mpr ⟨?_, fun _ h => absurd h List.not_mem_nil⟩
  · intro ρ τ Lc stc hx g1 g2 g3 g4 g5 g6 g7 g8
    have g7 := g7 (by decide)
    match Lc, stc, g7, g8 with
    | [v0, v1, v2], [w0], ⟨hv0, hv1, hv2, _⟩, ⟨hw0, _⟩ =>
      cases hv0
      cases hw0
      exact l0 τ ρ v1 v2 hv1 hv2 g1 g2 g3 g4 g5 g6
set_option maxRecDepth 100000 in
theorem sg_im182 {σ : pm_S} {Q : Option Value → pm_S → Prop} (v1 : Value) (v2 : Value) (hv1 : v1.category = 1) (hv2 : v2.category = 1) (hB : an_GB pm_B σ)
    (l0 : ∀ (τ : pm_S) (y : Nat → Int) (v1 : Value) (v2 : Value), v1.category = 1 → v2.category = 1 → an_GB pm_B τ → FQ [] σ τ → (True) → (True) → (True) → (True) → Ok 245 21 183 [.ref 93, v1, v2] [.ref 93] τ Q)
    : Ok 245 21 182 [.ref 93, v1, v2] [] σ Q := by
  refine an_seg (B := pm_B) (F := []) (T := []) (S := []) (fun _ h => absurd h List.not_mem_nil) (k := 245) (d := 20) (cs := [183]) 3 182 0 [] [] [(2, 93, 0), (5, 0, 0), (5, 0, 0)] [] [(183, [(2, 93, 0), (5, 0, 0), (5, 0, 0)], [(2, 93, 0)], [], [], [], [])] (by decide +kernel) (ρ0 := (fun s => [].getD s 0)) hB trivial trivial ⟨rfl, ⟨hv1, ⟨hv2, trivial⟩⟩⟩ trivial ?_
  refine List.forall_mem_cons.mpr ⟨?_, fun _ h => absurd h List.not_mem_nil⟩
  · intro ρ τ Lc stc hx g1 g2 g3 g4 g5 g6 g7 g8
    have g7 := g7 (by decide)
    match Lc, stc, g7, g8 with
    | [v0, v1, v2], [w0], ⟨hv0, hv1, hv2, _⟩, ⟨hw0, _⟩ =>
      cases hv0
      cases hw0
      exact l0 τ ρ v1 v2 hv1 hv2 g1 g2 g3 g4 g5 g6
set_option maxRecDepth 100000 in
theorem sg_im184 {σ : pm_S} {Q : Option Value → pm_S → Prop} (v1 : Value) (v2 : Value) (hv1 : v1.category = 1) (hv2 : v2.category = 1) (hB : an_GB pm_B σ)
    (l0 : ∀ (τ : pm_S) (y : Nat → Int), an_GB pm_B τ → FQ [] σ τ → (True) → (True) → (True) → (True) → Q (some (.int (Int32.ofInt 1))) τ)
    : Ok 245 21 184 [.ref 93, v1, v2] [] σ Q := by
  refine an_seg (B := pm_B) (F := []) (T := []) (S := []) (fun _ h => absurd h List.not_mem_nil) (k := 245) (d := 20) (cs := []) 4 184 0 [] [] [(2, 93, 0), (5, 0, 0), (5, 0, 0)] [] [(9999, [], [(1, 0, 1)], [], [], [], [])] (by decide +kernel) (ρ0 := (fun s => [].getD s 0)) hB trivial trivial ⟨rfl, ⟨hv1, ⟨hv2, trivial⟩⟩⟩ trivial ?_
  refine List.forall_mem_cons.mpr ⟨?_, fun _ h => absurd h List.not_mem_nil⟩
  · intro ρ τ Lc stc hx g1 g2 g3 g4 g5 g6 g7 g8
    match stc, g8 with
    | [_], ⟨h, _⟩ => cases h; exact l0 τ ρ g1 g2 g3 g4 g5 g6
set_option maxRecDepth 100000 in
theorem sg_kd0 {σ : pm_S} {Q : Option Value → pm_S → Prop} (v1 : Value) (hv1 : v1.category = 1) (hB : an_GB pm_B σ)
    (l0 : ∀ (τ : pm_S) (y : Nat → Int) (v1 : Value), v1.category = 1 → an_GB pm_B τ → FQ [] σ τ → ((0 ≤ y 0 ∧ y 0 ≤ 30) ∧ True) → (True) → (True) → ((τ.1 93 11).toInt = y 0 ∧ True) → Ok 243 11 4 [.ref 93, v1] [.int (Int32.ofInt (y 0)), .ref 93, .ref 93] τ Q)
    : Ok 243 11 0 [.ref 93, v1] [] σ Q := by
  refine an_seg (B := pm_B) (F := []) (T := []) (S := []) (fun _ h => absurd h List.not_mem_nil) (k := 243) (d := 10) (cs := [4]) 6 0 0 [] [] [(2, 93, 0), (5, 0, 0)] [] [(4, [(2, 93, 0), (5, 0, 0)], [(0, 0, 0), (2, 93, 0), (2, 93, 0)], [(0, 0, 30)], [], [], [(93, (1, 0, 11), (0, 0, 0))])] (by decide +kernel) (ρ0 := (fun s => [].getD s 0)) hB trivial trivial ⟨rfl, ⟨hv1, trivial⟩⟩ trivial ?_
  refine List.forall_mem_cons.mpr ⟨?_, fun _ h => absurd h List.not_mem_nil⟩
  · intro ρ τ Lc stc hx g1 g2 g3 g4 g5 g6 g7 g8
    have g7 := g7 (by decide)
    match Lc, stc, g7, g8 with
    | [v0, v1], [w0, w1, w2], ⟨hv0, hv1, _⟩, ⟨hw0, hw1, hw2, _⟩ =>
      cases hv0
      cases hw0
      cases hw1
      cases hw2
      exact l0 τ ρ v1 hv1 g1 g2 g3 g4 g5 g6
set_option maxRecDepth 100000 in
theorem sg_kd6 {σ : pm_S} {Q : Option Value → pm_S → Prop} (v1 : Value) (hv1 : v1.category = 1) (hB : an_GB pm_B σ)
    (l0 : ∀ (τ : pm_S) (y : Nat → Int), an_GB pm_B τ → FQ [] σ τ → (True) → (True) → (True) → (True) → Ok 243 11 8 [.ref 93, .int (Int32.ofInt 0)] [] τ Q)
    : Ok 243 11 6 [.ref 93, v1] [] σ Q := by
  refine an_seg (B := pm_B) (F := []) (T := []) (S := []) (fun _ h => absurd h List.not_mem_nil) (k := 243) (d := 10) (cs := [8]) 4 6 0 [] [] [(2, 93, 0), (5, 0, 0)] [] [(8, [(2, 93, 0), (1, 0, 0)], [], [], [], [], [])] (by decide +kernel) (ρ0 := (fun s => [].getD s 0)) hB trivial trivial ⟨rfl, ⟨hv1, trivial⟩⟩ trivial ?_
  refine List.forall_mem_cons.mpr ⟨?_, fun _ h => absurd h List.not_mem_nil⟩
  · intro ρ τ Lc stc hx g1 g2 g3 g4 g5 g6 g7 g8
    have g7 := g7 (by decide)
    match Lc, stc, g7, g8 with
    | [v0, v1], [], ⟨hv0, hv1, _⟩, _ =>
      cases hv0
      cases hv1
      exact l0 τ ρ  g1 g2 g3 g4 g5 g6
set_option maxRecDepth 100000 in
theorem sg_kd83 {σ : pm_S} {Q : Option Value → pm_S → Prop} (v1 : Value) (hv1 : v1.category = 1) (hB : an_GB pm_B σ)
    (l0 : ∀ (τ : pm_S) (y : Nat → Int) (v1 : Value), v1.category = 1 → an_GB pm_B τ → FQ [] σ τ → ((0 ≤ y 0 ∧ y 0 ≤ 30) ∧ True) → (True) → (True) → ((τ.1 93 23).toInt = y 0 ∧ True) → Ok 243 11 87 [.ref 93, v1] [.int (Int32.ofInt (y 0)), .ref 93, .ref 93] τ Q)
    : Ok 243 11 83 [.ref 93, v1] [] σ Q := by
  refine an_seg (B := pm_B) (F := []) (T := []) (S := []) (fun _ h => absurd h List.not_mem_nil) (k := 243) (d := 10) (cs := [87]) 6 83 0 [] [] [(2, 93, 0), (5, 0, 0)] [] [(87, [(2, 93, 0), (5, 0, 0)], [(0, 0, 0), (2, 93, 0), (2, 93, 0)], [(0, 0, 30)], [], [], [(93, (1, 0, 23), (0, 0, 0))])] (by decide +kernel) (ρ0 := (fun s => [].getD s 0)) hB trivial trivial ⟨rfl, ⟨hv1, trivial⟩⟩ trivial ?_
  refine List.forall_mem_cons.mpr ⟨?_, fun _ h => absurd h List.not_mem_nil⟩
  · intro ρ τ Lc stc hx g1 g2 g3 g4 g5 g6 g7 g8
    have g7 := g7 (by decide)
    match Lc, stc, g7, g8 with
    | [v0, v1], [w0, w1, w2], ⟨hv0, hv1, _⟩, ⟨hw0, hw1, hw2, _⟩ =>
      cases hv0
      cases hw0
      cases hw1
      cases hw2
      exact l0 τ ρ v1 hv1 g1 g2 g3 g4 g5 g6
set_option maxRecDepth 100000 in
theorem sg_kd89 {σ : pm_S} {Q : Option Value → pm_S → Prop} (v1 : Value) (hv1 : v1.category = 1) (hB : an_GB pm_B σ)
    (l0 : ∀ (τ : pm_S) (y : Nat → Int), an_GB pm_B τ → FQ [] σ τ → (True) → (True) → (True) → (True) → Ok 243 11 91 [.ref 93, .int (Int32.ofInt 0)] [] τ Q)
    : Ok 243 11 89 [.ref 93, v1] [] σ Q := by
  refine an_seg (B := pm_B) (F := []) (T := []) (S := []) (fun _ h => absurd h List.not_mem_nil) (k := 243) (d := 10) (cs := [91]) 4 89 0 [] [] [(2, 93, 0), (5, 0, 0)] [] [(91, [(2, 93, 0), (1, 0, 0)], [], [], [], [], [])] (by decide +kernel) (ρ0 := (fun s => [].getD s 0)) hB trivial trivial ⟨rfl, ⟨hv1, trivial⟩⟩ trivial ?_
  refine List.forall_mem_cons.mpr ⟨?_, fun _ h => absurd h List.not_mem_nil⟩
  · intro ρ τ Lc stc hx g1 g2 g3 g4 g5 g6 g7 g8
    have g7 := g7 (by decide)
    match Lc, stc, g7, g8 with
    | [v0, v1], [], ⟨hv0, hv1, _⟩, _ =>
      cases hv0
      cases hv1
      exact l0 τ ρ  g1 g2 g3 g4 g5 g6
set_option maxRecDepth 100000 in
theorem sg_kd136 {σ : pm_S} {Q : Option Value → pm_S → Prop} (v1 : Value) (hv1 : v1.category = 1) (hB : an_GB pm_B σ)
    (l0 : ∀ (τ : pm_S) (y : Nat → Int), an_GB pm_B τ → FQ [] σ τ → (True) → (True) → (True) → (True) → Q none τ)
    : Ok 243 11 136 [.ref 93, v1] [] σ Q := by
  refine an_seg (B := pm_B) (F := []) (T := []) (S := []) (fun _ h => absurd h List.not_mem_nil) (k := 243) (d := 10) (cs := []) 3 136 0 [] [] [(2, 93, 0), (5, 0, 0)] [] [(9999, [], [], [], [], [], [])] (by decide +kernel) (ρ0 := (fun s => [].getD s 0)) hB trivial trivial ⟨rfl, ⟨hv1, trivial⟩⟩ trivial ?_
  refine List.forall_mem_cons.mpr ⟨?_, fun _ h => absurd h List.not_mem_nil⟩
  · intro ρ τ Lc stc hx g1 g2 g3 g4 g5 g6 g7 g8
    match stc, g8 with
    | [], _ => exact l0 τ ρ g1 g2 g3 g4 g5 g6
set_option maxRecDepth 100000 in
theorem sg_kw0 {σ : pm_S} {Q : Option Value → pm_S → Prop} (v1 : Value) (hv1 : v1.category = 1) (hB : an_GB pm_B σ)
    (l0 : ∀ (τ : pm_S) (y : Nat → Int) (v1 : Value), v1.category = 1 → an_GB pm_B τ → FQ [] σ τ → ((0 ≤ y 0 ∧ y 0 ≤ 16) ∧ True) → (True) → (True) → ((τ.1 93 36).toInt = y 0 ∧ True) → Ok 244 11 4 [.ref 93, v1] [.int (Int32.ofInt (y 0)), .ref 93, .ref 93] τ Q)
    : Ok 244 11 0 [.ref 93, v1] [] σ Q := by
  refine an_seg (B := pm_B) (F := []) (T := []) (S := []) (fun _ h => absurd h List.not_mem_nil) (k := 244) (d := 10) (cs := [4]) 6 0 0 [] [] [(2, 93, 0), (5, 0, 0)] [] [(4, [(2, 93, 0), (5, 0, 0)], [(0, 0, 0), (2, 93, 0), (2, 93, 0)], [(0, 0, 16)], [], [], [(93, (1, 0, 36), (0, 0, 0))])] (by decide +kernel) (ρ0 := (fun s => [].getD s 0)) hB trivial trivial ⟨rfl, ⟨hv1, trivial⟩⟩ trivial ?_
  refine List.forall_mem_cons.mpr ⟨?_, fun _ h => absurd h List.not_mem_nil⟩
  · intro ρ τ Lc stc hx g1 g2 g3 g4 g5 g6 g7 g8
    have g7 := g7 (by decide)
    match Lc, stc, g7, g8 with
    | [v0, v1], [w0, w1, w2], ⟨hv0, hv1, _⟩, ⟨hw0, hw1, hw2, _⟩ =>
      cases hv0
      cases hw0
      cases hw1
      cases hw2
      exact l0 τ ρ v1 hv1 g1 g2 g3 g4 g5 g6
set_option maxRecDepth 100000 in
theorem sg_kw6 {σ : pm_S} {Q : Option Value → pm_S → Prop} (v1 : Value) (hv1 : v1.category = 1) (hB : an_GB pm_B σ)
    (l0 : ∀ (τ : pm_S) (y : Nat → Int), an_GB pm_B τ → FQ [] σ τ → (True) → (True) → (True) → (True) → Ok 244 11 8 [.ref 93, .int (Int32.ofInt 0)] [] τ Q)
    : Ok 244 11 6 [.ref 93, v1] [] σ Q := by
  refine an_seg (B := pm_B) (F := []) (T := []) (S := []) (fun _ h => absurd h List.not_mem_nil) (k := 244) (d := 10) (cs := [8]) 4 6 0 [] [] [(2, 93, 0), (5, 0, 0)] [] [(8, [(2, 93, 0), (1, 0, 0)], [], [], [], [], [])] (by decide +kernel) (ρ0 := (fun s => [].getD s 0)) hB trivial trivial ⟨rfl, ⟨hv1, trivial⟩⟩ trivial ?_
  refine List.forall_mem_cons.mpr ⟨?_, fun _ h => absurd h List.not_mem_nil⟩
  · intro ρ τ Lc stc hx g1 g2 g3 g4 g5 g6 g7 g8
    have g7 := g7 (by decide)
    match Lc, stc, g7, g8 with
    | [v0, v1], [], ⟨hv0, hv1, _⟩, _ =>
      cases hv0
      cases hv1
      exact l0 τ ρ  g1 g2 g3 g4 g5 g6
set_option maxRecDepth 100000 in
theorem sg_kw43 {σ : pm_S} {Q : Option Value → pm_S → Prop} (v1 : Value) (hv1 : v1.category = 1) (hB : an_GB pm_B σ)
    (l0 : ∀ (τ : pm_S) (y : Nat → Int), an_GB pm_B τ → FQ [] σ τ → (True) → (True) → (True) → (True) → Ok 244 11 45 [.ref 93, .int (Int32.ofInt 0)] [] τ Q)
    : Ok 244 11 43 [.ref 93, v1] [] σ Q := by
  refine an_seg (B := pm_B) (F := []) (T := []) (S := []) (fun _ h => absurd h List.not_mem_nil) (k := 244) (d := 10) (cs := [45]) 4 43 0 [] [] [(2, 93, 0), (5, 0, 0)] [] [(45, [(2, 93, 0), (1, 0, 0)], [], [], [], [], [])] (by decide +kernel) (ρ0 := (fun s => [].getD s 0)) hB trivial trivial ⟨rfl, ⟨hv1, trivial⟩⟩ trivial ?_
  refine List.forall_mem_cons.mpr ⟨?_, fun _ h => absurd h List.not_mem_nil⟩
  · intro ρ τ Lc stc hx g1 g2 g3 g4 g5 g6 g7 g8
    have g7 := g7 (by decide)
    match Lc, stc, g7, g8 with
    | [v0, v1], [], ⟨hv0, hv1, _⟩, _ =>
      cases hv0
      cases hv1
      exact l0 τ ρ  g1 g2 g3 g4 g5 g6
set_option maxRecDepth 100000 in
theorem sg_kw70 {σ : pm_S} {Q : Option Value → pm_S → Prop} (v1 : Value) (hv1 : v1.category = 1) (hB : an_GB pm_B σ)
    (l0 : ∀ (τ : pm_S) (y : Nat → Int), an_GB pm_B τ → FQ [] σ τ → (True) → (True) → (True) → (True) → Q none τ)
    : Ok 244 11 70 [.ref 93, v1] [] σ Q := by
  refine an_seg (B := pm_B) (F := []) (T := []) (S := []) (fun _ h => absurd h List.not_mem_nil) (k := 244) (d := 10) (cs := []) 3 70 0 [] [] [(2, 93, 0), (5, 0, 0)] [] [(9999, [], [], [], [], [], [])] (by decide +kernel) (ρ0 := (fun s => [].getD s 0)) hB trivial trivial ⟨rfl, ⟨hv1, trivial⟩⟩ trivial ?_
  refine List.forall_mem_cons.mpr ⟨?_, fun _ h => absurd h List.not_mem_nil⟩
  · intro ρ τ Lc stc hx g1 g2 g3 g4 g5 g6 g7 g8
    match stc, g8 with
    | [], _ => exact l0 τ ρ g1 g2 g3 g4 g5 g6
