/-! segments of the model's reader, by program, each checked by the kernel -/
set_option maxRecDepth 100000 in
theorem sg_em0 {σ : pm_S} {Q : Option Value → pm_S → Prop} (x0 x1 x2 : Int)  (hB : an_GB pm_B σ) (eF : ((-2147483648) ≤ x0 ∧ x0 ≤ 2147483647) ∧ ((-2147483648) ≤ x1 ∧ x1 ≤ 2147483647) ∧ (0 ≤ x2 ∧ x2 ≤ 399) ∧ True) (eC : (σ.1 93 42).toInt = x2 ∧ True)
    (l0 : ∀ (τ : pm_S) (y : Nat → Int), an_GB pm_B τ → FQ [] σ τ → (((-2147483648) ≤ x0 ∧ x0 ≤ 2147483647) ∧ ((-2147483648) ≤ x1 ∧ x1 ≤ 2147483647) ∧ (0 ≤ x2 ∧ x2 ≤ 399) ∧ True) → (True) → (True) → ((τ.1 93 42).toInt = x2 ∧ True) → Ok 186 11 7 [.ref 93, .int (Int32.ofInt (x0)), .int (Int32.ofInt (x1))] [.int (Int32.ofInt (x0)), .int (Int32.ofInt (x2 + 400)), .ref 119] τ Q)
    : Ok 186 11 0 [.ref 93, .int (Int32.ofInt (x0)), .int (Int32.ofInt (x1))] [] σ Q := by
  refine an_seg (B := pm_B) (F := []) (T := []) (S := []) (fun _ h => absurd h List.not_mem_nil) (k := 186) (d := 10) (cs := [7]) 9 0 3 [(0, (-2147483648), 2147483647), (1, (-2147483648), 2147483647), (2, 0, 399)] [(93, (1, 0, 42), (0, 2, 0))] [(2, 93, 0), (0, 0, 0), (0, 1, 0)] [] [(7, [(2, 93, 0), (0, 0, 0), (0, 1, 0)], [(0, 0, 0), (0, 2, 400), (2, 119, 0)], [(0, (-2147483648), 2147483647), (1, (-2147483648), 2147483647), (2, 0, 399)], [], [], [(93, (1, 0, 42), (0, 2, 0))])] (by decide +kernel) (ρ0 := (fun s => [x0, x1, x2].getD s 0)) hB eF eC ⟨rfl, ⟨rfl, ⟨rfl, trivial⟩⟩⟩ trivial ?_
  refine List.forall_mem_cons.mpr ⟨?_, fun _ h => absurd h List.not_mem_nil⟩
  · intro ρ τ Lc stc hx g1 g2 g3 g4 g5 g6 g7 g8
    have e0 : ρ 0 = x0 := hx 0 (by decide)
    have e1 : ρ 1 = x1 := hx 1 (by decide)
    have e2 : ρ 2 = x2 := hx 2 (by decide)
    subst e0
    subst e1
    subst e2
    have g7 := g7 (by decide)
    match Lc, stc, g7, g8 with
    | [v0, v1, v2], [w0, w1, w2], ⟨hv0, hv1, hv2, _⟩, ⟨hw0, hw1, hw2, _⟩ =>
      cases hv0
      cases hv1
      cases hv2
      cases hw0
      cases hw1
      cases hw2
      exact l0 τ ρ  g1 g2 g3 g4 g5 g6
set_option maxRecDepth 100000 in
theorem sg_em1 {σ : pm_S} {Q : Option Value → pm_S → Prop} (x0 x1 x2 : Int)  (hB : an_GB pm_B σ) (eF : ((-2147483648) ≤ x0 ∧ x0 ≤ 2147483647) ∧ ((-2147483648) ≤ x1 ∧ x1 ≤ 2147483647) ∧ (0 ≤ x2 ∧ x2 ≤ 399) ∧ True) (eC : (σ.1 93 42).toInt = x2 ∧ True)
    (l0 : ∀ (τ : pm_S) (y : Nat → Int), an_GB pm_B τ → FQ [] σ τ → (((-2147483648) ≤ x0 ∧ x0 ≤ 2147483647) ∧ ((-2147483648) ≤ x1 ∧ x1 ≤ 2147483647) ∧ (0 ≤ x2 ∧ x2 ≤ 399) ∧ True) → (True) → (True) → ((τ.1 93 42).toInt = x2 ∧ True) → Ok 186 11 15 [.ref 93, .int (Int32.ofInt (x0)), .int (Int32.ofInt (x1))] [.int (Int32.ofInt (x1)), .int (Int32.ofInt (x2 + 400)), .ref 120] τ Q)
    : Ok 186 11 8 [.ref 93, .int (Int32.ofInt (x0)), .int (Int32.ofInt (x1))] [] σ Q := by
  refine an_seg (B := pm_B) (F := []) (T := []) (S := []) (fun _ h => absurd h List.not_mem_nil) (k := 186) (d := 10) (cs := [15]) 9 8 3 [(0, (-2147483648), 2147483647), (1, (-2147483648), 2147483647), (2, 0, 399)] [(93, (1, 0, 42), (0, 2, 0))] [(2, 93, 0), (0, 0, 0), (0, 1, 0)] [] [(15, [(2, 93, 0), (0, 0, 0), (0, 1, 0)], [(0, 1, 0), (0, 2, 400), (2, 120, 0)], [(0, (-2147483648), 2147483647), (1, (-2147483648), 2147483647), (2, 0, 399)], [], [], [(93, (1, 0, 42), (0, 2, 0))])] (by decide +kernel) (ρ0 := (fun s => [x0, x1, x2].getD s 0)) hB eF eC ⟨rfl, ⟨rfl, ⟨rfl, trivial⟩⟩⟩ trivial ?_
  refine List.forall_mem_cons.mpr ⟨?_, fun _ h => absurd h List.not_mem_nil⟩
  · intro ρ τ Lc stc hx g1 g2 g3 g4 g5 g6 g7 g8
    have e0 : ρ 0 = x0 := hx 0 (by decide)
    have e1 : ρ 1 = x1 := hx 1 (by decide)
    have e2 : ρ 2 = x2 := hx 2 (by decide)
    subst e0
    subst e1
    subst e2
    have g7 := g7 (by decide)
    match Lc, stc, g7, g8 with
    | [v0, v1, v2], [w0, w1, w2], ⟨hv0, hv1, hv2, _⟩, ⟨hw0, hw1, hw2, _⟩ =>
      cases hv0
      cases hv1
      cases hv2
      cases hw0
      cases hw1
      cases hw2
      exact l0 τ ρ  g1 g2 g3 g4 g5 g6
set_option maxRecDepth 100000 in
theorem sg_em2 {σ : pm_S} {Q : Option Value → pm_S → Prop} (x0 x1 x2 : Int)  (hB : an_GB pm_B σ) (eF : ((-2147483648) ≤ x0 ∧ x0 ≤ 2147483647) ∧ ((-2147483648) ≤ x1 ∧ x1 ≤ 2147483647) ∧ (0 ≤ x2 ∧ x2 ≤ 399) ∧ True) (eC : (σ.1 93 42).toInt = x2 ∧ True)
    (l0 : ∀ (τ : pm_S) (y : Nat → Int), an_GB pm_B τ → FQ [(93, 42)] σ τ → (((-2147483648) ≤ x0 ∧ x0 ≤ 2147483647) ∧ ((-2147483648) ≤ x1 ∧ x1 ≤ 2147483647) ∧ (0 ≤ x2 ∧ x2 ≤ 399) ∧ True) → (True) → (True) → ((τ.1 93 42).toInt = x2 + 1 ∧ True) → Q none τ)
    : Ok 186 11 16 [.ref 93, .int (Int32.ofInt (x0)), .int (Int32.ofInt (x1))] [] σ Q := by
  refine an_seg (B := pm_B) (F := [(93, 42)]) (T := []) (S := []) (fun _ h => absurd h List.not_mem_nil) (k := 186) (d := 10) (cs := []) 9 16 3 [(0, (-2147483648), 2147483647), (1, (-2147483648), 2147483647), (2, 0, 399)] [(93, (1, 0, 42), (0, 2, 0))] [(2, 93, 0), (0, 0, 0), (0, 1, 0)] [] [(9999, [], [], [(0, (-2147483648), 2147483647), (1, (-2147483648), 2147483647), (2, 0, 399)], [], [], [(93, (1, 0, 42), (0, 2, 1))])] (by decide +kernel) (ρ0 := (fun s => [x0, x1, x2].getD s 0)) hB eF eC ⟨rfl, ⟨rfl, ⟨rfl, trivial⟩⟩⟩ trivial ?_
  refine List.forall_mem_cons.mpr ⟨?_, fun _ h => absurd h List.not_mem_nil⟩
  · intro ρ τ Lc stc hx g1 g2 g3 g4 g5 g6 g7 g8
    have e0 : ρ 0 = x0 := hx 0 (by decide)
    have e1 : ρ 1 = x1 := hx 1 (by decide)
    have e2 : ρ 2 = x2 := hx 2 (by decide)
    subst e0
    subst e1
    subst e2
    match stc, g8 with
    | [], _ => exact l0 τ ρ g1 g2 g3 g4 g5 g6
set_option maxRecDepth 100000 in
theorem sg_wa0 {σ : pm_S} {Q : Option Value → pm_S → Prop} (x0 x1 : Int)  (hB : an_GB pm_B σ) (eF : ((-2147483648) ≤ x0 ∧ x0 ≤ 2147483647) ∧ (0 ≤ x1 ∧ x1 ≤ 39) ∧ True) (eC : (σ.1 93 45).toInt = x1 ∧ True)
    (l0 : ∀ (τ : pm_S) (y : Nat → Int), an_GB pm_B τ → FQ [] σ τ → (((-2147483648) ≤ x0 ∧ x0 ≤ 2147483647) ∧ (0 ≤ x1 ∧ x1 ≤ 39) ∧ True) → (True) → (True) → ((τ.1 93 45).toInt = x1 ∧ True) → Ok 191 11 5 [.ref 93, .int (Int32.ofInt (x0))] [.int (Int32.ofInt (x0)), .int (Int32.ofInt (x1)), .ref 121] τ Q)
    : Ok 191 11 0 [.ref 93, .int (Int32.ofInt (x0))] [] σ Q := by
  refine an_seg (B := pm_B) (F := []) (T := []) (S := []) (fun _ h => absurd h List.not_mem_nil) (k := 191) (d := 10) (cs := [5]) 7 0 2 [(0, (-2147483648), 2147483647), (1, 0, 39)] [(93, (1, 0, 45), (0, 1, 0))] [(2, 93, 0), (0, 0, 0)] [] [(5, [(2, 93, 0), (0, 0, 0)], [(0, 0, 0), (0, 1, 0), (2, 121, 0)], [(0, (-2147483648), 2147483647), (1, 0, 39)], [], [], [(93, (1, 0, 45), (0, 1, 0))])] (by decide +kernel) (ρ0 := (fun s => [x0, x1].getD s 0)) hB eF eC ⟨rfl, ⟨rfl, trivial⟩⟩ trivial ?_
  refine List.forall_mem_cons.mpr ⟨?_, fun _ h => absurd h List.not_mem_nil⟩
  · intro ρ τ Lc stc hx g1 g2 g3 g4 g5 g6 g7 g8
    have e0 : ρ 0 = x0 := hx 0 (by decide)
    have e1 : ρ 1 = x1 := hx 1 (by decide)
    subst e0
    subst e1
    have g7 := g7 (by decide)
    match Lc, stc, g7, g8 with
    | [v0, v1], [w0, w1, w2], ⟨hv0, hv1, _⟩, ⟨hw0, hw1, hw2, _⟩ =>
      cases hv0
      cases hv1
      cases hw0
      cases hw1
      cases hw2
      exact l0 τ ρ  g1 g2 g3 g4 g5 g6
set_option maxRecDepth 100000 in
theorem sg_wa1 {σ : pm_S} {Q : Option Value → pm_S → Prop} (x0 x1 : Int)  (hB : an_GB pm_B σ) (eF : ((-2147483648) ≤ x0 ∧ x0 ≤ 2147483647) ∧ (0 ≤ x1 ∧ x1 ≤ 39) ∧ True) (eC : (σ.1 93 45).toInt = x1 ∧ True)
    (l0 : ∀ (τ : pm_S) (y : Nat → Int), an_GB pm_B τ → FQ [(93, 45)] σ τ → (((-2147483648) ≤ x0 ∧ x0 ≤ 2147483647) ∧ (0 ≤ x1 ∧ x1 ≤ 39) ∧ True) → (True) → (True) → ((τ.1 93 45).toInt = x1 + 1 ∧ True) → Q none τ)
    : Ok 191 11 6 [.ref 93, .int (Int32.ofInt (x0))] [] σ Q := by
  refine an_seg (B := pm_B) (F := [(93, 45)]) (T := []) (S := []) (fun _ h => absurd h List.not_mem_nil) (k := 191) (d := 10) (cs := []) 9 6 2 [(0, (-2147483648), 2147483647), (1, 0, 39)] [(93, (1, 0, 45), (0, 1, 0))] [(2, 93, 0), (0, 0, 0)] [] [(9999, [], [], [(0, (-2147483648), 2147483647), (1, 0, 39)], [], [], [(93, (1, 0, 45), (0, 1, 1))])] (by decide +kernel) (ρ0 := (fun s => [x0, x1].getD s 0)) hB eF eC ⟨rfl, ⟨rfl, trivial⟩⟩ trivial ?_
  refine List.forall_mem_cons.mpr ⟨?_, fun _ h => absurd h List.not_mem_nil⟩
  · intro ρ τ Lc stc hx g1 g2 g3 g4 g5 g6 g7 g8
    have e0 : ρ 0 = x0 := hx 0 (by decide)
    have e1 : ρ 1 = x1 := hx 1 (by decide)
    subst e0
    subst e1
    match stc, g8 with
    | [], _ => exact l0 τ ρ g1 g2 g3 g4 g5 g6
set_option maxRecDepth 100000 in
theorem sg_wd0 {σ : pm_S} {Q : Option Value → pm_S → Prop} (x0 x1 : Int) (v3 : Value) (v4 : Value) (v5 : Value) (hv3 : v3.category = 1) (hv4 : v4.category = 1) (hv5 : v5.category = 1) (hB : an_GB pm_B σ) (eF : (0 ≤ x0 ∧ x0 ≤ 400) ∧ (0 ≤ x1 ∧ x1 ≤ 400) ∧ True)
    (l0 : ∀ (τ : pm_S) (y : Nat → Int) (v5 : Value), v5.category = 1 → an_GB pm_B τ → FQ [] σ τ → ((0 ≤ x0 ∧ x0 ≤ 400) ∧ (0 ≤ x1 ∧ x1 ≤ 400) ∧ True) → (True) → (True) → (True) → Ok 181 11 4 [.ref 93, .int (Int32.ofInt (x0)), .int (Int32.ofInt (x1)), .int (Int32.ofInt (-1)), .int (Int32.ofInt 0), v5] [] τ Q)
    : Ok 181 11 0 [.ref 93, .int (Int32.ofInt (x0)), .int (Int32.ofInt (x1)), v3, v4, v5] [] σ Q := by
  refine an_seg (B := pm_B) (F := []) (T := []) (S := []) (fun _ h => absurd h List.not_mem_nil) (k := 181) (d := 10) (cs := [4]) 6 0 2 [(0, 0, 400), (1, 0, 400)] [] [(2, 93, 0), (0, 0, 0), (0, 1, 0), (5, 0, 0), (5, 0, 0), (5, 0, 0)] [] [(4, [(2, 93, 0), (0, 0, 0), (0, 1, 0), (1, 0, (-1)), (1, 0, 0), (5, 0, 0)], [], [(0, 0, 400), (1, 0, 400)], [], [], [])] (by decide +kernel) (ρ0 := (fun s => [x0, x1].getD s 0)) hB eF trivial ⟨rfl, ⟨rfl, ⟨rfl, ⟨hv3, ⟨hv4, ⟨hv5, trivial⟩⟩⟩⟩⟩⟩ trivial ?_
  refine List.forall_mem_cons.mpr ⟨?_, fun _ h => absurd h List.not_mem_nil⟩
  · intro ρ τ Lc stc hx g1 g2 g3 g4 g5 g6 g7 g8
    have e0 : ρ 0 = x0 := hx 0 (by decide)
    have e1 : ρ 1 = x1 := hx 1 (by decide)
    subst e0
    subst e1
    have g7 := g7 (by decide)
    match Lc, stc, g7, g8 with
    | [v0, v1, v2, v3, v4, v5], [], ⟨hv0, hv1, hv2, hv3, hv4, hv5, _⟩, _ =>
      cases hv0
      cases hv1
      cases hv2
      cases hv3
      cases hv4
      exact l0 τ ρ v5 hv5 g1 g2 g3 g4 g5 g6
set_option maxRecDepth 100000 in
theorem sg_wd4 {σ : pm_S} {Q : Option Value → pm_S → Prop} (x0 x1 x2 x3 : Int) (v5 : Value) (hv5 : v5.category = 1) (hB : an_GB pm_B σ) (eF : (0 ≤ x0 ∧ x0 ≤ 400) ∧ (0 ≤ x1 ∧ x1 ≤ 400) ∧ ((-1) ≤ x2 ∧ x2 ≤ 14) ∧ (0 ≤ x3 ∧ x3 ≤ 79) ∧ True)
    (l0 : ∀ (τ : pm_S) (y : Nat → Int), an_GB pm_B τ → FQ [] σ τ → ((0 ≤ x0 ∧ x0 ≤ 400) ∧ (0 ≤ x1 ∧ x1 ≤ 400) ∧ ((-1) ≤ x2 ∧ x2 ≤ 14) ∧ (79 ≤ x3 ∧ x3 ≤ 79) ∧ True) → (True) → (True) → (True) → Q (some (.int (Int32.ofInt (-1)))) τ)
    (l1 : ∀ (τ : pm_S) (y : Nat → Int), an_GB pm_B τ → FQ [] σ τ → ((0 ≤ x0 ∧ x0 ≤ 400) ∧ (0 ≤ x1 ∧ x1 ≤ 400) ∧ ((-1) ≤ x2 ∧ x2 ≤ 14) ∧ (0 ≤ x3 ∧ x3 ≤ 78) ∧ True) → (True) → (True) → (True) → Ok 181 11 13 [.ref 93, .int (Int32.ofInt (x0)), .int (Int32.ofInt (x1)), .int (Int32.ofInt (x2 + 1)), .int (Int32.ofInt (x3)), .int (Int32.ofInt 0)] [] τ Q)
    : Ok 181 11 4 [.ref 93, .int (Int32.ofInt (x0)), .int (Int32.ofInt (x1)), .int (Int32.ofInt (x2)), .int (Int32.ofInt (x3)), v5] [] σ Q := by
  refine an_seg (B := pm_B) (F := []) (T := []) (S := []) (fun _ h => absurd h List.not_mem_nil) (k := 181) (d := 10) (cs := [13]) 11 4 4 [(0, 0, 400), (1, 0, 400), (2, (-1), 14), (3, 0, 79)] [] [(2, 93, 0), (0, 0, 0), (0, 1, 0), (0, 2, 0), (0, 3, 0), (5, 0, 0)] [] [(9999, [], [(1, 0, (-1))], [(0, 0, 400), (1, 0, 400), (2, (-1), 14), (3, 79, 79)], [], [], []),
    (13, [(2, 93, 0), (0, 0, 0), (0, 1, 0), (0, 2, 1), (0, 3, 0), (1, 0, 0)], [], [(0, 0, 400), (1, 0, 400), (2, (-1), 14), (3, 0, 78)], [], [], [])] (by decide +kernel) (ρ0 := (fun s => [x0, x1, x2, x3].getD s 0)) hB eF trivial ⟨rfl, ⟨rfl, ⟨rfl, ⟨rfl, ⟨rfl, ⟨hv5, trivial⟩⟩⟩⟩⟩⟩ trivial ?_
  refine List.forall_mem_cons.mpr ⟨?_, List.forall_mem_cons.mpr ⟨?_, fun _ h => absurd h List.not_mem_nil⟩⟩
  · intro ρ τ Lc stc hx g1 g2 g3 g4 g5 g6 g7 g8
    have e0 : ρ 0 = x0 := hx 0 (by decide)
    have e1 : ρ 1 = x1 := hx 1 (by decide)
    have e2 : ρ 2 = x2 := hx 2 (by decide)
    have e3 : ρ 3 = x3 := hx 3 (by decide)
    subst e0
    subst e1
    subst e2
    subst e3
    match stc, g8 with
    | [_], ⟨h, _⟩ => cases h; exact l0 τ ρ g1 g2 g3 g4 g5 g6
  · intro ρ τ Lc stc hx g1 g2 g3 g4 g5 g6 g7 g8
    have e0 : ρ 0 = x0 := hx 0 (by decide)
    have e1 : ρ 1 = x1 := hx 1 (by decide)
    have e2 : ρ 2 = x2 := hx 2 (by decide)
    have e3 : ρ 3 = x3 := hx 3 (by decide)
    subst e0
    subst e1
    subst e2
    subst e3
    have g7 := g7 (by decide)
    match Lc, stc, g7, g8 with
    | [v0, v1, v2, v3, v4, v5], [], ⟨hv0, hv1, hv2, hv3, hv4, hv5, _⟩, _ =>
      cases hv0
      cases hv1
      cases hv2
      cases hv3
      cases hv4
      cases hv5
      exact l1 τ ρ  g1 g2 g3 g4 g5 g6
set_option maxRecDepth 100000 in
theorem sg_wd13 {σ : pm_S} {Q : Option Value → pm_S → Prop} (x0 x1 x2 x3 x4 : Int)  (hB : an_GB pm_B σ) (eF : (0 ≤ x0 ∧ x0 ≤ 400) ∧ (0 ≤ x1 ∧ x1 ≤ 400) ∧ (0 ≤ x2 ∧ x2 ≤ 14) ∧ (0 ≤ x3 ∧ x3 ≤ 78) ∧ (0 ≤ x4 ∧ x4 ≤ 79) ∧ True)
    (l0 : ∀ (τ : pm_S) (y : Nat → Int), an_GB pm_B τ → FQ [] σ τ → ((0 ≤ x0 ∧ x0 ≤ 400) ∧ (0 ≤ x1 ∧ x1 ≤ 400) ∧ (0 ≤ x2 ∧ x2 ≤ 14) ∧ (0 ≤ x3 ∧ x3 ≤ 78) ∧ (0 ≤ x4 ∧ x4 ≤ 79) ∧ (0 ≤ y 5 ∧ y 5 ≤ 479) ∧ True) → (True) → ((an_f 0 (Int32.ofInt (x0)) (Int32.ofInt (x4))).toInt = y 5 ∧ True) → (True) → Ok 181 11 17 [.ref 93, .int (Int32.ofInt (x0)), .int (Int32.ofInt (x1)), .int (Int32.ofInt (x2)), .int (Int32.ofInt (x3)), .int (Int32.ofInt (x4))] [.int (Int32.ofInt (x1)), .int (Int32.ofInt (y 5))] τ Q)
    : Ok 181 11 13 [.ref 93, .int (Int32.ofInt (x0)), .int (Int32.ofInt (x1)), .int (Int32.ofInt (x2)), .int (Int32.ofInt (x3)), .int (Int32.ofInt (x4))] [] σ Q := by
  refine an_seg (B := pm_B) (F := []) (T := []) (S := []) (fun _ h => absurd h List.not_mem_nil) (k := 181) (d := 10) (cs := [17]) 6 13 5 [(0, 0, 400), (1, 0, 400), (2, 0, 14), (3, 0, 78), (4, 0, 79)] [] [(2, 93, 0), (0, 0, 0), (0, 1, 0), (0, 2, 0), (0, 3, 0), (0, 4, 0)] [] [(17, [(2, 93, 0), (0, 0, 0), (0, 1, 0), (0, 2, 0), (0, 3, 0), (0, 4, 0)], [(0, 1, 0), (0, 5, 0)], [(0, 0, 400), (1, 0, 400), (2, 0, 14), (3, 0, 78), (4, 0, 79), (5, 0, 479)], [], [(0, (0, 0, 0), (0, 4, 0), 5)], [])] (by decide +kernel) (ρ0 := (fun s => [x0, x1, x2, x3, x4].getD s 0)) hB eF trivial ⟨rfl, ⟨rfl, ⟨rfl, ⟨rfl, ⟨rfl, ⟨rfl, trivial⟩⟩⟩⟩⟩⟩ trivial ?_
  refine List.forall_mem_cons.mpr ⟨?_, fun _ h => absurd h List.not_mem_nil⟩
  · intro ρ τ Lc stc hx g1 g2 g3 g4 g5 g6 g7 g8
    have e0 : ρ 0 = x0 := hx 0 (by decide)
    have e1 : ρ 1 = x1 := hx 1 (by decide)
    have e2 : ρ 2 = x2 := hx 2 (by decide)
    have e3 : ρ 3 = x3 := hx 3 (by decide)
    have e4 : ρ 4 = x4 := hx 4 (by decide)
    subst e0
    subst e1
    subst e2
    subst e3
    subst e4
    have g7 := g7 (by decide)
    match Lc, stc, g7, g8 with
    | [v0, v1, v2, v3, v4, v5], [w0, w1], ⟨hv0, hv1, hv2, hv3, hv4, hv5, _⟩, ⟨hw0, hw1, _⟩ =>
      cases hv0
      cases hv1
      cases hv2
      cases hv3
      cases hv4
      cases hv5
      cases hw0
      cases hw1
      exact l0 τ ρ  g1 g2 g3 g4 g5 g6
set_option maxRecDepth 100000 in
theorem sg_wd18 {σ : pm_S} {Q : Option Value → pm_S → Prop} (x0 x1 x2 x3 x4 : Int)  (hB : an_GB pm_B σ) (eF : (0 ≤ x0 ∧ x0 ≤ 400) ∧ (0 ≤ x1 ∧ x1 ≤ 400) ∧ (0 ≤ x2 ∧ x2 ≤ 14) ∧ (0 ≤ x3 ∧ x3 ≤ 78) ∧ (0 ≤ x4 ∧ x4 ≤ 79) ∧ True)
    (l0 : ∀ (τ : pm_S) (y : Nat → Int), an_GB pm_B τ → FQ [] σ τ → ((0 ≤ x0 ∧ x0 ≤ 400) ∧ (0 ≤ x1 ∧ x1 ≤ 400) ∧ (0 ≤ x2 ∧ x2 ≤ 14) ∧ (0 ≤ x3 ∧ x3 ≤ 78) ∧ (0 ≤ x4 ∧ x4 ≤ 79) ∧ (1 ≤ y 5 ∧ y 5 ≤ 158) ∧ True) → (True) → ((an_f 0 (Int32.ofInt (x3 + 1)) (Int32.ofInt (x4))).toInt = y 5 ∧ True) → (True) → Ok 181 11 25 [.ref 93, .int (Int32.ofInt (x0)), .int (Int32.ofInt (x1)), .int (Int32.ofInt (x2)), .int (Int32.ofInt (x3)), .int (Int32.ofInt (x4))] [.int (Int32.ofInt (y 5)), .ref 115] τ Q)
    : Ok 181 11 18 [.ref 93, .int (Int32.ofInt (x0)), .int (Int32.ofInt (x1)), .int (Int32.ofInt (x2)), .int (Int32.ofInt (x3)), .int (Int32.ofInt (x4))] [] σ Q := by
  refine an_seg (B := pm_B) (F := []) (T := []) (S := []) (fun _ h => absurd h List.not_mem_nil) (k := 181) (d := 10) (cs := [25]) 9 18 5 [(0, 0, 400), (1, 0, 400), (2, 0, 14), (3, 0, 78), (4, 0, 79)] [] [(2, 93, 0), (0, 0, 0), (0, 1, 0), (0, 2, 0), (0, 3, 0), (0, 4, 0)] [] [(25, [(2, 93, 0), (0, 0, 0), (0, 1, 0), (0, 2, 0), (0, 3, 0), (0, 4, 0)], [(0, 5, 0), (2, 115, 0)], [(0, 0, 400), (1, 0, 400), (2, 0, 14), (3, 0, 78), (4, 0, 79), (5, 1, 158)], [], [(0, (0, 3, 1), (0, 4, 0), 5)], [])] (by decide +kernel) (ρ0 := (fun s => [x0, x1, x2, x3, x4].getD s 0)) hB eF trivial ⟨rfl, ⟨rfl, ⟨rfl, ⟨rfl, ⟨rfl, ⟨rfl, trivial⟩⟩⟩⟩⟩⟩ trivial ?_
  refine List.forall_mem_cons.mpr ⟨?_, fun _ h => absurd h List.not_mem_nil⟩
  · intro ρ τ Lc stc hx g1 g2 g3 g4 g5 g6 g7 g8
    have e0 : ρ 0 = x0 := hx 0 (by decide)
    have e1 : ρ 1 = x1 := hx 1 (by decide)
    have e2 : ρ 2 = x2 := hx 2 (by decide)
    have e3 : ρ 3 = x3 := hx 3 (by decide)
    have e4 : ρ 4 = x4 := hx 4 (by decide)
    subst e0
    subst e1
    subst e2
    subst e3
    subst e4
    have g7 := g7 (by decide)
    match Lc, stc, g7, g8 with
    | [v0, v1, v2, v3, v4, v5], [w0, w1], ⟨hv0, hv1, hv2, hv3, hv4, hv5, _⟩, ⟨hw0, hw1, _⟩ =>
      cases hv0
      cases hv1
      cases hv2
      cases hv3
      cases hv4
      cases hv5
      cases hw0
      cases hw1
      exact l0 τ ρ  g1 g2 g3 g4 g5 g6
set_option maxRecDepth 100000 in
theorem sg_wd26 {σ : pm_S} {Q : Option Value → pm_S → Prop} (x0 x1 x2 x3 x4 x5 : Int)  (hB : an_GB pm_B σ) (eF : (0 ≤ x0 ∧ x0 ≤ 400) ∧ (0 ≤ x1 ∧ x1 ≤ 400) ∧ (0 ≤ x2 ∧ x2 ≤ 14) ∧ (0 ≤ x3 ∧ x3 ≤ 78) ∧ (0 ≤ x4 ∧ x4 ≤ 79) ∧ ((-2147483648) ≤ x5 ∧ x5 ≤ 2147483647) ∧ True)
    (l0 : ∀ (τ : pm_S) (y : Nat → Int), an_GB pm_B τ → FQ [] σ τ → ((0 ≤ x0 ∧ x0 ≤ 400) ∧ (0 ≤ x1 ∧ x1 ≤ 400) ∧ (0 ≤ x2 ∧ x2 ≤ 14) ∧ (0 ≤ x3 ∧ x3 ≤ 78) ∧ (0 ≤ x4 ∧ x4 ≤ 79) ∧ ((-2147483648) ≤ x5 ∧ x5 ≤ 2147483647) ∧ (0 ≤ y 6 ∧ y 6 ≤ 479) ∧ True) → (True) → ((an_f 0 (Int32.ofInt (x0)) (Int32.ofInt (x4))).toInt = y 6 ∧ True) → (True) → Ok 181 11 31 [.ref 93, .int (Int32.ofInt (x0)), .int (Int32.ofInt (x1)), .int (Int32.ofInt (x2)), .int (Int32.ofInt (x3)), .int (Int32.ofInt (x4))] [.int (Int32.ofInt (y 6)), .ref 114, .int (Int32.ofInt (x5))] τ Q)
    : Ok 181 11 26 [.ref 93, .int (Int32.ofInt (x0)), .int (Int32.ofInt (x1)), .int (Int32.ofInt (x2)), .int (Int32.ofInt (x3)), .int (Int32.ofInt (x4))] [.int (Int32.ofInt (x5))] σ Q := by
  refine an_seg (B := pm_B) (F := []) (T := []) (S := []) (fun _ h => absurd h List.not_mem_nil) (k := 181) (d := 10) (cs := [31]) 7 26 6 [(0, 0, 400), (1, 0, 400), (2, 0, 14), (3, 0, 78), (4, 0, 79), (5, (-2147483648), 2147483647)] [] [(2, 93, 0), (0, 0, 0), (0, 1, 0), (0, 2, 0), (0, 3, 0), (0, 4, 0)] [(0, 5, 0)] [(31, [(2, 93, 0), (0, 0, 0), (0, 1, 0), (0, 2, 0), (0, 3, 0), (0, 4, 0)], [(0, 6, 0), (2, 114, 0), (0, 5, 0)], [(0, 0, 400), (1, 0, 400), (2, 0, 14), (3, 0, 78), (4, 0, 79), (5, (-2147483648), 2147483647), (6, 0, 479)], [], [(0, (0, 0, 0), (0, 4, 0), 6)], [])] (by decide +kernel) (ρ0 := (fun s => [x0, x1, x2, x3, x4, x5].getD s 0)) hB eF trivial ⟨rfl, ⟨rfl, ⟨rfl, ⟨rfl, ⟨rfl, ⟨rfl, trivial⟩⟩⟩⟩⟩⟩ ⟨rfl, trivial⟩ ?_
  refine List.forall_mem_cons.mpr ⟨?_, fun _ h => absurd h List.not_mem_nil⟩
  · intro ρ τ Lc stc hx g1 g2 g3 g4 g5 g6 g7 g8
    have e0 : ρ 0 = x0 := hx 0 (by decide)
    have e1 : ρ 1 = x1 := hx 1 (by decide)
    have e2 : ρ 2 = x2 := hx 2 (by decide)
    have e3 : ρ 3 = x3 := hx 3 (by decide)
    have e4 : ρ 4 = x4 := hx 4 (by decide)
    have e5 : ρ 5 = x5 := hx 5 (by decide)
    subst e0
    subst e1
    subst e2
    subst e3
    subst e4
    subst e5
    have g7 := g7 (by decide)
    match Lc, stc, g7, g8 with
    | [v0, v1, v2, v3, v4, v5], [w0, w1, w2], ⟨hv0, hv1, hv2, hv3, hv4, hv5, _⟩, ⟨hw0, hw1, hw2, _⟩ =>
      cases hv0
      cases hv1
      cases hv2
      cases hv3
      cases hv4
      cases hv5
      cases hw0
      cases hw1
      cases hw2
      exact l0 τ ρ  g1 g2 g3 g4 g5 g6
set_option maxRecDepth 100000 in
theorem sg_wd33 {σ : pm_S} {Q : Option Value → pm_S → Prop} (x0 x1 x2 x3 x4 : Int)  (hB : an_GB pm_B σ) (eF : (0 ≤ x0 ∧ x0 ≤ 400) ∧ (0 ≤ x1 ∧ x1 ≤ 400) ∧ (0 ≤ x2 ∧ x2 ≤ 14) ∧ (0 ≤ x3 ∧ x3 ≤ 78) ∧ (0 ≤ x4 ∧ x4 ≤ 79) ∧ True)
    (l0 : ∀ (τ : pm_S) (y : Nat → Int), an_GB pm_B τ → FQ [] σ τ → ((0 ≤ x0 ∧ x0 ≤ 400) ∧ (0 ≤ x1 ∧ x1 ≤ 400) ∧ (0 ≤ x2 ∧ x2 ≤ 14) ∧ (0 ≤ x3 ∧ x3 ≤ 78) ∧ (0 ≤ x4 ∧ x4 ≤ 79) ∧ True) → (True) → (True) → (True) → Ok 181 11 13 [.ref 93, .int (Int32.ofInt (x0)), .int (Int32.ofInt (x1)), .int (Int32.ofInt (x2)), .int (Int32.ofInt (x3)), .int (Int32.ofInt (x4 + 1))] [] τ Q)
    : Ok 181 11 33 [.ref 93, .int (Int32.ofInt (x0)), .int (Int32.ofInt (x1)), .int (Int32.ofInt (x2)), .int (Int32.ofInt (x3)), .int (Int32.ofInt (x4))] [] σ Q := by
  refine an_seg (B := pm_B) (F := []) (T := []) (S := []) (fun _ h => absurd h List.not_mem_nil) (k := 181) (d := 10) (cs := [13]) 7 33 5 [(0, 0, 400), (1, 0, 400), (2, 0, 14), (3, 0, 78), (4, 0, 79)] [] [(2, 93, 0), (0, 0, 0), (0, 1, 0), (0, 2, 0), (0, 3, 0), (0, 4, 0)] [] [(13, [(2, 93, 0), (0, 0, 0), (0, 1, 0), (0, 2, 0), (0, 3, 0), (0, 4, 1)], [], [(0, 0, 400), (1, 0, 400), (2, 0, 14), (3, 0, 78), (4, 0, 79)], [], [], [])] (by decide +kernel) (ρ0 := (fun s => [x0, x1, x2, x3, x4].getD s 0)) hB eF trivial ⟨rfl, ⟨rfl, ⟨rfl, ⟨rfl, ⟨rfl, ⟨rfl, trivial⟩⟩⟩⟩⟩⟩ trivial ?_
  refine List.forall_mem_cons.mpr ⟨?_, fun _ h => absurd h List.not_mem_nil⟩
  · intro ρ τ Lc stc hx g1 g2 g3 g4 g5 g6 g7 g8
    have e0 : ρ 0 = x0 := hx 0 (by decide)
    have e1 : ρ 1 = x1 := hx 1 (by decide)
    have e2 : ρ 2 = x2 := hx 2 (by decide)
    have e3 : ρ 3 = x3 := hx 3 (by decide)
    have e4 : ρ 4 = x4 := hx 4 (by decide)
    subst e0
    subst e1
    subst e2
    subst e3
    subst e4
    have g7 := g7 (by decide)
    match Lc, stc, g7, g8 with
    | [v0, v1, v2, v3, v4, v5], [], ⟨hv0, hv1, hv2, hv3, hv4, hv5, _⟩, _ =>
      cases hv0
      cases hv1
      cases hv2
      cases hv3
      cases hv4
      cases hv5
      exact l0 τ ρ  g1 g2 g3 g4 g5 g6
set_option maxRecDepth 100000 in
theorem sg_wd38 {σ : pm_S} {Q : Option Value → pm_S → Prop} (x0 x1 x2 x3 x4 : Int)  (hB : an_GB pm_B σ) (eF : (0 ≤ x0 ∧ x0 ≤ 400) ∧ (0 ≤ x1 ∧ x1 ≤ 400) ∧ (0 ≤ x2 ∧ x2 ≤ 14) ∧ (0 ≤ x3 ∧ x3 ≤ 78) ∧ (0 ≤ x4 ∧ x4 ≤ 79) ∧ True)
    (l0 : ∀ (τ : pm_S) (y : Nat → Int), an_GB pm_B τ → FQ [] σ τ → ((0 ≤ x0 ∧ x0 ≤ 400) ∧ (0 ≤ x1 ∧ x1 ≤ 400) ∧ (0 ≤ x2 ∧ x2 ≤ 14) ∧ (0 ≤ x3 ∧ x3 ≤ 78) ∧ (0 ≤ x4 ∧ x4 ≤ 79) ∧ (0 ≤ y 5 ∧ y 5 ≤ 479) ∧ True) → (True) → ((an_f 0 (Int32.ofInt (x0)) (Int32.ofInt (x4))).toInt = y 5 ∧ True) → (True) → Ok 181 11 42 [.ref 93, .int (Int32.ofInt (x0)), .int (Int32.ofInt (x1)), .int (Int32.ofInt (x2)), .int (Int32.ofInt (x3)), .int (Int32.ofInt (x4))] [.int (Int32.ofInt (x1)), .int (Int32.ofInt (y 5))] τ Q)
    : Ok 181 11 38 [.ref 93, .int (Int32.ofInt (x0)), .int (Int32.ofInt (x1)), .int (Int32.ofInt (x2)), .int (Int32.ofInt (x3)), .int (Int32.ofInt (x4))] [] σ Q := by
  refine an_seg (B := pm_B) (F := []) (T := []) (S := []) (fun _ h => absurd h List.not_mem_nil) (k := 181) (d := 10) (cs := [42]) 6 38 5 [(0, 0, 400), (1, 0, 400), (2, 0, 14), (3, 0, 78), (4, 0, 79)] [] [(2, 93, 0), (0, 0, 0), (0, 1, 0), (0, 2, 0), (0, 3, 0), (0, 4, 0)] [] [(42, [(2, 93, 0), (0, 0, 0), (0, 1, 0), (0, 2, 0), (0, 3, 0), (0, 4, 0)], [(0, 1, 0), (0, 5, 0)], [(0, 0, 400), (1, 0, 400), (2, 0, 14), (3, 0, 78), (4, 0, 79), (5, 0, 479)], [], [(0, (0, 0, 0), (0, 4, 0), 5)], [])] (by decide +kernel) (ρ0 := (fun s => [x0, x1, x2, x3, x4].getD s 0)) hB eF trivial ⟨rfl, ⟨rfl, ⟨rfl, ⟨rfl, ⟨rfl, ⟨rfl, trivial⟩⟩⟩⟩⟩⟩ trivial ?_
  refine List.forall_mem_cons.mpr ⟨?_, fun _ h => absurd h List.not_mem_nil⟩
  · intro ρ τ Lc stc hx g1 g2 g3 g4 g5 g6 g7 g8
    have e0 : ρ 0 = x0 := hx 0 (by decide)
    have e1 : ρ 1 = x1 := hx 1 (by decide)
    have e2 : ρ 2 = x2 := hx 2 (by decide)
    have e3 : ρ 3 = x3 := hx 3 (by decide)
    have e4 : ρ 4 = x4 := hx 4 (by decide)
    subst e0
    subst e1
    subst e2
    subst e3
    subst e4
    have g7 := g7 (by decide)
    match Lc, stc, g7, g8 with
    | [v0, v1, v2, v3, v4, v5], [w0, w1], ⟨hv0, hv1, hv2, hv3, hv4, hv5, _⟩, ⟨hw0, hw1, _⟩ =>
      cases hv0
      cases hv1
      cases hv2
      cases hv3
      cases hv4
      cases hv5
      cases hw0
      cases hw1
      exact l0 τ ρ  g1 g2 g3 g4 g5 g6
set_option maxRecDepth 100000 in
theorem sg_wd43 {σ : pm_S} {Q : Option Value → pm_S → Prop} (x0 x1 x2 x3 x4 : Int)  (hB : an_GB pm_B σ) (eF : (0 ≤ x0 ∧ x0 ≤ 400) ∧ (0 ≤ x1 ∧ x1 ≤ 400) ∧ (0 ≤ x2 ∧ x2 ≤ 14) ∧ (0 ≤ x3 ∧ x3 ≤ 78) ∧ (0 ≤ x4 ∧ x4 ≤ 79) ∧ True)
    (l0 : ∀ (τ : pm_S) (y : Nat → Int), an_GB pm_B τ → FQ [] σ τ → ((0 ≤ x0 ∧ x0 ≤ 400) ∧ (0 ≤ x1 ∧ x1 ≤ 400) ∧ (0 ≤ x2 ∧ x2 ≤ 14) ∧ (0 ≤ x3 ∧ x3 ≤ 78) ∧ (0 ≤ x4 ∧ x4 ≤ 79) ∧ (1 ≤ y 5 ∧ y 5 ≤ 158) ∧ True) → (True) → ((an_f 0 (Int32.ofInt (x3 + 1)) (Int32.ofInt (x4))).toInt = y 5 ∧ True) → (True) → Ok 181 11 50 [.ref 93, .int (Int32.ofInt (x0)), .int (Int32.ofInt (x1)), .int (Int32.ofInt (x2)), .int (Int32.ofInt (x3)), .int (Int32.ofInt (x4))] [.int (Int32.ofInt (y 5)), .ref 115] τ Q)
    : Ok 181 11 43 [.ref 93, .int (Int32.ofInt (x0)), .int (Int32.ofInt (x1)), .int (Int32.ofInt (x2)), .int (Int32.ofInt (x3)), .int (Int32.ofInt (x4))] [] σ Q := by
  refine an_seg (B := pm_B) (F := []) (T := []) (S := []) (fun _ h => absurd h List.not_mem_nil) (k := 181) (d := 10) (cs := [50]) 9 43 5 [(0, 0, 400), (1, 0, 400), (2, 0, 14), (3, 0, 78), (4, 0, 79)] [] [(2, 93, 0), (0, 0, 0), (0, 1, 0), (0, 2, 0), (0, 3, 0), (0, 4, 0)] [] [(50, [(2, 93, 0), (0, 0, 0), (0, 1, 0), (0, 2, 0), (0, 3, 0), (0, 4, 0)], [(0, 5, 0), (2, 115, 0)], [(0, 0, 400), (1, 0, 400), (2, 0, 14), (3, 0, 78), (4, 0, 79), (5, 1, 158)], [], [(0, (0, 3, 1), (0, 4, 0), 5)], [])] (by decide +kernel) (ρ0 := (fun s => [x0, x1, x2, x3, x4].getD s 0)) hB eF trivial ⟨rfl, ⟨rfl, ⟨rfl, ⟨rfl, ⟨rfl, ⟨rfl, trivial⟩⟩⟩⟩⟩⟩ trivial ?_
  refine List.forall_mem_cons.mpr ⟨?_, fun _ h => absurd h List.not_mem_nil⟩
  · intro ρ τ Lc stc hx g1 g2 g3 g4 g5 g6 g7 g8
    have e0 : ρ 0 = x0 := hx 0 (by decide)
    have e1 : ρ 1 = x1 := hx 1 (by decide)
    have e2 : ρ 2 = x2 := hx 2 (by decide)
    have e3 : ρ 3 = x3 := hx 3 (by decide)
    have e4 : ρ 4 = x4 := hx 4 (by decide)
    subst e0
    subst e1
    subst e2
    subst e3
    subst e4
    have g7 := g7 (by decide)
    match Lc, stc, g7, g8 with
    | [v0, v1, v2, v3, v4, v5], [w0, w1], ⟨hv0, hv1, hv2, hv3, hv4, hv5, _⟩, ⟨hw0, hw1, _⟩ =>
      cases hv0
      cases hv1
      cases hv2
      cases hv3
      cases hv4
      cases hv5
      cases hw0
      cases hw1
      exact l0 τ ρ  g1 g2 g3 g4 g5 g6
set_option maxRecDepth 100000 in
theorem sg_wd51 {σ : pm_S} {Q : Option Value → pm_S → Prop} (x0 x1 x2 x3 x4 x5 : Int)  (hB : an_GB pm_B σ) (eF : (0 ≤ x0 ∧ x0 ≤ 400) ∧ (0 ≤ x1 ∧ x1 ≤ 400) ∧ (0 ≤ x2 ∧ x2 ≤ 14) ∧ (0 ≤ x3 ∧ x3 ≤ 78) ∧ (0 ≤ x4 ∧ x4 ≤ 79) ∧ ((-2147483648) ≤ x5 ∧ x5 ≤ 2147483647) ∧ True)
    (l0 : ∀ (τ : pm_S) (y : Nat → Int), an_GB pm_B τ → FQ [] σ τ → ((0 ≤ x0 ∧ x0 ≤ 400) ∧ (0 ≤ x1 ∧ x1 ≤ 400) ∧ (0 ≤ x2 ∧ x2 ≤ 14) ∧ (0 ≤ x3 ∧ x3 ≤ 78) ∧ (0 ≤ x4 ∧ x4 ≤ 79) ∧ ((-2147483648) ≤ x5 ∧ x5 ≤ 2147483647) ∧ True) → (x5 ≠ 32 ∧ True) → (True) → (True) → Ok 181 11 55 [.ref 93, .int (Int32.ofInt (x0)), .int (Int32.ofInt (x1)), .int (Int32.ofInt (x2)), .int (Int32.ofInt (x3)), .int (Int32.ofInt (x4))] [] τ Q)
    (l1 : ∀ (τ : pm_S) (y : Nat → Int), an_GB pm_B τ → FQ [] σ τ → ((0 ≤ x0 ∧ x0 ≤ 400) ∧ (0 ≤ x1 ∧ x1 ≤ 400) ∧ (0 ≤ x2 ∧ x2 ≤ 14) ∧ (0 ≤ x3 ∧ x3 ≤ 78) ∧ (0 ≤ x4 ∧ x4 ≤ 79) ∧ (32 ≤ x5 ∧ x5 ≤ 32) ∧ True) → (True) → (True) → (True) → Q (some (.int (Int32.ofInt (x2)))) τ)
    : Ok 181 11 51 [.ref 93, .int (Int32.ofInt (x0)), .int (Int32.ofInt (x1)), .int (Int32.ofInt (x2)), .int (Int32.ofInt (x3)), .int (Int32.ofInt (x4))] [.int (Int32.ofInt (x5))] σ Q := by
  refine an_seg (B := pm_B) (F := []) (T := []) (S := []) (fun _ h => absurd h List.not_mem_nil) (k := 181) (d := 10) (cs := [55]) 6 51 6 [(0, 0, 400), (1, 0, 400), (2, 0, 14), (3, 0, 78), (4, 0, 79), (5, (-2147483648), 2147483647)] [] [(2, 93, 0), (0, 0, 0), (0, 1, 0), (0, 2, 0), (0, 3, 0), (0, 4, 0)] [(0, 5, 0)] [(55, [(2, 93, 0), (0, 0, 0), (0, 1, 0), (0, 2, 0), (0, 3, 0), (0, 4, 0)], [], [(0, 0, 400), (1, 0, 400), (2, 0, 14), (3, 0, 78), (4, 0, 79), (5, (-2147483648), 2147483647)], [(3, 5, 5, 32)], [], []),
    (9999, [], [(0, 2, 0)], [(0, 0, 400), (1, 0, 400), (2, 0, 14), (3, 0, 78), (4, 0, 79), (5, 32, 32)], [], [], [])] (by decide +kernel) (ρ0 := (fun s => [x0, x1, x2, x3, x4, x5].getD s 0)) hB eF trivial ⟨rfl, ⟨rfl, ⟨rfl, ⟨rfl, ⟨rfl, ⟨rfl, trivial⟩⟩⟩⟩⟩⟩ ⟨rfl, trivial⟩ ?_
  refine List.forall_mem_cons.mpr ⟨?_, List.forall_mem_cons.mpr ⟨?_, fun _ h => absurd h List.not_mem_nil⟩⟩
  · intro ρ τ Lc stc hx g1 g2 g3 g4 g5 g6 g7 g8
    have e0 : ρ 0 = x0 := hx 0 (by decide)
    have e1 : ρ 1 = x1 := hx 1 (by decide)
    have e2 : ρ 2 = x2 := hx 2 (by decide)
    have e3 : ρ 3 = x3 := hx 3 (by decide)
    have e4 : ρ 4 = x4 := hx 4 (by decide)
    have e5 : ρ 5 = x5 := hx 5 (by decide)
    subst e0
    subst e1
    subst e2
    subst e3
    subst e4
    subst e5
    have g7 := g7 (by decide)
    match Lc, stc, g7, g8 with
    | [v0, v1, v2, v3, v4, v5], [], ⟨hv0, hv1, hv2, hv3, hv4, hv5, _⟩, _ =>
      cases hv0
      cases hv1
      cases hv2
      cases hv3
      cases hv4
      cases hv5
      exact l0 τ ρ  g1 g2 g3 g4 g5 g6
  · intro ρ τ Lc stc hx g1 g2 g3 g4 g5 g6 g7 g8
    have e0 : ρ 0 = x0 := hx 0 (by decide)
    have e1 : ρ 1 = x1 := hx 1 (by decide)
    have e2 : ρ 2 = x2 := hx 2 (by decide)
    have e3 : ρ 3 = x3 := hx 3 (by decide)
    have e4 : ρ 4 = x4 := hx 4 (by decide)
    have e5 : ρ 5 = x5 := hx 5 (by decide)
    subst e0
    subst e1
    subst e2
    subst e3
    subst e4
    subst e5
    match stc, g8 with
    | [_], ⟨h, _⟩ => cases h; exact l1 τ ρ g1 g2 g3 g4 g5 g6
set_option maxRecDepth 100000 in
theorem sg_wd55 {σ : pm_S} {Q : Option Value → pm_S → Prop} (x0 x1 x2 x3 x4 : Int)  (hB : an_GB pm_B σ) (eF : (0 ≤ x0 ∧ x0 ≤ 400) ∧ (0 ≤ x1 ∧ x1 ≤ 400) ∧ (0 ≤ x2 ∧ x2 ≤ 14) ∧ (0 ≤ x3 ∧ x3 ≤ 78) ∧ (0 ≤ x4 ∧ x4 ≤ 79) ∧ True)
    (l0 : ∀ (τ : pm_S) (y : Nat → Int), an_GB pm_B τ → FQ [] σ τ → ((0 ≤ x0 ∧ x0 ≤ 400) ∧ (0 ≤ x1 ∧ x1 ≤ 400) ∧ (0 ≤ x2 ∧ x2 ≤ 14) ∧ (0 ≤ x3 ∧ x3 ≤ 78) ∧ (0 ≤ x4 ∧ x4 ≤ 79) ∧ True) → (True) → (True) → (True) → Ok 181 11 59 [.ref 93, .int (Int32.ofInt (x0)), .int (Int32.ofInt (x1)), .int (Int32.ofInt (x2)), .int (Int32.ofInt (x3 + 1)), .int (Int32.ofInt (x4))] [] τ Q)
    : Ok 181 11 55 [.ref 93, .int (Int32.ofInt (x0)), .int (Int32.ofInt (x1)), .int (Int32.ofInt (x2)), .int (Int32.ofInt (x3)), .int (Int32.ofInt (x4))] [] σ Q := by
  refine an_seg (B := pm_B) (F := []) (T := []) (S := []) (fun _ h => absurd h List.not_mem_nil) (k := 181) (d := 10) (cs := [59]) 6 55 5 [(0, 0, 400), (1, 0, 400), (2, 0, 14), (3, 0, 78), (4, 0, 79)] [] [(2, 93, 0), (0, 0, 0), (0, 1, 0), (0, 2, 0), (0, 3, 0), (0, 4, 0)] [] [(59, [(2, 93, 0), (0, 0, 0), (0, 1, 0), (0, 2, 0), (0, 3, 1), (0, 4, 0)], [], [(0, 0, 400), (1, 0, 400), (2, 0, 14), (3, 0, 78), (4, 0, 79)], [], [], [])] (by decide +kernel) (ρ0 := (fun s => [x0, x1, x2, x3, x4].getD s 0)) hB eF trivial ⟨rfl, ⟨rfl, ⟨rfl, ⟨rfl, ⟨rfl, ⟨rfl, trivial⟩⟩⟩⟩⟩⟩ trivial ?_
  refine List.forall_mem_cons.mpr ⟨?_, fun _ h => absurd h List.not_mem_nil⟩
  · intro ρ τ Lc stc hx g1 g2 g3 g4 g5 g6 g7 g8
    have e0 : ρ 0 = x0 := hx 0 (by decide)
    have e1 : ρ 1 = x1 := hx 1 (by decide)
    have e2 : ρ 2 = x2 := hx 2 (by decide)
    have e3 : ρ 3 = x3 := hx 3 (by decide)
    have e4 : ρ 4 = x4 := hx 4 (by decide)
    subst e0
    subst e1
    subst e2
    subst e3
    subst e4
    have g7 := g7 (by decide)
    match Lc, stc, g7, g8 with
    | [v0, v1, v2, v3, v4, v5], [], ⟨hv0, hv1, hv2, hv3, hv4, hv5, _⟩, _ =>
      cases hv0
      cases hv1
      cases hv2
      cases hv3
      cases hv4
      cases hv5
      exact l0 τ ρ  g1 g2 g3 g4 g5 g6
set_option maxRecDepth 100000 in
theorem sg_wd59 {σ : pm_S} {Q : Option Value → pm_S → Prop} (x0 x1 x2 x3 : Int) (v5 : Value) (hv5 : v5.category = 1) (hB : an_GB pm_B σ) (eF : (0 ≤ x0 ∧ x0 ≤ 400) ∧ (0 ≤ x1 ∧ x1 ≤ 400) ∧ ((-1) ≤ x2 ∧ x2 ≤ 14) ∧ (0 ≤ x3 ∧ x3 ≤ 79) ∧ True)
    (l0 : ∀ (τ : pm_S) (y : Nat → Int) (v5 : Value), v5.category = 1 → an_GB pm_B τ → FQ [] σ τ → ((0 ≤ x0 ∧ x0 ≤ 400) ∧ (0 ≤ x1 ∧ x1 ≤ 400) ∧ ((-1) ≤ x2 ∧ x2 ≤ 14) ∧ (0 ≤ x3 ∧ x3 ≤ 79) ∧ True) → (True) → (True) → (True) → Ok 181 11 62 [.ref 93, .int (Int32.ofInt (x0)), .int (Int32.ofInt (x1)), .int (Int32.ofInt (x2)), .int (Int32.ofInt (x3)), v5] [.int (Int32.ofInt (x3)), .ref 115] τ Q)
    : Ok 181 11 59 [.ref 93, .int (Int32.ofInt (x0)), .int (Int32.ofInt (x1)), .int (Int32.ofInt (x2)), .int (Int32.ofInt (x3)), v5] [] σ Q := by
  refine an_seg (B := pm_B) (F := []) (T := []) (S := []) (fun _ h => absurd h List.not_mem_nil) (k := 181) (d := 10) (cs := [62]) 5 59 4 [(0, 0, 400), (1, 0, 400), (2, (-1), 14), (3, 0, 79)] [] [(2, 93, 0), (0, 0, 0), (0, 1, 0), (0, 2, 0), (0, 3, 0), (5, 0, 0)] [] [(62, [(2, 93, 0), (0, 0, 0), (0, 1, 0), (0, 2, 0), (0, 3, 0), (5, 0, 0)], [(0, 3, 0), (2, 115, 0)], [(0, 0, 400), (1, 0, 400), (2, (-1), 14), (3, 0, 79)], [], [], [])] (by decide +kernel) (ρ0 := (fun s => [x0, x1, x2, x3].getD s 0)) hB eF trivial ⟨rfl, ⟨rfl, ⟨rfl, ⟨rfl, ⟨rfl, ⟨hv5, trivial⟩⟩⟩⟩⟩⟩ trivial ?_
  refine List.forall_mem_cons.mpr ⟨?_, fun _ h => absurd h List.not_mem_nil⟩
  · intro ρ τ Lc stc hx g1 g2 g3 g4 g5 g6 g7 g8
    have e0 : ρ 0 = x0 := hx 0 (by decide)
    have e1 : ρ 1 = x1 := hx 1 (by decide)
    have e2 : ρ 2 = x2 := hx 2 (by decide)
    have e3 : ρ 3 = x3 := hx 3 (by decide)
    subst e0
    subst e1
    subst e2
    subst e3
    have g7 := g7 (by decide)
    match Lc, stc, g7, g8 with
    | [v0, v1, v2, v3, v4, v5], [w0, w1], ⟨hv0, hv1, hv2, hv3, hv4, hv5, _⟩, ⟨hw0, hw1, _⟩ =>
      cases hv0
      cases hv1
      cases hv2
      cases hv3
      cases hv4
      cases hw0
      cases hw1
      exact l0 τ ρ v5 hv5 g1 g2 g3 g4 g5 g6
set_option maxRecDepth 100000 in
theorem sg_wd63 {σ : pm_S} {Q : Option Value → pm_S → Prop} (x0 x1 x2 x3 x4 : Int) (v5 : Value) (hv5 : v5.category = 1) (hB : an_GB pm_B σ) (eF : (0 ≤ x0 ∧ x0 ≤ 400) ∧ (0 ≤ x1 ∧ x1 ≤ 400) ∧ ((-1) ≤ x2 ∧ x2 ≤ 14) ∧ (0 ≤ x3 ∧ x3 ≤ 79) ∧ ((-2147483648) ≤ x4 ∧ x4 ≤ 2147483647) ∧ True)
    (l0 : ∀ (τ : pm_S) (y : Nat → Int) (v5 : Value), v5.category = 1 → an_GB pm_B τ → FQ [] σ τ → ((0 ≤ x0 ∧ x0 ≤ 400) ∧ (0 ≤ x1 ∧ x1 ≤ 400) ∧ ((-1) ≤ x2 ∧ x2 ≤ 14) ∧ (0 ≤ x3 ∧ x3 ≤ 79) ∧ (32 ≤ x4 ∧ x4 ≤ 32) ∧ True) → (True) → (True) → (True) → Ok 181 11 4 [.ref 93, .int (Int32.ofInt (x0)), .int (Int32.ofInt (x1)), .int (Int32.ofInt (x2)), .int (Int32.ofInt (x3)), v5] [] τ Q)
    (l1 : ∀ (τ : pm_S) (y : Nat → Int) (v5 : Value), v5.category = 1 → an_GB pm_B τ → FQ [] σ τ → ((0 ≤ x0 ∧ x0 ≤ 400) ∧ (0 ≤ x1 ∧ x1 ≤ 400) ∧ ((-1) ≤ x2 ∧ x2 ≤ 14) ∧ (0 ≤ x3 ∧ x3 ≤ 79) ∧ ((-2147483648) ≤ x4 ∧ x4 ≤ 2147483647) ∧ True) → (x4 ≠ 32 ∧ True) → (True) → (True) → Ok 181 11 59 [.ref 93, .int (Int32.ofInt (x0)), .int (Int32.ofInt (x1)), .int (Int32.ofInt (x2)), .int (Int32.ofInt (x3 + 1)), v5] [] τ Q)
    : Ok 181 11 63 [.ref 93, .int (Int32.ofInt (x0)), .int (Int32.ofInt (x1)), .int (Int32.ofInt (x2)), .int (Int32.ofInt (x3)), v5] [.int (Int32.ofInt (x4))] σ Q := by
  refine an_seg (B := pm_B) (F := []) (T := []) (S := []) (fun _ h => absurd h List.not_mem_nil) (k := 181) (d := 10) (cs := [4, 59]) 9 63 5 [(0, 0, 400), (1, 0, 400), (2, (-1), 14), (3, 0, 79), (4, (-2147483648), 2147483647)] [] [(2, 93, 0), (0, 0, 0), (0, 1, 0), (0, 2, 0), (0, 3, 0), (5, 0, 0)] [(0, 4, 0)] [(4, [(2, 93, 0), (0, 0, 0), (0, 1, 0), (0, 2, 0), (0, 3, 0), (5, 0, 0)], [], [(0, 0, 400), (1, 0, 400), (2, (-1), 14), (3, 0, 79), (4, 32, 32)], [], [], []),
    (59, [(2, 93, 0), (0, 0, 0), (0, 1, 0), (0, 2, 0), (0, 3, 1), (5, 0, 0)], [], [(0, 0, 400), (1, 0, 400), (2, (-1), 14), (3, 0, 79), (4, (-2147483648), 2147483647)], [(3, 4, 4, 32)], [], [])] (by decide +kernel) (ρ0 := (fun s => [x0, x1, x2, x3, x4].getD s 0)) hB eF trivial ⟨rfl, ⟨rfl, ⟨rfl, ⟨rfl, ⟨rfl, ⟨hv5, trivial⟩⟩⟩⟩⟩⟩ ⟨rfl, trivial⟩ ?_
  refine List.forall_mem_cons.mpr ⟨?_, List.forall_mem_cons.mpr ⟨?_, fun _ h => absurd h List.not_mem_nil⟩⟩
  · intro ρ τ Lc stc hx g1 g2 g3 g4 g5 g6 g7 g8
    have e0 : ρ 0 = x0 := hx 0 (by decide)
    have e1 : ρ 1 = x1 := hx 1 (by decide)
    have e2 : ρ 2 = x2 := hx 2 (by decide)
    have e3 : ρ 3 = x3 := hx 3 (by decide)
    have e4 : ρ 4 = x4 := hx 4 (by decide)
    subst e0
    subst e1
    subst e2
    subst e3
    subst e4
    have g7 := g7 (by decide)
    match Lc, stc, g7, g8 with
    | [v0, v1, v2, v3, v4, v5], [], ⟨hv0, hv1, hv2, hv3, hv4, hv5, _⟩, _ =>
      cases hv0
      cases hv1
      cases hv2
      cases hv3
      cases hv4
      exact l0 τ ρ v5 hv5 g1 g2 g3 g4 g5 g6
  · intro ρ τ Lc stc hx g1 g2 g3 g4 g5 g6 g7 g8
    have e0 : ρ 0 = x0 := hx 0 (by decide)
    have e1 : ρ 1 = x1 := hx 1 (by decide)
    have e2 : ρ 2 = x2 := hx 2 (by decide)
    have e3 : ρ 3 = x3 := hx 3 (by decide)
    have e4 : ρ 4 = x4 := hx 4 (by decide)
    subst e0
    subst e1
    subst e2
    subst e3
    subst e4
    have g7 := g7 (by decide)
    match Lc, stc, g7, g8 with
    | [v0, v1, v2, v3, v4, v5], [], ⟨hv0, hv1, hv2, hv3, hv4, hv5, _⟩, _ =>
      cases hv0
      cases hv1
      cases hv2
      cases hv3
      cases hv4
      exact l1 τ ρ v5 hv5 g1 g2 g3 g4 g5 g6
set_option maxRecDepth 100000 in
theorem sg_rd0 {σ : pm_S} {Q : Option Value → pm_S → Prop} (x0 : Int) (v1 : Value) (hv1 : v1.category = 1) (hB : an_GB pm_B σ) (eF : (0 ≤ x0 ∧ x0 ≤ 400) ∧ True) (eC : (σ.1 93 31).toInt = x0 ∧ True)
    (l0 : ∀ (τ : pm_S) (y : Nat → Int) (v1 : Value), v1.category = 1 → an_GB pm_B τ → FQ [(93, 31), (93, 32), (93, 33), (93, 34)] σ τ → ((0 ≤ x0 ∧ x0 ≤ 400) ∧ True) → (True) → (True) → ((τ.1 93 31).toInt = x0 ∧ True) → Ok 182 41 19 [.ref 93, v1] [] τ Q)
    (l1 : ∀ (τ : pm_S) (y : Nat → Int) (v1 : Value), v1.category = 1 → an_GB pm_B τ → FQ [(93, 31), (93, 32), (93, 33), (93, 34)] σ τ → ((0 ≤ x0 ∧ x0 ≤ 399) ∧ True) → (True) → (True) → ((τ.1 93 31).toInt = x0 + 1 ∧ True) → Ok 182 41 0 [.ref 93, v1] [] τ Q)
    : Ok 182 41 0 [.ref 93, v1] [] σ Q := by
  refine an_seg (B := pm_B) (F := [(93, 31), (93, 32), (93, 33), (93, 34)]) (T := []) (S := []) (fun _ h => absurd h List.not_mem_nil) (k := 182) (d := 40) (cs := [0, 19]) 41 0 1 [(0, 0, 400)] [(93, (1, 0, 31), (0, 0, 0))] [(2, 93, 0), (5, 0, 0)] [] [(19, [(2, 93, 0), (5, 0, 0)], [], [(0, 0, 400)], [], [], [(93, (1, 0, 31), (0, 0, 0))]),
    (0, [(2, 93, 0), (5, 0, 0)], [], [(0, 0, 399)], [], [], [(93, (1, 0, 31), (0, 0, 1))])] (by decide +kernel) (ρ0 := (fun s => [x0].getD s 0)) hB eF eC ⟨rfl, ⟨hv1, trivial⟩⟩ trivial ?_
  refine List.forall_mem_cons.mpr ⟨?_, List.forall_mem_cons.mpr ⟨?_, fun _ h => absurd h List.not_mem_nil⟩⟩
  · intro ρ τ Lc stc hx g1 g2 g3 g4 g5 g6 g7 g8
    have e0 : ρ 0 = x0 := hx 0 (by decide)
    subst e0
    have g7 := g7 (by decide)
    match Lc, stc, g7, g8 with
    | [v0, v1], [], ⟨hv0, hv1, _⟩, _ =>
      cases hv0
      exact l0 τ ρ v1 hv1 g1 g2 g3 g4 g5 g6
  · intro ρ τ Lc stc hx g1 g2 g3 g4 g5 g6 g7 g8
    have e0 : ρ 0 = x0 := hx 0 (by decide)
    subst e0
    have g7 := g7 (by decide)
    match Lc, stc, g7, g8 with
    | [v0, v1], [], ⟨hv0, hv1, _⟩, _ =>
      cases hv0
      exact l1 τ ρ v1 hv1 g1 g2 g3 g4 g5 g6
set_option maxRecDepth 100000 in
theorem sg_rd19 {σ : pm_S} {Q : Option Value → pm_S → Prop} (x0 : Int) (v1 : Value) (hv1 : v1.category = 1) (hB : an_GB pm_B σ) (eF : (0 ≤ x0 ∧ x0 ≤ 400) ∧ True) (eC : (σ.1 93 31).toInt = x0 ∧ True)
    (l0 : ∀ (τ : pm_S) (y : Nat → Int), an_GB pm_B τ → FQ [(93, 31), (93, 32), (93, 33), (93, 34)] σ τ → ((0 ≤ x0 ∧ x0 ≤ 400) ∧ True) → (True) → (True) → ((τ.1 93 31).toInt = x0 ∧ (τ.1 93 32).toInt = x0 ∧ (τ.1 93 33).toInt = 0 ∧ True) → Q none τ)
    (l1 : ∀ (τ : pm_S) (y : Nat → Int), an_GB pm_B τ → FQ [(93, 31), (93, 32), (93, 33), (93, 34)] σ τ → ((0 ≤ x0 ∧ x0 ≤ 399) ∧ (40 ≤ y 2 ∧ y 2 ≤ 62) ∧ True) → (y 2 ≠ (-1) ∧ True) → (True) → ((τ.1 93 31).toInt = x0 + 1 ∧ (τ.1 93 32).toInt = x0 ∧ (τ.1 93 33).toInt = 4 ∧ (τ.1 93 34).toInt = y 2 ∧ True) → Q none τ)
    (l2 : ∀ (τ : pm_S) (y : Nat → Int), an_GB pm_B τ → FQ [(93, 31), (93, 32), (93, 33), (93, 34)] σ τ → ((0 ≤ x0 ∧ x0 ≤ 399) ∧ (0 ≤ y 2 ∧ y 2 ≤ 255) ∧ True) → (y 2 ≠ 62 ∧ y 2 ≠ 61 ∧ y 2 ≠ 60 ∧ y 2 ≠ 41 ∧ y 2 ≠ 40 ∧ y 2 ≠ 42 ∧ y 2 ≠ 45 ∧ y 2 ≠ 43 ∧ y 2 ≠ 59 ∧ y 2 ≠ (-1) ∧ True) → (True) → ((τ.1 93 31).toInt = x0 + 1 ∧ (τ.1 93 32).toInt = x0 ∧ (τ.1 93 33).toInt = 1 ∧ (τ.1 93 34).toInt = y 2 ∧ True) → Q none τ)
    (l3 : ∀ (τ : pm_S) (y : Nat → Int), an_GB pm_B τ → FQ [(93, 31), (93, 32), (93, 33), (93, 34)] σ τ → ((0 ≤ x0 ∧ x0 ≤ 399) ∧ (48 ≤ y 2 ∧ y 2 ≤ 57) ∧ True) → (y 2 ≠ (-1) ∧ True) → (True) → ((τ.1 93 31).toInt = x0 + 1 ∧ (τ.1 93 32).toInt = x0 ∧ (τ.1 93 33).toInt = 1 ∧ (τ.1 93 34).toInt = y 2 + (-48) ∧ True) → Ok 182 41 90 [.ref 93, .int (Int32.ofInt (y 2))] [] τ Q)
    (l4 : ∀ (τ : pm_S) (y : Nat → Int), an_GB pm_B τ → FQ [(93, 31), (93, 32), (93, 33), (93, 34)] σ τ → ((0 ≤ x0 ∧ x0 ≤ 399) ∧ (65 ≤ y 2 ∧ y 2 ≤ 122) ∧ True) → (y 2 ≠ (-1) ∧ True) → (True) → ((τ.1 93 31).toInt = x0 + 1 ∧ (τ.1 93 32).toInt = x0 ∧ (τ.1 93 33).toInt = 1 ∧ (τ.1 93 34).toInt = y 2 ∧ (τ.1 114 (x0).toNat).toInt = y 2 ∧ True) → Ok 182 41 51 [.ref 93, .int (Int32.ofInt (y 2))] [] τ Q)
    : Ok 182 41 19 [.ref 93, v1] [] σ Q := by
  refine an_seg (B := pm_B) (F := [(93, 31), (93, 32), (93, 33), (93, 34)]) (T := [114]) (S := []) (fun _ h => absurd h List.not_mem_nil) (k := 182) (d := 40) (cs := [51, 90]) 125 19 1 [(0, 0, 400)] [(93, (1, 0, 31), (0, 0, 0))] [(2, 93, 0), (5, 0, 0)] [] [(9999, [], [], [(0, 0, 400)], [], [], [(93, (1, 0, 31), (0, 0, 0)), (93, (1, 0, 32), (0, 0, 0)), (93, (1, 0, 33), (1, 0, 0))]),
    (9999, [], [], [(0, 0, 399), (2, 40, 62)], [(3, 2, 2, (-1))], [], [(93, (1, 0, 31), (0, 0, 1)), (93, (1, 0, 32), (0, 0, 0)), (93, (1, 0, 33), (1, 0, 4)), (93, (1, 0, 34), (0, 2, 0))]),
    (9999, [], [], [(0, 0, 399), (2, 0, 255)], [(3, 2, 2, 62), (3, 2, 2, 61), (3, 2, 2, 60), (3, 2, 2, 41), (3, 2, 2, 40), (3, 2, 2, 42), (3, 2, 2, 45), (3, 2, 2, 43), (3, 2, 2, 59), (3, 2, 2, (-1))], [], [(93, (1, 0, 31), (0, 0, 1)), (93, (1, 0, 32), (0, 0, 0)), (93, (1, 0, 33), (1, 0, 1)), (93, (1, 0, 34), (0, 2, 0))]),
    (90, [(2, 93, 0), (0, 2, 0)], [], [(0, 0, 399), (2, 48, 57)], [(3, 2, 2, (-1))], [], [(93, (1, 0, 31), (0, 0, 1)), (93, (1, 0, 32), (0, 0, 0)), (93, (1, 0, 33), (1, 0, 1)), (93, (1, 0, 34), (0, 2, (-48)))]),
    (51, [(2, 93, 0), (0, 2, 0)], [], [(0, 0, 399), (2, 65, 122)], [(3, 2, 2, (-1))], [], [(93, (1, 0, 31), (0, 0, 1)), (93, (1, 0, 32), (0, 0, 0)), (93, (1, 0, 33), (1, 0, 1)), (93, (1, 0, 34), (0, 2, 0)), (114, (0, 0, 0), (0, 2, 0))])] (by decide +kernel) (ρ0 := (fun s => [x0].getD s 0)) hB eF eC ⟨rfl, ⟨hv1, trivial⟩⟩ trivial ?_
  refine List.forall_mem_cons.mpr ⟨?_, List.forall_mem_cons.mpr ⟨?_, List.forall_mem_cons.mpr ⟨?_, List.forall_mem_cons.mpr ⟨?_, List.forall_mem_cons.mpr ⟨?_, fun _ h => absurd h List.not_mem_nil⟩⟩⟩⟩⟩
  · intro ρ τ Lc stc hx g1 g2 g3 g4 g5 g6 g7 g8
    have e0 : ρ 0 = x0 := hx 0 (by decide)
    subst e0
    match stc, g8 with
    | [], _ => exact l0 τ ρ g1 g2 g3 g4 g5 g6
  · intro ρ τ Lc stc hx g1 g2 g3 g4 g5 g6 g7 g8
    have e0 : ρ 0 = x0 := hx 0 (by decide)
    subst e0
    match stc, g8 with
    | [], _ => exact l1 τ ρ g1 g2 g3 g4 g5 g6
  · intro ρ τ Lc stc hx g1 g2 g3 g4 g5 g6 g7 g8
    have e0 : ρ 0 = x0 := hx 0 (by decide)
    subst e0
    match stc, g8 with
    | [], _ => exact l2 τ ρ g1 g2 g3 g4 g5 g6
  · intro ρ τ Lc stc hx g1 g2 g3 g4 g5 g6 g7 g8
    have e0 : ρ 0 = x0 := hx 0 (by decide)
    subst e0
    have g7 := g7 (by decide)
    match Lc, stc, g7, g8 with
    | [v0, v1], [], ⟨hv0, hv1, _⟩, _ =>
      cases hv0
      cases hv1
      exact l3 τ ρ  g1 g2 g3 g4 g5 g6
  · intro ρ τ Lc stc hx g1 g2 g3 g4 g5 g6 g7 g8
    have e0 : ρ 0 = x0 := hx 0 (by decide)
    subst e0
    have g7 := g7 (by decide)
    match Lc, stc, g7, g8 with
    | [v0, v1], [], ⟨hv0, hv1, _⟩, _ =>
      cases hv0
      cases hv1
      exact l4 τ ρ  g1 g2 g3 g4 g5 g6
set_option maxRecDepth 100000 in
theorem sg_rd51 {σ : pm_S} {Q : Option Value → pm_S → Prop} (x0 x1 : Int) (v1 : Value) (hv1 : v1.category = 1) (hB : an_GB pm_B σ) (eF : (0 ≤ x0 ∧ x0 ≤ 400) ∧ (0 ≤ x1 ∧ x1 ≤ 400) ∧ True) (eC : (σ.1 93 31).toInt = x0 ∧ (σ.1 93 32).toInt = x1 ∧ (σ.1 93 33).toInt = 1 ∧ True)
    (l0 : ∀ (τ : pm_S) (y : Nat → Int) (v1 : Value), v1.category = 1 → an_GB pm_B τ → FQ [(93, 31), (93, 32), (93, 33), (93, 34)] σ τ → ((0 ≤ x0 ∧ x0 ≤ 400) ∧ (0 ≤ x1 ∧ x1 ≤ 400) ∧ True) → (True) → (True) → ((τ.1 93 31).toInt = x0 ∧ (τ.1 93 32).toInt = x1 ∧ (τ.1 93 33).toInt = 1 ∧ True) → Ok 182 41 71 [.ref 93, v1] [.int (Int32.ofInt (x0)), .int (Int32.ofInt (x1)), .ref 93, .ref 93] τ Q)
    (l1 : ∀ (τ : pm_S) (y : Nat → Int) (v1 : Value), v1.category = 1 → an_GB pm_B τ → FQ [(93, 31), (93, 32), (93, 33), (93, 34)] σ τ → ((0 ≤ x0 ∧ x0 ≤ 399) ∧ (0 ≤ x1 ∧ x1 ≤ 400) ∧ (65 ≤ y 3 ∧ y 3 ≤ 122) ∧ True) → (True) → (True) → ((τ.1 93 31).toInt = x0 + 1 ∧ (τ.1 93 32).toInt = x1 ∧ (τ.1 93 33).toInt = 1 ∧ (τ.1 114 (x0).toNat).toInt = y 3 ∧ True) → Ok 182 41 51 [.ref 93, v1] [] τ Q)
    : Ok 182 41 51 [.ref 93, v1] [] σ Q := by
  refine an_seg (B := pm_B) (F := [(93, 31), (93, 32), (93, 33), (93, 34)]) (T := [114]) (S := []) (fun _ h => absurd h List.not_mem_nil) (k := 182) (d := 40) (cs := [51, 71]) 55 51 2 [(0, 0, 400), (1, 0, 400)] [(93, (1, 0, 31), (0, 0, 0)), (93, (1, 0, 32), (0, 1, 0)), (93, (1, 0, 33), (1, 0, 1))] [(2, 93, 0), (5, 0, 0)] [] [(71, [(2, 93, 0), (5, 0, 0)], [(0, 0, 0), (0, 1, 0), (2, 93, 0), (2, 93, 0)], [(0, 0, 400), (1, 0, 400)], [], [], [(93, (1, 0, 31), (0, 0, 0)), (93, (1, 0, 32), (0, 1, 0)), (93, (1, 0, 33), (1, 0, 1))]),
    (51, [(2, 93, 0), (5, 0, 0)], [], [(0, 0, 399), (1, 0, 400), (3, 65, 122)], [], [], [(93, (1, 0, 31), (0, 0, 1)), (93, (1, 0, 32), (0, 1, 0)), (93, (1, 0, 33), (1, 0, 1)), (114, (0, 0, 0), (0, 3, 0))])] (by decide +kernel) (ρ0 := (fun s => [x0, x1].getD s 0)) hB eF eC ⟨rfl, ⟨hv1, trivial⟩⟩ trivial ?_
  refine List.forall_mem_cons.mpr ⟨?_, List.forall_mem_cons.mpr ⟨?_, fun _ h => absurd h List.not_mem_nil⟩⟩
  · intro ρ τ Lc stc hx g1 g2 g3 g4 g5 g6 g7 g8
    have e0 : ρ 0 = x0 := hx 0 (by decide)
    have e1 : ρ 1 = x1 := hx 1 (by decide)
    subst e0
    subst e1
    have g7 := g7 (by decide)
    match Lc, stc, g7, g8 with
    | [v0, v1], [w0, w1, w2, w3], ⟨hv0, hv1, _⟩, ⟨hw0, hw1, hw2, hw3, _⟩ =>
      cases hv0
      cases hw0
      cases hw1
      cases hw2
      cases hw3
      exact l0 τ ρ v1 hv1 g1 g2 g3 g4 g5 g6
  · intro ρ τ Lc stc hx g1 g2 g3 g4 g5 g6 g7 g8
    have e0 : ρ 0 = x0 := hx 0 (by decide)
    have e1 : ρ 1 = x1 := hx 1 (by decide)
    subst e0
    subst e1
    have g7 := g7 (by decide)
    match Lc, stc, g7, g8 with
    | [v0, v1], [], ⟨hv0, hv1, _⟩, _ =>
      cases hv0
      exact l1 τ ρ v1 hv1 g1 g2 g3 g4 g5 g6
set_option maxRecDepth 100000 in
theorem sg_rd72 {σ : pm_S} {Q : Option Value → pm_S → Prop} (x0 x1 x2 : Int) (v1 : Value) (hv1 : v1.category = 1) (hB : an_GB pm_B σ) (eF : (0 ≤ x0 ∧ x0 ≤ 400) ∧ (0 ≤ x1 ∧ x1 ≤ 400) ∧ ((-1) ≤ x2 ∧ x2 ≤ 14) ∧ True) (eC : (σ.1 93 31).toInt = x0 ∧ (σ.1 93 32).toInt = x1 ∧ (σ.1 93 33).toInt = 1 ∧ True)
    (l0 : ∀ (τ : pm_S) (y : Nat → Int), an_GB pm_B τ → FQ [(93, 31), (93, 32), (93, 33), (93, 34)] σ τ → ((0 ≤ x0 ∧ x0 ≤ 400) ∧ (0 ≤ x1 ∧ x1 ≤ 400) ∧ ((-1) ≤ x2 ∧ x2 ≤ (-1)) ∧ True) → (True) → (True) → ((τ.1 93 31).toInt = x0 ∧ (τ.1 93 32).toInt = x1 ∧ (τ.1 93 33).toInt = 1 ∧ (τ.1 93 34).toInt = x2 ∧ True) → Q none τ)
    (l1 : ∀ (τ : pm_S) (y : Nat → Int), an_GB pm_B τ → FQ [(93, 31), (93, 32), (93, 33), (93, 34)] σ τ → ((0 ≤ x0 ∧ x0 ≤ 400) ∧ (0 ≤ x1 ∧ x1 ≤ 400) ∧ (0 ≤ x2 ∧ x2 ≤ 14) ∧ True) → (True) → (True) → ((τ.1 93 31).toInt = x0 ∧ (τ.1 93 32).toInt = x1 ∧ (τ.1 93 33).toInt = 2 ∧ (τ.1 93 34).toInt = x2 ∧ True) → Q none τ)
    : Ok 182 41 72 [.ref 93, v1] [.int (Int32.ofInt (x2)), .ref 93] σ Q := by
  refine an_seg (B := pm_B) (F := [(93, 31), (93, 32), (93, 33), (93, 34)]) (T := []) (S := []) (fun _ h => absurd h List.not_mem_nil) (k := 182) (d := 40) (cs := []) 12 72 3 [(0, 0, 400), (1, 0, 400), (2, (-1), 14)] [(93, (1, 0, 31), (0, 0, 0)), (93, (1, 0, 32), (0, 1, 0)), (93, (1, 0, 33), (1, 0, 1))] [(2, 93, 0), (5, 0, 0)] [(0, 2, 0), (2, 93, 0)] [(9999, [], [], [(0, 0, 400), (1, 0, 400), (2, (-1), (-1))], [], [], [(93, (1, 0, 31), (0, 0, 0)), (93, (1, 0, 32), (0, 1, 0)), (93, (1, 0, 33), (1, 0, 1)), (93, (1, 0, 34), (0, 2, 0))]),
    (9999, [], [], [(0, 0, 400), (1, 0, 400), (2, 0, 14)], [], [], [(93, (1, 0, 31), (0, 0, 0)), (93, (1, 0, 32), (0, 1, 0)), (93, (1, 0, 33), (1, 0, 2)), (93, (1, 0, 34), (0, 2, 0))])] (by decide +kernel) (ρ0 := (fun s => [x0, x1, x2].getD s 0)) hB eF eC ⟨rfl, ⟨hv1, trivial⟩⟩ ⟨rfl, ⟨rfl, trivial⟩⟩ ?_
  refine List.forall_mem_cons.mpr ⟨?_, List.forall_mem_cons.mpr ⟨?_, fun _ h => absurd h List.not_mem_nil⟩⟩
  · intro ρ τ Lc stc hx g1 g2 g3 g4 g5 g6 g7 g8
    have e0 : ρ 0 = x0 := hx 0 (by decide)
    have e1 : ρ 1 = x1 := hx 1 (by decide)
    have e2 : ρ 2 = x2 := hx 2 (by decide)
    subst e0
    subst e1
    subst e2
    match stc, g8 with
    | [], _ => exact l0 τ ρ g1 g2 g3 g4 g5 g6
  · intro ρ τ Lc stc hx g1 g2 g3 g4 g5 g6 g7 g8
    have e0 : ρ 0 = x0 := hx 0 (by decide)
    have e1 : ρ 1 = x1 := hx 1 (by decide)
    have e2 : ρ 2 = x2 := hx 2 (by decide)
    subst e0
    subst e1
    subst e2
    match stc, g8 with
    | [], _ => exact l1 τ ρ g1 g2 g3 g4 g5 g6
set_option maxRecDepth 100000 in
theorem sg_rd90 {σ : pm_S} {Q : Option Value → pm_S → Prop} (x0 x1 : Int) (v1 : Value) (hv1 : v1.category = 1) (hB : an_GB pm_B σ) (eF : (0 ≤ x0 ∧ x0 ≤ 400) ∧ (0 ≤ x1 ∧ x1 ≤ 400) ∧ True) (eC : (σ.1 93 31).toInt = x0 ∧ (σ.1 93 32).toInt = x1 ∧ (σ.1 93 33).toInt = 1 ∧ True)
    (l0 : ∀ (τ : pm_S) (y : Nat → Int), an_GB pm_B τ → FQ [(93, 31), (93, 32), (93, 33), (93, 34)] σ τ → ((0 ≤ x0 ∧ x0 ≤ 400) ∧ (0 ≤ x1 ∧ x1 ≤ 400) ∧ True) → (True) → (True) → ((τ.1 93 31).toInt = x0 ∧ (τ.1 93 32).toInt = x1 ∧ (τ.1 93 33).toInt = 1 ∧ True) → Q none τ)
    (l1 : ∀ (τ : pm_S) (y : Nat → Int), an_GB pm_B τ → FQ [(93, 31), (93, 32), (93, 33), (93, 34)] σ τ → ((0 ≤ x0 ∧ x0 ≤ 400) ∧ (0 ≤ x1 ∧ x1 ≤ 400) ∧ True) → (True) → (True) → ((τ.1 93 31).toInt = x0 ∧ (τ.1 93 32).toInt = x1 ∧ (τ.1 93 33).toInt = 3 ∧ True) → Q none τ)
    (l2 : ∀ (τ : pm_S) (y : Nat → Int) (v1 : Value), v1.category = 1 → an_GB pm_B τ → FQ [(93, 31), (93, 32), (93, 33), (93, 34)] σ τ → ((0 ≤ x0 ∧ x0 ≤ 399) ∧ (0 ≤ x1 ∧ x1 ≤ 400) ∧ True) → (True) → (True) → ((τ.1 93 31).toInt = x0 + 1 ∧ (τ.1 93 32).toInt = x1 ∧ (τ.1 93 33).toInt = 1 ∧ True) → Ok 182 41 90 [.ref 93, v1] [] τ Q)
    : Ok 182 41 90 [.ref 93, v1] [] σ Q := by
  refine an_seg (B := pm_B) (F := [(93, 31), (93, 32), (93, 33), (93, 34)]) (T := []) (S := []) (fun _ h => absurd h List.not_mem_nil) (k := 182) (d := 40) (cs := [90]) 69 90 2 [(0, 0, 400), (1, 0, 400)] [(93, (1, 0, 31), (0, 0, 0)), (93, (1, 0, 32), (0, 1, 0)), (93, (1, 0, 33), (1, 0, 1))] [(2, 93, 0), (5, 0, 0)] [] [(9999, [], [], [(0, 0, 400), (1, 0, 400)], [], [], [(93, (1, 0, 31), (0, 0, 0)), (93, (1, 0, 32), (0, 1, 0)), (93, (1, 0, 33), (1, 0, 1))]),
    (9999, [], [], [(0, 0, 400), (1, 0, 400)], [], [], [(93, (1, 0, 31), (0, 0, 0)), (93, (1, 0, 32), (0, 1, 0)), (93, (1, 0, 33), (1, 0, 3))]),
    (90, [(2, 93, 0), (5, 0, 0)], [], [(0, 0, 399), (1, 0, 400)], [], [], [(93, (1, 0, 31), (0, 0, 1)), (93, (1, 0, 32), (0, 1, 0)), (93, (1, 0, 33), (1, 0, 1))])] (by decide +kernel) (ρ0 := (fun s => [x0, x1].getD s 0)) hB eF eC ⟨rfl, ⟨hv1, trivial⟩⟩ trivial ?_
  refine List.forall_mem_cons.mpr ⟨?_, List.forall_mem_cons.mpr ⟨?_, List.forall_mem_cons.mpr ⟨?_, fun _ h => absurd h List.not_mem_nil⟩⟩⟩
  · intro ρ τ Lc stc hx g1 g2 g3 g4 g5 g6 g7 g8
    have e0 : ρ 0 = x0 := hx 0 (by decide)
    have e1 : ρ 1 = x1 := hx 1 (by decide)
    subst e0
    subst e1
    match stc, g8 with
    | [], _ => exact l0 τ ρ g1 g2 g3 g4 g5 g6
  · intro ρ τ Lc stc hx g1 g2 g3 g4 g5 g6 g7 g8
    have e0 : ρ 0 = x0 := hx 0 (by decide)
    have e1 : ρ 1 = x1 := hx 1 (by decide)
    subst e0
    subst e1
    match stc, g8 with
    | [], _ => exact l1 τ ρ g1 g2 g3 g4 g5 g6
  · intro ρ τ Lc stc hx g1 g2 g3 g4 g5 g6 g7 g8
    have e0 : ρ 0 = x0 := hx 0 (by decide)
    have e1 : ρ 1 = x1 := hx 1 (by decide)
    subst e0
    subst e1
    have g7 := g7 (by decide)
    match Lc, stc, g7, g8 with
    | [v0, v1], [], ⟨hv0, hv1, _⟩, _ =>
      cases hv0
      exact l2 τ ρ v1 hv1 g1 g2 g3 g4 g5 g6
set_option maxRecDepth 100000 in
theorem sg_rU {σ : pm_S} {Q : Option Value → pm_S → Prop} (x0 x1 : Int) (v1 : Value) (hv1 : v1.category = 1) (hB : an_GB pm_B σ) (eF : (0 ≤ x0 ∧ x0 ≤ 4) ∧ ((-2147483648) ≤ x1 ∧ x1 ≤ 2147483647) ∧ True) (eC : (σ.1 93 33).toInt = x0 ∧ (σ.1 93 34).toInt = x1 ∧ True)
    (l0 : ∀ (τ : pm_S) (y : Nat → Int), an_GB pm_B τ → FQ [(93, 46), (93, 47)] σ τ → ((3 ≤ x0 ∧ x0 ≤ 3) ∧ ((-2147483648) ≤ x1 ∧ x1 ≤ 2147483647) ∧ True) → (x0 ≠ 2 ∧ True) → (True) → (True) → Ok 187 51 37 [.ref 93, .int (Int32.ofInt 0)] [.int (Int32.ofInt (x1)), .int (Int32.ofInt 0), .ref 93] τ Q)
    (l1 : ∀ (τ : pm_S) (y : Nat → Int), an_GB pm_B τ → FQ [(93, 46), (93, 47)] σ τ → ((0 ≤ x0 ∧ x0 ≤ 4) ∧ ((-2147483648) ≤ x1 ∧ x1 ≤ 2147483647) ∧ True) → (True) → (True) → (True) → Q (some (.int (Int32.ofInt (-1)))) τ)
    (l2 : ∀ (τ : pm_S) (y : Nat → Int), an_GB pm_B τ → FQ [(93, 46), (93, 47)] σ τ → ((2 ≤ x0 ∧ x0 ≤ 2) ∧ (6 ≤ x1 ∧ x1 ≤ 2147483647) ∧ True) → (True) → (True) → (True) → Ok 187 51 37 [.ref 93, .int (Int32.ofInt 1)] [.int (Int32.ofInt (x1 + (-6))), .int (Int32.ofInt 1), .ref 93] τ Q)
    : Ok 187 51 0 [.ref 93, v1] [] σ Q := by
  refine an_seg (B := pm_B) (F := [(93, 46), (93, 47)]) (T := []) (S := []) (fun _ h => absurd h List.not_mem_nil) (k := 187) (d := 50) (cs := [37]) 31 0 2 [(0, 0, 4), (1, (-2147483648), 2147483647)] [(93, (1, 0, 33), (0, 0, 0)), (93, (1, 0, 34), (0, 1, 0))] [(2, 93, 0), (5, 0, 0)] [] [(37, [(2, 93, 0), (1, 0, 0)], [(0, 1, 0), (1, 0, 0), (2, 93, 0)], [(0, 3, 3), (1, (-2147483648), 2147483647)], [(3, 0, 0, 2)], [], []),
    (9999, [], [(1, 0, (-1))], [(0, 0, 4), (1, (-2147483648), 2147483647)], [], [], []),
    (37, [(2, 93, 0), (1, 0, 1)], [(0, 1, (-6)), (1, 0, 1), (2, 93, 0)], [(0, 2, 2), (1, 6, 2147483647)], [], [], [])] (by decide +kernel) (ρ0 := (fun s => [x0, x1].getD s 0)) hB eF eC ⟨rfl, ⟨hv1, trivial⟩⟩ trivial ?_
  refine List.forall_mem_cons.mpr ⟨?_, List.forall_mem_cons.mpr ⟨?_, List.forall_mem_cons.mpr ⟨?_, fun _ h => absurd h List.not_mem_nil⟩⟩⟩
  · intro ρ τ Lc stc hx g1 g2 g3 g4 g5 g6 g7 g8
    have e0 : ρ 0 = x0 := hx 0 (by decide)
    have e1 : ρ 1 = x1 := hx 1 (by decide)
    subst e0
    subst e1
    have g7 := g7 (by decide)
    match Lc, stc, g7, g8 with
    | [v0, v1], [w0, w1, w2], ⟨hv0, hv1, _⟩, ⟨hw0, hw1, hw2, _⟩ =>
      cases hv0
      cases hv1
      cases hw0
      cases hw1
      cases hw2
      exact l0 τ ρ  g1 g2 g3 g4 g5 g6
  · intro ρ τ Lc stc hx g1 g2 g3 g4 g5 g6 g7 g8
    have e0 : ρ 0 = x0 := hx 0 (by decide)
    have e1 : ρ 1 = x1 := hx 1 (by decide)
    subst e0
    subst e1
    match stc, g8 with
    | [_], ⟨h, _⟩ => cases h; exact l1 τ ρ g1 g2 g3 g4 g5 g6
  · intro ρ τ Lc stc hx g1 g2 g3 g4 g5 g6 g7 g8
    have e0 : ρ 0 = x0 := hx 0 (by decide)
    have e1 : ρ 1 = x1 := hx 1 (by decide)
    subst e0
    subst e1
    have g7 := g7 (by decide)
    match Lc, stc, g7, g8 with
    | [v0, v1], [w0, w1, w2], ⟨hv0, hv1, _⟩, ⟨hw0, hw1, hw2, _⟩ =>
      cases hv0
      cases hv1
      cases hw0
      cases hw1
      cases hw2
      exact l2 τ ρ  g1 g2 g3 g4 g5 g6
set_option maxRecDepth 100000 in
theorem sg_rU2 {σ : pm_S} {Q : Option Value → pm_S → Prop} (v1 : Value) (hv1 : v1.category = 1) (hB : an_GB pm_B σ)
    (l0 : ∀ (τ : pm_S) (y : Nat → Int) (v1 : Value), v1.category = 1 → an_GB pm_B τ → FQ [] σ τ → (True) → (True) → (True) → (True) → Ok 187 51 39 [.ref 93, v1] [.ref 93] τ Q)
    : Ok 187 51 38 [.ref 93, v1] [] σ Q := by
  refine an_seg (B := pm_B) (F := []) (T := []) (S := []) (fun _ h => absurd h List.not_mem_nil) (k := 187) (d := 50) (cs := [39]) 3 38 0 [] [] [(2, 93, 0), (5, 0, 0)] [] [(39, [(2, 93, 0), (5, 0, 0)], [(2, 93, 0)], [], [], [], [])] (by decide +kernel) (ρ0 := (fun s => [].getD s 0)) hB trivial trivial ⟨rfl, ⟨hv1, trivial⟩⟩ trivial ?_
  refine List.forall_mem_cons.mpr ⟨?_, fun _ h => absurd h List.not_mem_nil⟩
  · intro ρ τ Lc stc hx g1 g2 g3 g4 g5 g6 g7 g8
    have g7 := g7 (by decide)
    match Lc, stc, g7, g8 with
    | [v0, v1], [w0], ⟨hv0, hv1, _⟩, ⟨hw0, _⟩ =>
      cases hv0
      cases hw0
      exact l0 τ ρ v1 hv1 g1 g2 g3 g4 g5 g6
set_option maxRecDepth 100000 in
theorem sg_rU3 {σ : pm_S} {Q : Option Value → pm_S → Prop} (v1 : Value) (hv1 : v1.category = 1) (hB : an_GB pm_B σ)
    (l0 : ∀ (τ : pm_S) (y : Nat → Int), an_GB pm_B τ → FQ [] σ τ → (True) → (True) → (True) → (True) → Q (some (.int (Int32.ofInt 0))) τ)
    : Ok 187 51 40 [.ref 93, v1] [] σ Q := by
  refine an_seg (B := pm_B) (F := []) (T := []) (S := []) (fun _ h => absurd h List.not_mem_nil) (k := 187) (d := 50) (cs := []) 4 40 0 [] [] [(2, 93, 0), (5, 0, 0)] [] [(9999, [], [(1, 0, 0)], [], [], [], [])] (by decide +kernel) (ρ0 := (fun s => [].getD s 0)) hB trivial trivial ⟨rfl, ⟨hv1, trivial⟩⟩ trivial ?_
  refine List.forall_mem_cons.mpr ⟨?_, fun _ h => absurd h List.not_mem_nil⟩
  · intro ρ τ Lc stc hx g1 g2 g3 g4 g5 g6 g7 g8
    match stc, g8 with
    | [_], ⟨h, _⟩ => cases h; exact l0 τ ρ g1 g2 g3 g4 g5 g6
set_option maxRecDepth 100000 in
theorem sg_rP0 {σ : pm_S} {Q : Option Value → pm_S → Prop} (v1 : Value) (hv1 : v1.category = 1) (hB : an_GB pm_B σ)
    (l0 : ∀ (τ : pm_S) (y : Nat → Int) (v1 : Value), v1.category = 1 → an_GB pm_B τ → FQ [] σ τ → (True) → (True) → (True) → (True) → Ok 188 61 1 [.ref 93, v1] [.ref 93] τ Q)
    : Ok 188 61 0 [.ref 93, v1] [] σ Q := by
  refine an_seg (B := pm_B) (F := []) (T := []) (S := []) (fun _ h => absurd h List.not_mem_nil) (k := 188) (d := 60) (cs := [1]) 3 0 0 [] [] [(2, 93, 0), (5, 0, 0)] [] [(1, [(2, 93, 0), (5, 0, 0)], [(2, 93, 0)], [], [], [], [])] (by decide +kernel) (ρ0 := (fun s => [].getD s 0)) hB trivial trivial ⟨rfl, ⟨hv1, trivial⟩⟩ trivial ?_
  refine List.forall_mem_cons.mpr ⟨?_, fun _ h => absurd h List.not_mem_nil⟩
  · intro ρ τ Lc stc hx g1 g2 g3 g4 g5 g6 g7 g8
    have g7 := g7 (by decide)
    match Lc, stc, g7, g8 with
    | [v0, v1], [w0], ⟨hv0, hv1, _⟩, ⟨hw0, _⟩ =>
      cases hv0
      cases hw0
      exact l0 τ ρ v1 hv1 g1 g2 g3 g4 g5 g6
set_option maxRecDepth 100000 in
theorem sg_rP2 {σ : pm_S} {Q : Option Value → pm_S → Prop} (x0 : Int) (v1 : Value) (hv1 : v1.category = 1) (hB : an_GB pm_B σ) (eF : ((-1) ≤ x0 ∧ x0 ≤ 0) ∧ True)
    (l0 : ∀ (τ : pm_S) (y : Nat → Int) (v1 : Value), v1.category = 1 → an_GB pm_B τ → FQ [] σ τ → ((0 ≤ x0 ∧ x0 ≤ 0) ∧ True) → (True) → (True) → (True) → Ok 188 61 6 [.ref 93, v1] [] τ Q)
    (l1 : ∀ (τ : pm_S) (y : Nat → Int), an_GB pm_B τ → FQ [] σ τ → (((-1) ≤ x0 ∧ x0 ≤ (-1)) ∧ True) → (True) → (True) → (True) → Q (some (.int (Int32.ofInt (-1)))) τ)
    : Ok 188 61 2 [.ref 93, v1] [.int (Int32.ofInt (x0))] σ Q := by
  refine an_seg (B := pm_B) (F := []) (T := []) (S := []) (fun _ h => absurd h List.not_mem_nil) (k := 188) (d := 60) (cs := [6]) 6 2 1 [(0, (-1), 0)] [] [(2, 93, 0), (5, 0, 0)] [(0, 0, 0)] [(6, [(2, 93, 0), (5, 0, 0)], [], [(0, 0, 0)], [], [], []),
    (9999, [], [(1, 0, (-1))], [(0, (-1), (-1))], [], [], [])] (by decide +kernel) (ρ0 := (fun s => [x0].getD s 0)) hB eF trivial ⟨rfl, ⟨hv1, trivial⟩⟩ ⟨rfl, trivial⟩ ?_
  refine List.forall_mem_cons.mpr ⟨?_, List.forall_mem_cons.mpr ⟨?_, fun _ h => absurd h List.not_mem_nil⟩⟩
  · intro ρ τ Lc stc hx g1 g2 g3 g4 g5 g6 g7 g8
    have e0 : ρ 0 = x0 := hx 0 (by decide)
    subst e0
    have g7 := g7 (by decide)
    match Lc, stc, g7, g8 with
    | [v0, v1], [], ⟨hv0, hv1, _⟩, _ =>
      cases hv0
      exact l0 τ ρ v1 hv1 g1 g2 g3 g4 g5 g6
  · intro ρ τ Lc stc hx g1 g2 g3 g4 g5 g6 g7 g8
    have e0 : ρ 0 = x0 := hx 0 (by decide)
    subst e0
    match stc, g8 with
    | [_], ⟨h, _⟩ => cases h; exact l1 τ ρ g1 g2 g3 g4 g5 g6
set_option maxRecDepth 100000 in
theorem sg_rP6 {σ : pm_S} {Q : Option Value → pm_S → Prop} (x0 x1 : Int) (v1 : Value) (hv1 : v1.category = 1) (hB : an_GB pm_B σ) (eF : (0 ≤ x0 ∧ x0 ≤ 4) ∧ ((-2147483648) ≤ x1 ∧ x1 ≤ 2147483647) ∧ True) (eC : (σ.1 93 33).toInt = x0 ∧ (σ.1 93 34).toInt = x1 ∧ True)
    (l0 : ∀ (τ : pm_S) (y : Nat → Int), an_GB pm_B τ → FQ [] σ τ → ((0 ≤ x0 ∧ x0 ≤ 4) ∧ ((-2147483648) ≤ x1 ∧ x1 ≤ 2147483647) ∧ True) → (True) → (True) → (True) → Q (some (.int (Int32.ofInt 0))) τ)
    (l1 : ∀ (τ : pm_S) (y : Nat → Int), an_GB pm_B τ → FQ [] σ τ → ((4 ≤ x0 ∧ x0 ≤ 4) ∧ (47 ≤ x1 ∧ x1 ≤ 47) ∧ True) → (x1 ≠ 42 ∧ True) → (True) → (True) → Ok 188 61 19 [.ref 93, .int (Int32.ofInt 0)] [.ref 93] τ Q)
    (l2 : ∀ (τ : pm_S) (y : Nat → Int), an_GB pm_B τ → FQ [] σ τ → ((4 ≤ x0 ∧ x0 ≤ 4) ∧ (42 ≤ x1 ∧ x1 ≤ 42) ∧ True) → (True) → (True) → (True) → Ok 188 61 19 [.ref 93, .int (Int32.ofInt 1)] [.ref 93] τ Q)
    : Ok 188 61 6 [.ref 93, v1] [] σ Q := by
  refine an_seg (B := pm_B) (F := []) (T := []) (S := []) (fun _ h => absurd h List.not_mem_nil) (k := 188) (d := 60) (cs := [19]) 46 6 2 [(0, 0, 4), (1, (-2147483648), 2147483647)] [(93, (1, 0, 33), (0, 0, 0)), (93, (1, 0, 34), (0, 1, 0))] [(2, 93, 0), (5, 0, 0)] [] [(9999, [], [(1, 0, 0)], [(0, 0, 4), (1, (-2147483648), 2147483647)], [], [], []),
    (19, [(2, 93, 0), (1, 0, 0)], [(2, 93, 0)], [(0, 4, 4), (1, 47, 47)], [(3, 1, 1, 42)], [], []),
    (19, [(2, 93, 0), (1, 0, 1)], [(2, 93, 0)], [(0, 4, 4), (1, 42, 42)], [], [], [])] (by decide +kernel) (ρ0 := (fun s => [x0, x1].getD s 0)) hB eF eC ⟨rfl, ⟨hv1, trivial⟩⟩ trivial ?_
  refine List.forall_mem_cons.mpr ⟨?_, List.forall_mem_cons.mpr ⟨?_, List.forall_mem_cons.mpr ⟨?_, fun _ h => absurd h List.not_mem_nil⟩⟩⟩
  · intro ρ τ Lc stc hx g1 g2 g3 g4 g5 g6 g7 g8
    have e0 : ρ 0 = x0 := hx 0 (by decide)
    have e1 : ρ 1 = x1 := hx 1 (by decide)
    subst e0
    subst e1
    match stc, g8 with
    | [_], ⟨h, _⟩ => cases h; exact l0 τ ρ g1 g2 g3 g4 g5 g6
  · intro ρ τ Lc stc hx g1 g2 g3 g4 g5 g6 g7 g8
    have e0 : ρ 0 = x0 := hx 0 (by decide)
    have e1 : ρ 1 = x1 := hx 1 (by decide)
    subst e0
    subst e1
    have g7 := g7 (by decide)
    match Lc, stc, g7, g8 with
    | [v0, v1], [w0], ⟨hv0, hv1, _⟩, ⟨hw0, _⟩ =>
      cases hv0
      cases hv1
      cases hw0
      exact l1 τ ρ  g1 g2 g3 g4 g5 g6
  · intro ρ τ Lc stc hx g1 g2 g3 g4 g5 g6 g7 g8
    have e0 : ρ 0 = x0 := hx 0 (by decide)
    have e1 : ρ 1 = x1 := hx 1 (by decide)
    subst e0
    subst e1
    have g7 := g7 (by decide)
    match Lc, stc, g7, g8 with
    | [v0, v1], [w0], ⟨hv0, hv1, _⟩, ⟨hw0, _⟩ =>
      cases hv0
      cases hv1
      cases hw0
      exact l2 τ ρ  g1 g2 g3 g4 g5 g6
set_option maxRecDepth 100000 in
theorem sg_rP20d {σ : pm_S} {Q : Option Value → pm_S → Prop} (x0 x1 : Int)  (hB : an_GB pm_B σ) (eF : (0 ≤ x0 ∧ x0 ≤ 4) ∧ ((-2147483648) ≤ x1 ∧ x1 ≤ 2147483647) ∧ True) (eC : (σ.1 93 33).toInt = x0 ∧ (σ.1 93 34).toInt = x1 ∧ True)
    (l0 : ∀ (τ : pm_S) (y : Nat → Int), an_GB pm_B τ → FQ [(93, 46), (93, 47)] σ τ → ((3 ≤ x0 ∧ x0 ≤ 3) ∧ ((-2147483648) ≤ x1 ∧ x1 ≤ 2147483647) ∧ True) → (x1 ≠ 0 ∧ True) → (True) → (True) → Ok 188 61 40 [.ref 93, .int (Int32.ofInt 0)] [.ref 93] τ Q)
    (l1 : ∀ (τ : pm_S) (y : Nat → Int), an_GB pm_B τ → FQ [(93, 46), (93, 47)] σ τ → ((0 ≤ x0 ∧ x0 ≤ 4) ∧ ((-2147483648) ≤ x1 ∧ x1 ≤ 2147483647) ∧ True) → (True) → (True) → (True) → Q (some (.int (Int32.ofInt (-1)))) τ)
    : Ok 188 61 20 [.ref 93, .int (Int32.ofInt 0)] [] σ Q := by
  refine an_seg (B := pm_B) (F := [(93, 46), (93, 47)]) (T := []) (S := []) (fun _ h => absurd h List.not_mem_nil) (k := 188) (d := 60) (cs := [40]) 26 20 2 [(0, 0, 4), (1, (-2147483648), 2147483647)] [(93, (1, 0, 33), (0, 0, 0)), (93, (1, 0, 34), (0, 1, 0))] [(2, 93, 0), (1, 0, 0)] [] [(40, [(2, 93, 0), (1, 0, 0)], [(2, 93, 0)], [(0, 3, 3), (1, (-2147483648), 2147483647)], [(3, 1, 1, 0)], [], []),
    (9999, [], [(1, 0, (-1))], [(0, 0, 4), (1, (-2147483648), 2147483647)], [], [], [])] (by decide +kernel) (ρ0 := (fun s => [x0, x1].getD s 0)) hB eF eC ⟨rfl, ⟨rfl, trivial⟩⟩ trivial ?_
  refine List.forall_mem_cons.mpr ⟨?_, List.forall_mem_cons.mpr ⟨?_, fun _ h => absurd h List.not_mem_nil⟩⟩
  · intro ρ τ Lc stc hx g1 g2 g3 g4 g5 g6 g7 g8
    have e0 : ρ 0 = x0 := hx 0 (by decide)
    have e1 : ρ 1 = x1 := hx 1 (by decide)
    subst e0
    subst e1
    have g7 := g7 (by decide)
    match Lc, stc, g7, g8 with
    | [v0, v1], [w0], ⟨hv0, hv1, _⟩, ⟨hw0, _⟩ =>
      cases hv0
      cases hv1
      cases hw0
      exact l0 τ ρ  g1 g2 g3 g4 g5 g6
  · intro ρ τ Lc stc hx g1 g2 g3 g4 g5 g6 g7 g8
    have e0 : ρ 0 = x0 := hx 0 (by decide)
    have e1 : ρ 1 = x1 := hx 1 (by decide)
    subst e0
    subst e1
    match stc, g8 with
    | [_], ⟨h, _⟩ => cases h; exact l1 τ ρ g1 g2 g3 g4 g5 g6
set_option maxRecDepth 100000 in
theorem sg_rP20t {σ : pm_S} {Q : Option Value → pm_S → Prop} (x0 x1 : Int)  (hB : an_GB pm_B σ) (eF : (0 ≤ x0 ∧ x0 ≤ 4) ∧ ((-2147483648) ≤ x1 ∧ x1 ≤ 2147483647) ∧ True) (eC : (σ.1 93 33).toInt = x0 ∧ (σ.1 93 34).toInt = x1 ∧ True)
    (l0 : ∀ (τ : pm_S) (y : Nat → Int), an_GB pm_B τ → FQ [(93, 46), (93, 47)] σ τ → ((0 ≤ x0 ∧ x0 ≤ 4) ∧ ((-2147483648) ≤ x1 ∧ x1 ≤ 2147483647) ∧ True) → (True) → (True) → (True) → Ok 188 61 40 [.ref 93, .int (Int32.ofInt 1)] [.ref 93] τ Q)
    : Ok 188 61 20 [.ref 93, .int (Int32.ofInt 1)] [] σ Q := by
  refine an_seg (B := pm_B) (F := [(93, 46), (93, 47)]) (T := []) (S := []) (fun _ h => absurd h List.not_mem_nil) (k := 188) (d := 60) (cs := [40]) 7 20 2 [(0, 0, 4), (1, (-2147483648), 2147483647)] [(93, (1, 0, 33), (0, 0, 0)), (93, (1, 0, 34), (0, 1, 0))] [(2, 93, 0), (1, 0, 1)] [] [(40, [(2, 93, 0), (1, 0, 1)], [(2, 93, 0)], [(0, 0, 4), (1, (-2147483648), 2147483647)], [], [], [])] (by decide +kernel) (ρ0 := (fun s => [x0, x1].getD s 0)) hB eF eC ⟨rfl, ⟨rfl, trivial⟩⟩ trivial ?_
  refine List.forall_mem_cons.mpr ⟨?_, fun _ h => absurd h List.not_mem_nil⟩
  · intro ρ τ Lc stc hx g1 g2 g3 g4 g5 g6 g7 g8
    have e0 : ρ 0 = x0 := hx 0 (by decide)
    have e1 : ρ 1 = x1 := hx 1 (by decide)
    subst e0
    subst e1
    have g7 := g7 (by decide)
    match Lc, stc, g7, g8 with
    | [v0, v1], [w0], ⟨hv0, hv1, _⟩, ⟨hw0, _⟩ =>
      cases hv0
      cases hv1
      cases hw0
      exact l0 τ ρ  g1 g2 g3 g4 g5 g6
set_option maxRecDepth 100000 in
theorem sg_rP41 {σ : pm_S} {Q : Option Value → pm_S → Prop} (x0 x1 : Int)  (hB : an_GB pm_B σ) (eF : (0 ≤ x0 ∧ x0 ≤ 1) ∧ ((-1) ≤ x1 ∧ x1 ≤ 0) ∧ True)
    (l0 : ∀ (τ : pm_S) (y : Nat → Int), an_GB pm_B τ → FQ [] σ τ → ((0 ≤ x0 ∧ x0 ≤ 0) ∧ (0 ≤ x1 ∧ x1 ≤ 0) ∧ True) → (True) → (True) → (True) → Ok 188 61 52 [.ref 93, .int (Int32.ofInt (x0))] [.int (Int32.ofInt 0), .int (Int32.ofInt 5), .ref 93] τ Q)
    (l1 : ∀ (τ : pm_S) (y : Nat → Int), an_GB pm_B τ → FQ [] σ τ → ((1 ≤ x0 ∧ x0 ≤ 1) ∧ (0 ≤ x1 ∧ x1 ≤ 0) ∧ True) → (True) → (True) → (True) → Ok 188 61 52 [.ref 93, .int (Int32.ofInt (x0))] [.int (Int32.ofInt 0), .int (Int32.ofInt 4), .ref 93] τ Q)
    (l2 : ∀ (τ : pm_S) (y : Nat → Int), an_GB pm_B τ → FQ [] σ τ → ((0 ≤ x0 ∧ x0 ≤ 1) ∧ ((-1) ≤ x1 ∧ x1 ≤ (-1)) ∧ True) → (True) → (True) → (True) → Q (some (.int (Int32.ofInt (-1)))) τ)
    : Ok 188 61 41 [.ref 93, .int (Int32.ofInt (x0))] [.int (Int32.ofInt (x1))] σ Q := by
  refine an_seg (B := pm_B) (F := []) (T := []) (S := []) (fun _ h => absurd h List.not_mem_nil) (k := 188) (d := 60) (cs := [52]) 10 41 2 [(0, 0, 1), (1, (-1), 0)] [] [(2, 93, 0), (0, 0, 0)] [(0, 1, 0)] [(52, [(2, 93, 0), (0, 0, 0)], [(1, 0, 0), (1, 0, 5), (2, 93, 0)], [(0, 0, 0), (1, 0, 0)], [], [], []),
    (52, [(2, 93, 0), (0, 0, 0)], [(1, 0, 0), (1, 0, 4), (2, 93, 0)], [(0, 1, 1), (1, 0, 0)], [], [], []),
    (9999, [], [(1, 0, (-1))], [(0, 0, 1), (1, (-1), (-1))], [], [], [])] (by decide +kernel) (ρ0 := (fun s => [x0, x1].getD s 0)) hB eF trivial ⟨rfl, ⟨rfl, trivial⟩⟩ ⟨rfl, trivial⟩ ?_
  refine List.forall_mem_cons.mpr ⟨?_, List.forall_mem_cons.mpr ⟨?_, List.forall_mem_cons.mpr ⟨?_, fun _ h => absurd h List.not_mem_nil⟩⟩⟩
  · intro ρ τ Lc stc hx g1 g2 g3 g4 g5 g6 g7 g8
    have e0 : ρ 0 = x0 := hx 0 (by decide)
    have e1 : ρ 1 = x1 := hx 1 (by decide)
    subst e0
    subst e1
    have g7 := g7 (by decide)
    match Lc, stc, g7, g8 with
    | [v0, v1], [w0, w1, w2], ⟨hv0, hv1, _⟩, ⟨hw0, hw1, hw2, _⟩ =>
      cases hv0
      cases hv1
      cases hw0
      cases hw1
      cases hw2
      exact l0 τ ρ  g1 g2 g3 g4 g5 g6
  · intro ρ τ Lc stc hx g1 g2 g3 g4 g5 g6 g7 g8
    have e0 : ρ 0 = x0 := hx 0 (by decide)
    have e1 : ρ 1 = x1 := hx 1 (by decide)
    subst e0
    subst e1
    have g7 := g7 (by decide)
    match Lc, stc, g7, g8 with
    | [v0, v1], [w0, w1, w2], ⟨hv0, hv1, _⟩, ⟨hw0, hw1, hw2, _⟩ =>
      cases hv0
      cases hv1
      cases hw0
      cases hw1
      cases hw2
      exact l1 τ ρ  g1 g2 g3 g4 g5 g6
  · intro ρ τ Lc stc hx g1 g2 g3 g4 g5 g6 g7 g8
    have e0 : ρ 0 = x0 := hx 0 (by decide)
    have e1 : ρ 1 = x1 := hx 1 (by decide)
    subst e0
    subst e1
    match stc, g8 with
    | [_], ⟨h, _⟩ => cases h; exact l2 τ ρ g1 g2 g3 g4 g5 g6
set_option maxRecDepth 100000 in
theorem sg_rP53 {σ : pm_S} {Q : Option Value → pm_S → Prop} (v1 : Value) (hv1 : v1.category = 1) (hB : an_GB pm_B σ)
    (l0 : ∀ (τ : pm_S) (y : Nat → Int) (v1 : Value), v1.category = 1 → an_GB pm_B τ → FQ [] σ τ → (True) → (True) → (True) → (True) → Ok 188 61 6 [.ref 93, v1] [] τ Q)
    : Ok 188 61 53 [.ref 93, v1] [] σ Q := by
  refine an_seg (B := pm_B) (F := []) (T := []) (S := []) (fun _ h => absurd h List.not_mem_nil) (k := 188) (d := 60) (cs := [6]) 3 53 0 [] [] [(2, 93, 0), (5, 0, 0)] [] [(6, [(2, 93, 0), (5, 0, 0)], [], [], [], [], [])] (by decide +kernel) (ρ0 := (fun s => [].getD s 0)) hB trivial trivial ⟨rfl, ⟨hv1, trivial⟩⟩ trivial ?_
  refine List.forall_mem_cons.mpr ⟨?_, fun _ h => absurd h List.not_mem_nil⟩
  · intro ρ τ Lc stc hx g1 g2 g3 g4 g5 g6 g7 g8
    have g7 := g7 (by decide)
    match Lc, stc, g7, g8 with
    | [v0, v1], [], ⟨hv0, hv1, _⟩, _ =>
      cases hv0
      exact l0 τ ρ v1 hv1 g1 g2 g3 g4 g5 g6
set_option maxRecDepth 100000 in
theorem sg_rS0 {σ : pm_S} {Q : Option Value → pm_S → Prop} (v1 : Value) (hv1 : v1.category = 1) (hB : an_GB pm_B σ)
    (l0 : ∀ (τ : pm_S) (y : Nat → Int) (v1 : Value), v1.category = 1 → an_GB pm_B τ → FQ [] σ τ → (True) → (True) → (True) → (True) → Ok 189 71 1 [.ref 93, v1] [.ref 93] τ Q)
    : Ok 189 71 0 [.ref 93, v1] [] σ Q := by
  refine an_seg (B := pm_B) (F := []) (T := []) (S := []) (fun _ h => absurd h List.not_mem_nil) (k := 189) (d := 70) (cs := [1]) 3 0 0 [] [] [(2, 93, 0), (5, 0, 0)] [] [(1, [(2, 93, 0), (5, 0, 0)], [(2, 93, 0)], [], [], [], [])] (by decide +kernel) (ρ0 := (fun s => [].getD s 0)) hB trivial trivial ⟨rfl, ⟨hv1, trivial⟩⟩ trivial ?_
  refine List.forall_mem_cons.mpr ⟨?_, fun _ h => absurd h List.not_mem_nil⟩
  · intro ρ τ Lc stc hx g1 g2 g3 g4 g5 g6 g7 g8
    have g7 := g7 (by decide)
    match Lc, stc, g7, g8 with
    | [v0, v1], [w0], ⟨hv0, hv1, _⟩, ⟨hw0, _⟩ =>
      cases hv0
      cases hw0
      exact l0 τ ρ v1 hv1 g1 g2 g3 g4 g5 g6
set_option maxRecDepth 100000 in
theorem sg_rS2 {σ : pm_S} {Q : Option Value → pm_S → Prop} (x0 : Int) (v1 : Value) (hv1 : v1.category = 1) (hB : an_GB pm_B σ) (eF : ((-1) ≤ x0 ∧ x0 ≤ 0) ∧ True)
    (l0 : ∀ (τ : pm_S) (y : Nat → Int) (v1 : Value), v1.category = 1 → an_GB pm_B τ → FQ [] σ τ → ((0 ≤ x0 ∧ x0 ≤ 0) ∧ True) → (True) → (True) → (True) → Ok 189 71 6 [.ref 93, v1] [] τ Q)
    (l1 : ∀ (τ : pm_S) (y : Nat → Int), an_GB pm_B τ → FQ [] σ τ → (((-1) ≤ x0 ∧ x0 ≤ (-1)) ∧ True) → (True) → (True) → (True) → Q (some (.int (Int32.ofInt (-1)))) τ)
    : Ok 189 71 2 [.ref 93, v1] [.int (Int32.ofInt (x0))] σ Q := by
  refine an_seg (B := pm_B) (F := []) (T := []) (S := []) (fun _ h => absurd h List.not_mem_nil) (k := 189) (d := 70) (cs := [6]) 6 2 1 [(0, (-1), 0)] [] [(2, 93, 0), (5, 0, 0)] [(0, 0, 0)] [(6, [(2, 93, 0), (5, 0, 0)], [], [(0, 0, 0)], [], [], []),
    (9999, [], [(1, 0, (-1))], [(0, (-1), (-1))], [], [], [])] (by decide +kernel) (ρ0 := (fun s => [x0].getD s 0)) hB eF trivial ⟨rfl, ⟨hv1, trivial⟩⟩ ⟨rfl, trivial⟩ ?_
  refine List.forall_mem_cons.mpr ⟨?_, List.forall_mem_cons.mpr ⟨?_, fun _ h => absurd h List.not_mem_nil⟩⟩
  · intro ρ τ Lc stc hx g1 g2 g3 g4 g5 g6 g7 g8
    have e0 : ρ 0 = x0 := hx 0 (by decide)
    subst e0
    have g7 := g7 (by decide)
    match Lc, stc, g7, g8 with
    | [v0, v1], [], ⟨hv0, hv1, _⟩, _ =>
      cases hv0
      exact l0 τ ρ v1 hv1 g1 g2 g3 g4 g5 g6
  · intro ρ τ Lc stc hx g1 g2 g3 g4 g5 g6 g7 g8
    have e0 : ρ 0 = x0 := hx 0 (by decide)
    subst e0
    match stc, g8 with
    | [_], ⟨h, _⟩ => cases h; exact l1 τ ρ g1 g2 g3 g4 g5 g6
set_option maxRecDepth 100000 in
theorem sg_rS6 {σ : pm_S} {Q : Option Value → pm_S → Prop} (x0 x1 : Int) (v1 : Value) (hv1 : v1.category = 1) (hB : an_GB pm_B σ) (eF : (0 ≤ x0 ∧ x0 ≤ 4) ∧ ((-2147483648) ≤ x1 ∧ x1 ≤ 2147483647) ∧ True) (eC : (σ.1 93 33).toInt = x0 ∧ (σ.1 93 34).toInt = x1 ∧ True)
    (l0 : ∀ (τ : pm_S) (y : Nat → Int), an_GB pm_B τ → FQ [] σ τ → ((0 ≤ x0 ∧ x0 ≤ 4) ∧ ((-2147483648) ≤ x1 ∧ x1 ≤ 2147483647) ∧ True) → (True) → (True) → (True) → Q (some (.int (Int32.ofInt 0))) τ)
    (l1 : ∀ (τ : pm_S) (y : Nat → Int), an_GB pm_B τ → FQ [] σ τ → ((4 ≤ x0 ∧ x0 ≤ 4) ∧ (45 ≤ x1 ∧ x1 ≤ 45) ∧ True) → (x1 ≠ 43 ∧ True) → (True) → (True) → Ok 189 71 23 [.ref 93, .int (Int32.ofInt 3)] [.ref 93] τ Q)
    (l2 : ∀ (τ : pm_S) (y : Nat → Int), an_GB pm_B τ → FQ [] σ τ → ((4 ≤ x0 ∧ x0 ≤ 4) ∧ (43 ≤ x1 ∧ x1 ≤ 43) ∧ True) → (True) → (True) → (True) → Ok 189 71 23 [.ref 93, .int (Int32.ofInt 2)] [.ref 93] τ Q)
    : Ok 189 71 6 [.ref 93, v1] [] σ Q := by
  refine an_seg (B := pm_B) (F := []) (T := []) (S := []) (fun _ h => absurd h List.not_mem_nil) (k := 189) (d := 70) (cs := [23]) 38 6 2 [(0, 0, 4), (1, (-2147483648), 2147483647)] [(93, (1, 0, 33), (0, 0, 0)), (93, (1, 0, 34), (0, 1, 0))] [(2, 93, 0), (5, 0, 0)] [] [(9999, [], [(1, 0, 0)], [(0, 0, 4), (1, (-2147483648), 2147483647)], [], [], []),
    (23, [(2, 93, 0), (1, 0, 3)], [(2, 93, 0)], [(0, 4, 4), (1, 45, 45)], [(3, 1, 1, 43)], [], []),
    (23, [(2, 93, 0), (1, 0, 2)], [(2, 93, 0)], [(0, 4, 4), (1, 43, 43)], [], [], [])] (by decide +kernel) (ρ0 := (fun s => [x0, x1].getD s 0)) hB eF eC ⟨rfl, ⟨hv1, trivial⟩⟩ trivial ?_
  refine List.forall_mem_cons.mpr ⟨?_, List.forall_mem_cons.mpr ⟨?_, List.forall_mem_cons.mpr ⟨?_, fun _ h => absurd h List.not_mem_nil⟩⟩⟩
  · intro ρ τ Lc stc hx g1 g2 g3 g4 g5 g6 g7 g8
    have e0 : ρ 0 = x0 := hx 0 (by decide)
    have e1 : ρ 1 = x1 := hx 1 (by decide)
    subst e0
    subst e1
    match stc, g8 with
    | [_], ⟨h, _⟩ => cases h; exact l0 τ ρ g1 g2 g3 g4 g5 g6
  · intro ρ τ Lc stc hx g1 g2 g3 g4 g5 g6 g7 g8
    have e0 : ρ 0 = x0 := hx 0 (by decide)
    have e1 : ρ 1 = x1 := hx 1 (by decide)
    subst e0
    subst e1
    have g7 := g7 (by decide)
    match Lc, stc, g7, g8 with
    | [v0, v1], [w0], ⟨hv0, hv1, _⟩, ⟨hw0, _⟩ =>
      cases hv0
      cases hv1
      cases hw0
      exact l1 τ ρ  g1 g2 g3 g4 g5 g6
  · intro ρ τ Lc stc hx g1 g2 g3 g4 g5 g6 g7 g8
    have e0 : ρ 0 = x0 := hx 0 (by decide)
    have e1 : ρ 1 = x1 := hx 1 (by decide)
    subst e0
    subst e1
    have g7 := g7 (by decide)
    match Lc, stc, g7, g8 with
    | [v0, v1], [w0], ⟨hv0, hv1, _⟩, ⟨hw0, _⟩ =>
      cases hv0
      cases hv1
      cases hw0
      exact l2 τ ρ  g1 g2 g3 g4 g5 g6
set_option maxRecDepth 100000 in
theorem sg_rS24 {σ : pm_S} {Q : Option Value → pm_S → Prop} (x0 : Int)  (hB : an_GB pm_B σ) (eF : (2 ≤ x0 ∧ x0 ≤ 3) ∧ True)
    (l0 : ∀ (τ : pm_S) (y : Nat → Int), an_GB pm_B τ → FQ [] σ τ → ((2 ≤ x0 ∧ x0 ≤ 3) ∧ True) → (True) → (True) → (True) → Ok 189 71 25 [.ref 93, .int (Int32.ofInt (x0))] [.ref 93] τ Q)
    : Ok 189 71 24 [.ref 93, .int (Int32.ofInt (x0))] [] σ Q := by
  refine an_seg (B := pm_B) (F := []) (T := []) (S := []) (fun _ h => absurd h List.not_mem_nil) (k := 189) (d := 70) (cs := [25]) 3 24 1 [(0, 2, 3)] [] [(2, 93, 0), (0, 0, 0)] [] [(25, [(2, 93, 0), (0, 0, 0)], [(2, 93, 0)], [(0, 2, 3)], [], [], [])] (by decide +kernel) (ρ0 := (fun s => [x0].getD s 0)) hB eF trivial ⟨rfl, ⟨rfl, trivial⟩⟩ trivial ?_
  refine List.forall_mem_cons.mpr ⟨?_, fun _ h => absurd h List.not_mem_nil⟩
  · intro ρ τ Lc stc hx g1 g2 g3 g4 g5 g6 g7 g8
    have e0 : ρ 0 = x0 := hx 0 (by decide)
    subst e0
    have g7 := g7 (by decide)
    match Lc, stc, g7, g8 with
    | [v0, v1], [w0], ⟨hv0, hv1, _⟩, ⟨hw0, _⟩ =>
      cases hv0
      cases hv1
      cases hw0
      exact l0 τ ρ  g1 g2 g3 g4 g5 g6
set_option maxRecDepth 100000 in
theorem sg_rS26 {σ : pm_S} {Q : Option Value → pm_S → Prop} (x0 x1 : Int)  (hB : an_GB pm_B σ) (eF : (2 ≤ x0 ∧ x0 ≤ 3) ∧ ((-1) ≤ x1 ∧ x1 ≤ 0) ∧ True)
    (l0 : ∀ (τ : pm_S) (y : Nat → Int), an_GB pm_B τ → FQ [] σ τ → ((2 ≤ x0 ∧ x0 ≤ 3) ∧ (0 ≤ x1 ∧ x1 ≤ 0) ∧ True) → (True) → (True) → (True) → Ok 189 71 33 [.ref 93, .int (Int32.ofInt (x0))] [.int (Int32.ofInt 0), .int (Int32.ofInt (x0)), .ref 93] τ Q)
    (l1 : ∀ (τ : pm_S) (y : Nat → Int), an_GB pm_B τ → FQ [] σ τ → ((2 ≤ x0 ∧ x0 ≤ 3) ∧ ((-1) ≤ x1 ∧ x1 ≤ (-1)) ∧ True) → (True) → (True) → (True) → Q (some (.int (Int32.ofInt (-1)))) τ)
    : Ok 189 71 26 [.ref 93, .int (Int32.ofInt (x0))] [.int (Int32.ofInt (x1))] σ Q := by
  refine an_seg (B := pm_B) (F := []) (T := []) (S := []) (fun _ h => absurd h List.not_mem_nil) (k := 189) (d := 70) (cs := [33]) 7 26 2 [(0, 2, 3), (1, (-1), 0)] [] [(2, 93, 0), (0, 0, 0)] [(0, 1, 0)] [(33, [(2, 93, 0), (0, 0, 0)], [(1, 0, 0), (0, 0, 0), (2, 93, 0)], [(0, 2, 3), (1, 0, 0)], [], [], []),
    (9999, [], [(1, 0, (-1))], [(0, 2, 3), (1, (-1), (-1))], [], [], [])] (by decide +kernel) (ρ0 := (fun s => [x0, x1].getD s 0)) hB eF trivial ⟨rfl, ⟨rfl, trivial⟩⟩ ⟨rfl, trivial⟩ ?_
  refine List.forall_mem_cons.mpr ⟨?_, List.forall_mem_cons.mpr ⟨?_, fun _ h => absurd h List.not_mem_nil⟩⟩
  · intro ρ τ Lc stc hx g1 g2 g3 g4 g5 g6 g7 g8
    have e0 : ρ 0 = x0 := hx 0 (by decide)
    have e1 : ρ 1 = x1 := hx 1 (by decide)
    subst e0
    subst e1
    have g7 := g7 (by decide)
    match Lc, stc, g7, g8 with
    | [v0, v1], [w0, w1, w2], ⟨hv0, hv1, _⟩, ⟨hw0, hw1, hw2, _⟩ =>
      cases hv0
      cases hv1
      cases hw0
      cases hw1
      cases hw2
      exact l0 τ ρ  g1 g2 g3 g4 g5 g6
  · intro ρ τ Lc stc hx g1 g2 g3 g4 g5 g6 g7 g8
    have e0 : ρ 0 = x0 := hx 0 (by decide)
    have e1 : ρ 1 = x1 := hx 1 (by decide)
    subst e0
    subst e1
    match stc, g8 with
    | [_], ⟨h, _⟩ => cases h; exact l1 τ ρ g1 g2 g3 g4 g5 g6
set_option maxRecDepth 100000 in
theorem sg_rS34 {σ : pm_S} {Q : Option Value → pm_S → Prop} (v1 : Value) (hv1 : v1.category = 1) (hB : an_GB pm_B σ)
    (l0 : ∀ (τ : pm_S) (y : Nat → Int) (v1 : Value), v1.category = 1 → an_GB pm_B τ → FQ [] σ τ → (True) → (True) → (True) → (True) → Ok 189 71 6 [.ref 93, v1] [] τ Q)
    : Ok 189 71 34 [.ref 93, v1] [] σ Q := by
  refine an_seg (B := pm_B) (F := []) (T := []) (S := []) (fun _ h => absurd h List.not_mem_nil) (k := 189) (d := 70) (cs := [6]) 3 34 0 [] [] [(2, 93, 0), (5, 0, 0)] [] [(6, [(2, 93, 0), (5, 0, 0)], [], [], [], [], [])] (by decide +kernel) (ρ0 := (fun s => [].getD s 0)) hB trivial trivial ⟨rfl, ⟨hv1, trivial⟩⟩ trivial ?_
  refine List.forall_mem_cons.mpr ⟨?_, fun _ h => absurd h List.not_mem_nil⟩
  · intro ρ τ Lc stc hx g1 g2 g3 g4 g5 g6 g7 g8
    have g7 := g7 (by decide)
    match Lc, stc, g7, g8 with
    | [v0, v1], [], ⟨hv0, hv1, _⟩, _ =>
      cases hv0
      exact l0 τ ρ v1 hv1 g1 g2 g3 g4 g5 g6
set_option maxRecDepth 100000 in
theorem sg_rC0 {σ : pm_S} {Q : Option Value → pm_S → Prop} (v1 : Value) (hv1 : v1.category = 1) (hB : an_GB pm_B σ)
    (l0 : ∀ (τ : pm_S) (y : Nat → Int) (v1 : Value), v1.category = 1 → an_GB pm_B τ → FQ [] σ τ → (True) → (True) → (True) → (True) → Ok 190 81 1 [.ref 93, v1] [.ref 93] τ Q)
    : Ok 190 81 0 [.ref 93, v1] [] σ Q := by
  refine an_seg (B := pm_B) (F := []) (T := []) (S := []) (fun _ h => absurd h List.not_mem_nil) (k := 190) (d := 80) (cs := [1]) 3 0 0 [] [] [(2, 93, 0), (5, 0, 0)] [] [(1, [(2, 93, 0), (5, 0, 0)], [(2, 93, 0)], [], [], [], [])] (by decide +kernel) (ρ0 := (fun s => [].getD s 0)) hB trivial trivial ⟨rfl, ⟨hv1, trivial⟩⟩ trivial ?_
  refine List.forall_mem_cons.mpr ⟨?_, fun _ h => absurd h List.not_mem_nil⟩
  · intro ρ τ Lc stc hx g1 g2 g3 g4 g5 g6 g7 g8
    have g7 := g7 (by decide)
    match Lc, stc, g7, g8 with
    | [v0, v1], [w0], ⟨hv0, hv1, _⟩, ⟨hw0, _⟩ =>
      cases hv0
      cases hw0
      exact l0 τ ρ v1 hv1 g1 g2 g3 g4 g5 g6
set_option maxRecDepth 100000 in
theorem sg_rC2 {σ : pm_S} {Q : Option Value → pm_S → Prop} (x0 : Int) (v1 : Value) (hv1 : v1.category = 1) (hB : an_GB pm_B σ) (eF : ((-1) ≤ x0 ∧ x0 ≤ 0) ∧ True)
    (l0 : ∀ (τ : pm_S) (y : Nat → Int) (v1 : Value), v1.category = 1 → an_GB pm_B τ → FQ [] σ τ → ((0 ≤ x0 ∧ x0 ≤ 0) ∧ True) → (True) → (True) → (True) → Ok 190 81 6 [.ref 93, v1] [] τ Q)
    (l1 : ∀ (τ : pm_S) (y : Nat → Int), an_GB pm_B τ → FQ [] σ τ → (((-1) ≤ x0 ∧ x0 ≤ (-1)) ∧ True) → (True) → (True) → (True) → Q (some (.int (Int32.ofInt (-1)))) τ)
    : Ok 190 81 2 [.ref 93, v1] [.int (Int32.ofInt (x0))] σ Q := by
  refine an_seg (B := pm_B) (F := []) (T := []) (S := []) (fun _ h => absurd h List.not_mem_nil) (k := 190) (d := 80) (cs := [6]) 6 2 1 [(0, (-1), 0)] [] [(2, 93, 0), (5, 0, 0)] [(0, 0, 0)] [(6, [(2, 93, 0), (5, 0, 0)], [], [(0, 0, 0)], [], [], []),
    (9999, [], [(1, 0, (-1))], [(0, (-1), (-1))], [], [], [])] (by decide +kernel) (ρ0 := (fun s => [x0].getD s 0)) hB eF trivial ⟨rfl, ⟨hv1, trivial⟩⟩ ⟨rfl, trivial⟩ ?_
  refine List.forall_mem_cons.mpr ⟨?_, List.forall_mem_cons.mpr ⟨?_, fun _ h => absurd h List.not_mem_nil⟩⟩
  · intro ρ τ Lc stc hx g1 g2 g3 g4 g5 g6 g7 g8
    have e0 : ρ 0 = x0 := hx 0 (by decide)
    subst e0
    have g7 := g7 (by decide)
    match Lc, stc, g7, g8 with
    | [v0, v1], [], ⟨hv0, hv1, _⟩, _ =>
      cases hv0
      exact l0 τ ρ v1 hv1 g1 g2 g3 g4 g5 g6
  · intro ρ τ Lc stc hx g1 g2 g3 g4 g5 g6 g7 g8
    have e0 : ρ 0 = x0 := hx 0 (by decide)
    subst e0
    match stc, g8 with
    | [_], ⟨h, _⟩ => cases h; exact l1 τ ρ g1 g2 g3 g4 g5 g6
set_option maxRecDepth 100000 in
theorem sg_rC6 {σ : pm_S} {Q : Option Value → pm_S → Prop} (x0 x1 : Int) (v1 : Value) (hv1 : v1.category = 1) (hB : an_GB pm_B σ) (eF : (0 ≤ x0 ∧ x0 ≤ 4) ∧ ((-2147483648) ≤ x1 ∧ x1 ≤ 2147483647) ∧ True) (eC : (σ.1 93 33).toInt = x0 ∧ (σ.1 93 34).toInt = x1 ∧ True)
    (l0 : ∀ (τ : pm_S) (y : Nat → Int), an_GB pm_B τ → FQ [(93, 46), (93, 47)] σ τ → ((0 ≤ x0 ∧ x0 ≤ 4) ∧ ((-2147483648) ≤ x1 ∧ x1 ≤ 2147483647) ∧ True) → (True) → (True) → (True) → Q (some (.int (Int32.ofInt (-1)))) τ)
    (l1 : ∀ (τ : pm_S) (y : Nat → Int), an_GB pm_B τ → FQ [(93, 46), (93, 47)] σ τ → ((4 ≤ x0 ∧ x0 ≤ 4) ∧ (62 ≤ x1 ∧ x1 ≤ 62) ∧ True) → (x1 ≠ 61 ∧ x1 ≠ 60 ∧ True) → (True) → (True) → Ok 190 81 37 [.ref 93, .int (Int32.ofInt 8)] [.ref 93] τ Q)
    (l2 : ∀ (τ : pm_S) (y : Nat → Int), an_GB pm_B τ → FQ [(93, 46), (93, 47)] σ τ → ((4 ≤ x0 ∧ x0 ≤ 4) ∧ (61 ≤ x1 ∧ x1 ≤ 61) ∧ True) → (x1 ≠ 60 ∧ True) → (True) → (True) → Ok 190 81 37 [.ref 93, .int (Int32.ofInt 7)] [.ref 93] τ Q)
    (l3 : ∀ (τ : pm_S) (y : Nat → Int), an_GB pm_B τ → FQ [(93, 46), (93, 47)] σ τ → ((4 ≤ x0 ∧ x0 ≤ 4) ∧ (60 ≤ x1 ∧ x1 ≤ 60) ∧ True) → (True) → (True) → (True) → Ok 190 81 37 [.ref 93, .int (Int32.ofInt 6)] [.ref 93] τ Q)
    : Ok 190 81 6 [.ref 93, v1] [] σ Q := by
  refine an_seg (B := pm_B) (F := [(93, 46), (93, 47)]) (T := []) (S := []) (fun _ h => absurd h List.not_mem_nil) (k := 190) (d := 80) (cs := [37]) 57 6 2 [(0, 0, 4), (1, (-2147483648), 2147483647)] [(93, (1, 0, 33), (0, 0, 0)), (93, (1, 0, 34), (0, 1, 0))] [(2, 93, 0), (5, 0, 0)] [] [(9999, [], [(1, 0, (-1))], [(0, 0, 4), (1, (-2147483648), 2147483647)], [], [], []),
    (37, [(2, 93, 0), (1, 0, 8)], [(2, 93, 0)], [(0, 4, 4), (1, 62, 62)], [(3, 1, 1, 61), (3, 1, 1, 60)], [], []),
    (37, [(2, 93, 0), (1, 0, 7)], [(2, 93, 0)], [(0, 4, 4), (1, 61, 61)], [(3, 1, 1, 60)], [], []),
    (37, [(2, 93, 0), (1, 0, 6)], [(2, 93, 0)], [(0, 4, 4), (1, 60, 60)], [], [], [])] (by decide +kernel) (ρ0 := (fun s => [x0, x1].getD s 0)) hB eF eC ⟨rfl, ⟨hv1, trivial⟩⟩ trivial ?_
  refine List.forall_mem_cons.mpr ⟨?_, List.forall_mem_cons.mpr ⟨?_, List.forall_mem_cons.mpr ⟨?_, List.forall_mem_cons.mpr ⟨?_, fun _ h => absurd h List.not_mem_nil⟩⟩⟩⟩
  · intro ρ τ Lc stc hx g1 g2 g3 g4 g5 g6 g7 g8
    have e0 : ρ 0 = x0 := hx 0 (by decide)
    have e1 : ρ 1 = x1 := hx 1 (by decide)
    subst e0
    subst e1
    match stc, g8 with
    | [_], ⟨h, _⟩ => cases h; exact l0 τ ρ g1 g2 g3 g4 g5 g6
  · intro ρ τ Lc stc hx g1 g2 g3 g4 g5 g6 g7 g8
    have e0 : ρ 0 = x0 := hx 0 (by decide)
    have e1 : ρ 1 = x1 := hx 1 (by decide)
    subst e0
    subst e1
    have g7 := g7 (by decide)
    match Lc, stc, g7, g8 with
    | [v0, v1], [w0], ⟨hv0, hv1, _⟩, ⟨hw0, _⟩ =>
      cases hv0
      cases hv1
      cases hw0
      exact l1 τ ρ  g1 g2 g3 g4 g5 g6
  · intro ρ τ Lc stc hx g1 g2 g3 g4 g5 g6 g7 g8
    have e0 : ρ 0 = x0 := hx 0 (by decide)
    have e1 : ρ 1 = x1 := hx 1 (by decide)
    subst e0
    subst e1
    have g7 := g7 (by decide)
    match Lc, stc, g7, g8 with
    | [v0, v1], [w0], ⟨hv0, hv1, _⟩, ⟨hw0, _⟩ =>
      cases hv0
      cases hv1
      cases hw0
      exact l2 τ ρ  g1 g2 g3 g4 g5 g6
  · intro ρ τ Lc stc hx g1 g2 g3 g4 g5 g6 g7 g8
    have e0 : ρ 0 = x0 := hx 0 (by decide)
    have e1 : ρ 1 = x1 := hx 1 (by decide)
    subst e0
    subst e1
    have g7 := g7 (by decide)
    match Lc, stc, g7, g8 with
    | [v0, v1], [w0], ⟨hv0, hv1, _⟩, ⟨hw0, _⟩ =>
      cases hv0
      cases hv1
      cases hw0
      exact l3 τ ρ  g1 g2 g3 g4 g5 g6
set_option maxRecDepth 100000 in
theorem sg_rC38 {σ : pm_S} {Q : Option Value → pm_S → Prop} (x0 : Int)  (hB : an_GB pm_B σ) (eF : (6 ≤ x0 ∧ x0 ≤ 8) ∧ True)
    (l0 : ∀ (τ : pm_S) (y : Nat → Int), an_GB pm_B τ → FQ [] σ τ → ((6 ≤ x0 ∧ x0 ≤ 8) ∧ True) → (True) → (True) → (True) → Ok 190 81 39 [.ref 93, .int (Int32.ofInt (x0))] [.ref 93] τ Q)
    : Ok 190 81 38 [.ref 93, .int (Int32.ofInt (x0))] [] σ Q := by
  refine an_seg (B := pm_B) (F := []) (T := []) (S := []) (fun _ h => absurd h List.not_mem_nil) (k := 190) (d := 80) (cs := [39]) 3 38 1 [(0, 6, 8)] [] [(2, 93, 0), (0, 0, 0)] [] [(39, [(2, 93, 0), (0, 0, 0)], [(2, 93, 0)], [(0, 6, 8)], [], [], [])] (by decide +kernel) (ρ0 := (fun s => [x0].getD s 0)) hB eF trivial ⟨rfl, ⟨rfl, trivial⟩⟩ trivial ?_
  refine List.forall_mem_cons.mpr ⟨?_, fun _ h => absurd h List.not_mem_nil⟩
  · intro ρ τ Lc stc hx g1 g2 g3 g4 g5 g6 g7 g8
    have e0 : ρ 0 = x0 := hx 0 (by decide)
    subst e0
    have g7 := g7 (by decide)
    match Lc, stc, g7, g8 with
    | [v0, v1], [w0], ⟨hv0, hv1, _⟩, ⟨hw0, _⟩ =>
      cases hv0
      cases hv1
      cases hw0
      exact l0 τ ρ  g1 g2 g3 g4 g5 g6
set_option maxRecDepth 100000 in
theorem sg_rC40 {σ : pm_S} {Q : Option Value → pm_S → Prop} (x0 x1 : Int)  (hB : an_GB pm_B σ) (eF : (6 ≤ x0 ∧ x0 ≤ 8) ∧ ((-1) ≤ x1 ∧ x1 ≤ 0) ∧ True)
    (l0 : ∀ (τ : pm_S) (y : Nat → Int), an_GB pm_B τ → FQ [] σ τ → ((6 ≤ x0 ∧ x0 ≤ 8) ∧ (0 ≤ x1 ∧ x1 ≤ 0) ∧ True) → (True) → (True) → (True) → Ok 190 81 47 [.ref 93, .int (Int32.ofInt (x0))] [.int (Int32.ofInt 0), .int (Int32.ofInt (x0)), .ref 93] τ Q)
    (l1 : ∀ (τ : pm_S) (y : Nat → Int), an_GB pm_B τ → FQ [] σ τ → ((6 ≤ x0 ∧ x0 ≤ 8) ∧ ((-1) ≤ x1 ∧ x1 ≤ (-1)) ∧ True) → (True) → (True) → (True) → Q (some (.int (Int32.ofInt (-1)))) τ)
    : Ok 190 81 40 [.ref 93, .int (Int32.ofInt (x0))] [.int (Int32.ofInt (x1))] σ Q := by
  refine an_seg (B := pm_B) (F := []) (T := []) (S := []) (fun _ h => absurd h List.not_mem_nil) (k := 190) (d := 80) (cs := [47]) 7 40 2 [(0, 6, 8), (1, (-1), 0)] [] [(2, 93, 0), (0, 0, 0)] [(0, 1, 0)] [(47, [(2, 93, 0), (0, 0, 0)], [(1, 0, 0), (0, 0, 0), (2, 93, 0)], [(0, 6, 8), (1, 0, 0)], [], [], []),
    (9999, [], [(1, 0, (-1))], [(0, 6, 8), (1, (-1), (-1))], [], [], [])] (by decide +kernel) (ρ0 := (fun s => [x0, x1].getD s 0)) hB eF trivial ⟨rfl, ⟨rfl, trivial⟩⟩ ⟨rfl, trivial⟩ ?_
  refine List.forall_mem_cons.mpr ⟨?_, List.forall_mem_cons.mpr ⟨?_, fun _ h => absurd h List.not_mem_nil⟩⟩
  · intro ρ τ Lc stc hx g1 g2 g3 g4 g5 g6 g7 g8
    have e0 : ρ 0 = x0 := hx 0 (by decide)
    have e1 : ρ 1 = x1 := hx 1 (by decide)
    subst e0
    subst e1
    have g7 := g7 (by decide)
    match Lc, stc, g7, g8 with
    | [v0, v1], [w0, w1, w2], ⟨hv0, hv1, _⟩, ⟨hw0, hw1, hw2, _⟩ =>
      cases hv0
      cases hv1
      cases hw0
      cases hw1
      cases hw2
      exact l0 τ ρ  g1 g2 g3 g4 g5 g6
  · intro ρ τ Lc stc hx g1 g2 g3 g4 g5 g6 g7 g8
    have e0 : ρ 0 = x0 := hx 0 (by decide)
    have e1 : ρ 1 = x1 := hx 1 (by decide)
    subst e0
    subst e1
    match stc, g8 with
    | [_], ⟨h, _⟩ => cases h; exact l1 τ ρ g1 g2 g3 g4 g5 g6
set_option maxRecDepth 100000 in
theorem sg_rC48 {σ : pm_S} {Q : Option Value → pm_S → Prop} (v1 : Value) (hv1 : v1.category = 1) (hB : an_GB pm_B σ)
    (l0 : ∀ (τ : pm_S) (y : Nat → Int), an_GB pm_B τ → FQ [] σ τ → (True) → (True) → (True) → (True) → Q (some (.int (Int32.ofInt 0))) τ)
    : Ok 190 81 48 [.ref 93, v1] [] σ Q := by
  refine an_seg (B := pm_B) (F := []) (T := []) (S := []) (fun _ h => absurd h List.not_mem_nil) (k := 190) (d := 80) (cs := []) 4 48 0 [] [] [(2, 93, 0), (5, 0, 0)] [] [(9999, [], [(1, 0, 0)], [], [], [], [])] (by decide +kernel) (ρ0 := (fun s => [].getD s 0)) hB trivial trivial ⟨rfl, ⟨hv1, trivial⟩⟩ trivial ?_
  refine List.forall_mem_cons.mpr ⟨?_, fun _ h => absurd h List.not_mem_nil⟩
  · intro ρ τ Lc stc hx g1 g2 g3 g4 g5 g6 g7 g8
    match stc, g8 with
    | [_], ⟨h, _⟩ => cases h; exact l0 τ ρ g1 g2 g3 g4 g5 g6
set_option maxRecDepth 100000 in
theorem sg_st0 {σ : pm_S} {Q : Option Value → pm_S → Prop} (x0 x1 : Int)  (hB : an_GB pm_B σ) (eF : (9 ≤ x0 ∧ x0 ≤ 11) ∧ (0 ≤ x1 ∧ x1 ≤ 40) ∧ True) (eC : (σ.1 93 45).toInt = x1 ∧ True)
    (l0 : ∀ (τ : pm_S) (y : Nat → Int), an_GB pm_B τ → FQ [] σ τ → ((9 ≤ x0 ∧ x0 ≤ 11) ∧ (0 ≤ x1 ∧ x1 ≤ 0) ∧ True) → (True) → (True) → (True) → Q none τ)
    (l1 : ∀ (τ : pm_S) (y : Nat → Int), an_GB pm_B τ → FQ [] σ τ → ((9 ≤ x0 ∧ x0 ≤ 11) ∧ (1 ≤ x1 ∧ x1 ≤ 40) ∧ True) → (True) → (True) → (True) → Ok 192 21 9 [.ref 93, .int (Int32.ofInt (x0))] [.int (Int32.ofInt (x1 + (-1))), .ref 121] τ Q)
    : Ok 192 21 0 [.ref 93, .int (Int32.ofInt (x0))] [] σ Q := by
  refine an_seg (B := pm_B) (F := []) (T := []) (S := []) (fun _ h => absurd h List.not_mem_nil) (k := 192) (d := 20) (cs := [9]) 11 0 2 [(0, 9, 11), (1, 0, 40)] [(93, (1, 0, 45), (0, 1, 0))] [(2, 93, 0), (0, 0, 0)] [] [(9999, [], [], [(0, 9, 11), (1, 0, 0)], [], [], []),
    (9, [(2, 93, 0), (0, 0, 0)], [(0, 1, (-1)), (2, 121, 0)], [(0, 9, 11), (1, 1, 40)], [], [], [])] (by decide +kernel) (ρ0 := (fun s => [x0, x1].getD s 0)) hB eF eC ⟨rfl, ⟨rfl, trivial⟩⟩ trivial ?_
  refine List.forall_mem_cons.mpr ⟨?_, List.forall_mem_cons.mpr ⟨?_, fun _ h => absurd h List.not_mem_nil⟩⟩
  · intro ρ τ Lc stc hx g1 g2 g3 g4 g5 g6 g7 g8
    have e0 : ρ 0 = x0 := hx 0 (by decide)
    have e1 : ρ 1 = x1 := hx 1 (by decide)
    subst e0
    subst e1
    match stc, g8 with
    | [], _ => exact l0 τ ρ g1 g2 g3 g4 g5 g6
  · intro ρ τ Lc stc hx g1 g2 g3 g4 g5 g6 g7 g8
    have e0 : ρ 0 = x0 := hx 0 (by decide)
    have e1 : ρ 1 = x1 := hx 1 (by decide)
    subst e0
    subst e1
    have g7 := g7 (by decide)
    match Lc, stc, g7, g8 with
    | [v0, v1], [w0, w1], ⟨hv0, hv1, _⟩, ⟨hw0, hw1, _⟩ =>
      cases hv0
      cases hv1
      cases hw0
      cases hw1
      exact l1 τ ρ  g1 g2 g3 g4 g5 g6
set_option maxRecDepth 100000 in
theorem sg_st10 {σ : pm_S} {Q : Option Value → pm_S → Prop} (x0 x1 : Int)  (hB : an_GB pm_B σ) (eF : (9 ≤ x0 ∧ x0 ≤ 11) ∧ ((-2147483648) ≤ x1 ∧ x1 ≤ 2147483647) ∧ True)
    (l0 : ∀ (τ : pm_S) (y : Nat → Int), an_GB pm_B τ → FQ [] σ τ → ((9 ≤ x0 ∧ x0 ≤ 11) ∧ ((-2147483648) ≤ x1 ∧ x1 ≤ 2147483647) ∧ True) → (True) → (True) → (True) → Ok 192 21 11 [.ref 93, .int (Int32.ofInt (x0))] [.int (Int32.ofInt (x0)), .int (Int32.ofInt (x1))] τ Q)
    : Ok 192 21 10 [.ref 93, .int (Int32.ofInt (x0))] [.int (Int32.ofInt (x1))] σ Q := by
  refine an_seg (B := pm_B) (F := []) (T := []) (S := []) (fun _ h => absurd h List.not_mem_nil) (k := 192) (d := 20) (cs := [11]) 3 10 2 [(0, 9, 11), (1, (-2147483648), 2147483647)] [] [(2, 93, 0), (0, 0, 0)] [(0, 1, 0)] [(11, [(2, 93, 0), (0, 0, 0)], [(0, 0, 0), (0, 1, 0)], [(0, 9, 11), (1, (-2147483648), 2147483647)], [], [], [])] (by decide +kernel) (ρ0 := (fun s => [x0, x1].getD s 0)) hB eF trivial ⟨rfl, ⟨rfl, trivial⟩⟩ ⟨rfl, trivial⟩ ?_
  refine List.forall_mem_cons.mpr ⟨?_, fun _ h => absurd h List.not_mem_nil⟩
  · intro ρ τ Lc stc hx g1 g2 g3 g4 g5 g6 g7 g8
    have e0 : ρ 0 = x0 := hx 0 (by decide)
    have e1 : ρ 1 = x1 := hx 1 (by decide)
    subst e0
    subst e1
    have g7 := g7 (by decide)
    match Lc, stc, g7, g8 with
    | [v0, v1], [w0, w1], ⟨hv0, hv1, _⟩, ⟨hw0, hw1, _⟩ =>
      cases hv0
      cases hv1
      cases hw0
      cases hw1
      exact l0 τ ρ  g1 g2 g3 g4 g5 g6
set_option maxRecDepth 100000 in
theorem sg_st32 {σ : pm_S} {Q : Option Value → pm_S → Prop} (v1 : Value) (hv1 : v1.category = 1) (hB : an_GB pm_B σ)
    (l0 : ∀ (τ : pm_S) (y : Nat → Int), an_GB pm_B τ → FQ [] σ τ → (True) → (True) → (True) → (True) → Q none τ)
    : Ok 192 21 32 [.ref 93, v1] [] σ Q := by
  refine an_seg (B := pm_B) (F := []) (T := []) (S := []) (fun _ h => absurd h List.not_mem_nil) (k := 192) (d := 20) (cs := []) 3 32 0 [] [] [(2, 93, 0), (5, 0, 0)] [] [(9999, [], [], [], [], [], [])] (by decide +kernel) (ρ0 := (fun s => [].getD s 0)) hB trivial trivial ⟨rfl, ⟨hv1, trivial⟩⟩ trivial ?_
  refine List.forall_mem_cons.mpr ⟨?_, fun _ h => absurd h List.not_mem_nil⟩
  · intro ρ τ Lc stc hx g1 g2 g3 g4 g5 g6 g7 g8
    match stc, g8 with
    | [], _ => exact l0 τ ρ g1 g2 g3 g4 g5 g6
set_option maxRecDepth 100000 in
theorem sg_st12 {σ : pm_S} {Q : Option Value → pm_S → Prop} (x0 x1 : Int)  (hB : an_GB pm_B σ) (eF : (9 ≤ x0 ∧ x0 ≤ 11) ∧ (1 ≤ x1 ∧ x1 ≤ 40) ∧ True) (eC : (σ.1 93 45).toInt = x1 ∧ True)
    (l0 : ∀ (τ : pm_S) (y : Nat → Int), an_GB pm_B τ → FQ [(93, 45)] σ τ → ((9 ≤ x0 ∧ x0 ≤ 11) ∧ (1 ≤ x1 ∧ x1 ≤ 40) ∧ True) → (True) → (True) → ((τ.1 93 45).toInt = x1 + (-1) ∧ True) → Ok 192 21 21 [.ref 93, .int (Int32.ofInt (x0))] [.int (Int32.ofInt 0), .int (Int32.ofInt (x0)), .ref 93] τ Q)
    : Ok 192 21 12 [.ref 93, .int (Int32.ofInt (x0))] [] σ Q := by
  refine an_seg (B := pm_B) (F := [(93, 45)]) (T := []) (S := []) (fun _ h => absurd h List.not_mem_nil) (k := 192) (d := 20) (cs := [21]) 11 12 2 [(0, 9, 11), (1, 1, 40)] [(93, (1, 0, 45), (0, 1, 0))] [(2, 93, 0), (0, 0, 0)] [] [(21, [(2, 93, 0), (0, 0, 0)], [(1, 0, 0), (0, 0, 0), (2, 93, 0)], [(0, 9, 11), (1, 1, 40)], [], [], [(93, (1, 0, 45), (0, 1, (-1)))])] (by decide +kernel) (ρ0 := (fun s => [x0, x1].getD s 0)) hB eF eC ⟨rfl, ⟨rfl, trivial⟩⟩ trivial ?_
  refine List.forall_mem_cons.mpr ⟨?_, fun _ h => absurd h List.not_mem_nil⟩
  · intro ρ τ Lc stc hx g1 g2 g3 g4 g5 g6 g7 g8
    have e0 : ρ 0 = x0 := hx 0 (by decide)
    have e1 : ρ 1 = x1 := hx 1 (by decide)
    subst e0
    subst e1
    have g7 := g7 (by decide)
    match Lc, stc, g7, g8 with
    | [v0, v1], [w0, w1, w2], ⟨hv0, hv1, _⟩, ⟨hw0, hw1, hw2, _⟩ =>
      cases hv0
      cases hv1
      cases hw0
      cases hw1
      cases hw2
      exact l0 τ ρ  g1 g2 g3 g4 g5 g6
set_option maxRecDepth 100000 in
theorem sg_st22n {σ : pm_S} {Q : Option Value → pm_S → Prop} (x0 : Int)  (hB : an_GB pm_B σ) (eF : (1 ≤ x0 ∧ x0 ≤ 8) ∧ True) (eC : (σ.1 93 43).toInt = x0 ∧ True)
    (l0 : ∀ (τ : pm_S) (y : Nat → Int), an_GB pm_B τ → FQ [(93, 43)] σ τ → ((1 ≤ x0 ∧ x0 ≤ 8) ∧ True) → (True) → (True) → ((τ.1 93 43).toInt = x0 + (-1) ∧ True) → Ok 192 21 0 [.ref 93, .int (Int32.ofInt 9)] [] τ Q)
    : Ok 192 21 22 [.ref 93, .int (Int32.ofInt 9)] [] σ Q := by
  refine an_seg (B := pm_B) (F := [(93, 43)]) (T := []) (S := []) (fun _ h => absurd h List.not_mem_nil) (k := 192) (d := 20) (cs := [0]) 12 22 1 [(0, 1, 8)] [(93, (1, 0, 43), (0, 0, 0))] [(2, 93, 0), (1, 0, 9)] [] [(0, [(2, 93, 0), (1, 0, 9)], [], [(0, 1, 8)], [], [], [(93, (1, 0, 43), (0, 0, (-1)))])] (by decide +kernel) (ρ0 := (fun s => [x0].getD s 0)) hB eF eC ⟨rfl, ⟨rfl, trivial⟩⟩ trivial ?_
  refine List.forall_mem_cons.mpr ⟨?_, fun _ h => absurd h List.not_mem_nil⟩
  · intro ρ τ Lc stc hx g1 g2 g3 g4 g5 g6 g7 g8
    have e0 : ρ 0 = x0 := hx 0 (by decide)
    subst e0
    have g7 := g7 (by decide)
    match Lc, stc, g7, g8 with
    | [v0, v1], [], ⟨hv0, hv1, _⟩, _ =>
      cases hv0
      cases hv1
      exact l0 τ ρ  g1 g2 g3 g4 g5 g6
set_option maxRecDepth 100000 in
theorem sg_st22b {σ : pm_S} {Q : Option Value → pm_S → Prop} (x0 : Int)  (hB : an_GB pm_B σ) (eF : (10 ≤ x0 ∧ x0 ≤ 11) ∧ True)
    (l0 : ∀ (τ : pm_S) (y : Nat → Int), an_GB pm_B τ → FQ [] σ τ → ((10 ≤ x0 ∧ x0 ≤ 11) ∧ True) → (x0 ≠ 9 ∧ True) → (True) → (True) → Ok 192 21 0 [.ref 93, .int (Int32.ofInt (x0))] [] τ Q)
    : Ok 192 21 22 [.ref 93, .int (Int32.ofInt (x0))] [] σ Q := by
  refine an_seg (B := pm_B) (F := []) (T := []) (S := []) (fun _ h => absurd h List.not_mem_nil) (k := 192) (d := 20) (cs := [0]) 5 22 1 [(0, 10, 11)] [] [(2, 93, 0), (0, 0, 0)] [] [(0, [(2, 93, 0), (0, 0, 0)], [], [(0, 10, 11)], [(3, 0, 0, 9)], [], [])] (by decide +kernel) (ρ0 := (fun s => [x0].getD s 0)) hB eF trivial ⟨rfl, ⟨rfl, trivial⟩⟩ trivial ?_
  refine List.forall_mem_cons.mpr ⟨?_, fun _ h => absurd h List.not_mem_nil⟩
  · intro ρ τ Lc stc hx g1 g2 g3 g4 g5 g6 g7 g8
    have e0 : ρ 0 = x0 := hx 0 (by decide)
    subst e0
    have g7 := g7 (by decide)
    match Lc, stc, g7, g8 with
    | [v0, v1], [], ⟨hv0, hv1, _⟩, _ =>
      cases hv0
      cases hv1
      exact l0 τ ρ  g1 g2 g3 g4 g5 g6
set_option maxRecDepth 100000 in
theorem sg_ra0 {σ : pm_S} {Q : Option Value → pm_S → Prop} (v1 : Value) (v2 : Value) (v3 : Value) (hv1 : v1.category = 1) (hv2 : v2.category = 1) (hv3 : v3.category = 1) (hB : an_GB pm_B σ)
    (l0 : ∀ (τ : pm_S) (y : Nat → Int) (v3 : Value), v3.category = 1 → an_GB pm_B τ → FQ [(93, 45)] σ τ → (True) → (True) → (True) → ((τ.1 93 45).toInt = 0 ∧ True) → Ok 193 91 7 [.ref 93, .int (Int32.ofInt 0), .int (Int32.ofInt 1), v3] [] τ Q)
    : Ok 193 91 0 [.ref 93, v1, v2, v3] [] σ Q := by
  refine an_seg (B := pm_B) (F := [(93, 45)]) (T := []) (S := []) (fun _ h => absurd h List.not_mem_nil) (k := 193) (d := 90) (cs := [7]) 9 0 0 [] [] [(2, 93, 0), (5, 0, 0), (5, 0, 0), (5, 0, 0)] [] [(7, [(2, 93, 0), (1, 0, 0), (1, 0, 1), (5, 0, 0)], [], [], [], [], [(93, (1, 0, 45), (1, 0, 0))])] (by decide +kernel) (ρ0 := (fun s => [].getD s 0)) hB trivial trivial ⟨rfl, ⟨hv1, ⟨hv2, ⟨hv3, trivial⟩⟩⟩⟩ trivial ?_
  refine List.forall_mem_cons.mpr ⟨?_, fun _ h => absurd h List.not_mem_nil⟩
  · intro ρ τ Lc stc hx g1 g2 g3 g4 g5 g6 g7 g8
    have g7 := g7 (by decide)
    match Lc, stc, g7, g8 with
    | [v0, v1, v2, v3], [], ⟨hv0, hv1, hv2, hv3, _⟩, _ =>
      cases hv0
      cases hv1
      cases hv2
      exact l0 τ ρ v3 hv3 g1 g2 g3 g4 g5 g6
set_option maxRecDepth 100000 in
theorem sg_ra7d {σ : pm_S} {Q : Option Value → pm_S → Prop} (x0 x1 x2 x3 : Int) (v3 : Value) (hv3 : v3.category = 1) (hB : an_GB pm_B σ) (eF : (0 ≤ x0 ∧ x0 ≤ 4) ∧ ((-2147483648) ≤ x1 ∧ x1 ≤ 2147483647) ∧ (0 ≤ x2 ∧ x2 ≤ 8) ∧ (0 ≤ x3 ∧ x3 ≤ 8) ∧ True) (eC : (σ.1 93 33).toInt = x0 ∧ (σ.1 93 34).toInt = x1 ∧ (σ.1 93 43).toInt = x2 ∧ True)
    (l0 : ∀ (τ : pm_S) (y : Nat → Int), an_GB pm_B τ → FQ [(93, 46), (93, 47), (93, 43)] σ τ → ((0 ≤ x0 ∧ x0 ≤ 4) ∧ ((-2147483648) ≤ x1 ∧ x1 ≤ 2147483647) ∧ (0 ≤ x2 ∧ x2 ≤ 8) ∧ (0 ≤ x3 ∧ x3 ≤ 8) ∧ True) → (True) → (True) → ((τ.1 93 43).toInt = x2 ∧ True) → Ok 193 91 50 [.ref 93, .int (Int32.ofInt (x3)), .int (Int32.ofInt 1), .int (Int32.ofInt 0)] [.ref 93] τ Q)
    (l1 : ∀ (τ : pm_S) (y : Nat → Int), an_GB pm_B τ → FQ [(93, 46), (93, 47), (93, 43)] σ τ → ((4 ≤ x0 ∧ x0 ≤ 4) ∧ (40 ≤ x1 ∧ x1 ≤ 40) ∧ (0 ≤ x2 ∧ x2 ≤ 7) ∧ (0 ≤ x3 ∧ x3 ≤ 8) ∧ True) → (x0 ≠ 2 ∧ True) → (True) → ((τ.1 93 43).toInt = x2 + 1 ∧ True) → Ok 193 91 45 [.ref 93, .int (Int32.ofInt (x3 + 1)), .int (Int32.ofInt 1), .int (Int32.ofInt 0)] [.int (Int32.ofInt 12), .ref 93] τ Q)
    (l2 : ∀ (τ : pm_S) (y : Nat → Int), an_GB pm_B τ → FQ [(93, 46), (93, 47), (93, 43)] σ τ → ((2 ≤ x0 ∧ x0 ≤ 4) ∧ (5 ≤ x1 ∧ x1 ≤ 40) ∧ (8 ≤ x2 ∧ x2 ≤ 8) ∧ (0 ≤ x3 ∧ x3 ≤ 8) ∧ True) → (True) → (True) → ((τ.1 93 43).toInt = x2 ∧ True) → Q (some (.int (Int32.ofInt (-1)))) τ)
    (l3 : ∀ (τ : pm_S) (y : Nat → Int), an_GB pm_B τ → FQ [(93, 46), (93, 47), (93, 43)] σ τ → ((2 ≤ x0 ∧ x0 ≤ 2) ∧ (5 ≤ x1 ∧ x1 ≤ 5) ∧ (0 ≤ x2 ∧ x2 ≤ 7) ∧ (0 ≤ x3 ∧ x3 ≤ 8) ∧ True) → (True) → (True) → ((τ.1 93 43).toInt = x2 + 1 ∧ True) → Ok 193 91 45 [.ref 93, .int (Int32.ofInt (x3)), .int (Int32.ofInt 1), .int (Int32.ofInt 1)] [.int (Int32.ofInt 9), .ref 93] τ Q)
    : Ok 193 91 7 [.ref 93, .int (Int32.ofInt (x3)), .int (Int32.ofInt 1), v3] [] σ Q := by
  refine an_seg (B := pm_B) (F := [(93, 46), (93, 47), (93, 43)]) (T := []) (S := []) (fun _ h => absurd h List.not_mem_nil) (k := 193) (d := 90) (cs := [45, 50]) 51 7 4 [(0, 0, 4), (1, (-2147483648), 2147483647), (2, 0, 8), (3, 0, 8)] [(93, (1, 0, 33), (0, 0, 0)), (93, (1, 0, 34), (0, 1, 0)), (93, (1, 0, 43), (0, 2, 0))] [(2, 93, 0), (0, 3, 0), (1, 0, 1), (5, 0, 0)] [] [(50, [(2, 93, 0), (0, 3, 0), (1, 0, 1), (1, 0, 0)], [(2, 93, 0)], [(0, 0, 4), (1, (-2147483648), 2147483647), (2, 0, 8), (3, 0, 8)], [], [], [(93, (1, 0, 43), (0, 2, 0))]),
    (45, [(2, 93, 0), (0, 3, 1), (1, 0, 1), (1, 0, 0)], [(1, 0, 12), (2, 93, 0)], [(0, 4, 4), (1, 40, 40), (2, 0, 7), (3, 0, 8)], [(3, 0, 0, 2)], [], [(93, (1, 0, 43), (0, 2, 1))]),
    (9999, [], [(1, 0, (-1))], [(0, 2, 4), (1, 5, 40), (2, 8, 8), (3, 0, 8)], [], [], [(93, (1, 0, 43), (0, 2, 0))]),
    (45, [(2, 93, 0), (0, 3, 0), (1, 0, 1), (1, 0, 1)], [(1, 0, 9), (2, 93, 0)], [(0, 2, 2), (1, 5, 5), (2, 0, 7), (3, 0, 8)], [], [], [(93, (1, 0, 43), (0, 2, 1))])] (by decide +kernel) (ρ0 := (fun s => [x0, x1, x2, x3].getD s 0)) hB eF eC ⟨rfl, ⟨rfl, ⟨rfl, ⟨hv3, trivial⟩⟩⟩⟩ trivial ?_
  refine List.forall_mem_cons.mpr ⟨?_, List.forall_mem_cons.mpr ⟨?_, List.forall_mem_cons.mpr ⟨?_, List.forall_mem_cons.mpr ⟨?_, fun _ h => absurd h List.not_mem_nil⟩⟩⟩⟩
  · intro ρ τ Lc stc hx g1 g2 g3 g4 g5 g6 g7 g8
    have e0 : ρ 0 = x0 := hx 0 (by decide)
    have e1 : ρ 1 = x1 := hx 1 (by decide)
    have e2 : ρ 2 = x2 := hx 2 (by decide)
    have e3 : ρ 3 = x3 := hx 3 (by decide)
    subst e0
    subst e1
    subst e2
    subst e3
    have g7 := g7 (by decide)
    match Lc, stc, g7, g8 with
    | [v0, v1, v2, v3], [w0], ⟨hv0, hv1, hv2, hv3, _⟩, ⟨hw0, _⟩ =>
      cases hv0
      cases hv1
      cases hv2
      cases hv3
      cases hw0
      exact l0 τ ρ  g1 g2 g3 g4 g5 g6
  · intro ρ τ Lc stc hx g1 g2 g3 g4 g5 g6 g7 g8
    have e0 : ρ 0 = x0 := hx 0 (by decide)
    have e1 : ρ 1 = x1 := hx 1 (by decide)
    have e2 : ρ 2 = x2 := hx 2 (by decide)
    have e3 : ρ 3 = x3 := hx 3 (by decide)
    subst e0
    subst e1
    subst e2
    subst e3
    have g7 := g7 (by decide)
    match Lc, stc, g7, g8 with
    | [v0, v1, v2, v3], [w0, w1], ⟨hv0, hv1, hv2, hv3, _⟩, ⟨hw0, hw1, _⟩ =>
      cases hv0
      cases hv1
      cases hv2
      cases hv3
      cases hw0
      cases hw1
      exact l1 τ ρ  g1 g2 g3 g4 g5 g6
  · intro ρ τ Lc stc hx g1 g2 g3 g4 g5 g6 g7 g8
    have e0 : ρ 0 = x0 := hx 0 (by decide)
    have e1 : ρ 1 = x1 := hx 1 (by decide)
    have e2 : ρ 2 = x2 := hx 2 (by decide)
    have e3 : ρ 3 = x3 := hx 3 (by decide)
    subst e0
    subst e1
    subst e2
    subst e3
    match stc, g8 with
    | [_], ⟨h, _⟩ => cases h; exact l2 τ ρ g1 g2 g3 g4 g5 g6
  · intro ρ τ Lc stc hx g1 g2 g3 g4 g5 g6 g7 g8
    have e0 : ρ 0 = x0 := hx 0 (by decide)
    have e1 : ρ 1 = x1 := hx 1 (by decide)
    have e2 : ρ 2 = x2 := hx 2 (by decide)
    have e3 : ρ 3 = x3 := hx 3 (by decide)
    subst e0
    subst e1
    subst e2
    subst e3
    have g7 := g7 (by decide)
    match Lc, stc, g7, g8 with
    | [v0, v1, v2, v3], [w0, w1], ⟨hv0, hv1, hv2, hv3, _⟩, ⟨hw0, hw1, _⟩ =>
      cases hv0
      cases hv1
      cases hv2
      cases hv3
      cases hw0
      cases hw1
      exact l3 τ ρ  g1 g2 g3 g4 g5 g6
set_option maxRecDepth 100000 in
theorem sg_ra46 {σ : pm_S} {Q : Option Value → pm_S → Prop} (x0 : Int) (v3 : Value) (hv3 : v3.category = 1) (hB : an_GB pm_B σ) (eF : (0 ≤ x0 ∧ x0 ≤ 8) ∧ True)
    (l0 : ∀ (τ : pm_S) (y : Nat → Int) (v3 : Value), v3.category = 1 → an_GB pm_B τ → FQ [] σ τ → ((0 ≤ x0 ∧ x0 ≤ 8) ∧ True) → (True) → (True) → (True) → Ok 193 91 47 [.ref 93, .int (Int32.ofInt (x0)), .int (Int32.ofInt 1), v3] [.ref 93] τ Q)
    : Ok 193 91 46 [.ref 93, .int (Int32.ofInt (x0)), .int (Int32.ofInt 1), v3] [] σ Q := by
  refine an_seg (B := pm_B) (F := []) (T := []) (S := []) (fun _ h => absurd h List.not_mem_nil) (k := 193) (d := 90) (cs := [47]) 3 46 1 [(0, 0, 8)] [] [(2, 93, 0), (0, 0, 0), (1, 0, 1), (5, 0, 0)] [] [(47, [(2, 93, 0), (0, 0, 0), (1, 0, 1), (5, 0, 0)], [(2, 93, 0)], [(0, 0, 8)], [], [], [])] (by decide +kernel) (ρ0 := (fun s => [x0].getD s 0)) hB eF trivial ⟨rfl, ⟨rfl, ⟨rfl, ⟨hv3, trivial⟩⟩⟩⟩ trivial ?_
  refine List.forall_mem_cons.mpr ⟨?_, fun _ h => absurd h List.not_mem_nil⟩
  · intro ρ τ Lc stc hx g1 g2 g3 g4 g5 g6 g7 g8
    have e0 : ρ 0 = x0 := hx 0 (by decide)
    subst e0
    have g7 := g7 (by decide)
    match Lc, stc, g7, g8 with
    | [v0, v1, v2, v3], [w0], ⟨hv0, hv1, hv2, hv3, _⟩, ⟨hw0, _⟩ =>
      cases hv0
      cases hv1
      cases hv2
      cases hw0
      exact l0 τ ρ v3 hv3 g1 g2 g3 g4 g5 g6
set_option maxRecDepth 100000 in
theorem sg_ra48 {σ : pm_S} {Q : Option Value → pm_S → Prop} (x0 : Int) (v3 : Value) (hv3 : v3.category = 1) (hB : an_GB pm_B σ) (eF : (0 ≤ x0 ∧ x0 ≤ 8) ∧ True)
    (l0 : ∀ (τ : pm_S) (y : Nat → Int) (v3 : Value), v3.category = 1 → an_GB pm_B τ → FQ [] σ τ → ((0 ≤ x0 ∧ x0 ≤ 8) ∧ True) → (True) → (True) → (True) → Ok 193 91 7 [.ref 93, .int (Int32.ofInt (x0)), .int (Int32.ofInt 1), v3] [] τ Q)
    : Ok 193 91 48 [.ref 93, .int (Int32.ofInt (x0)), .int (Int32.ofInt 1), v3] [] σ Q := by
  refine an_seg (B := pm_B) (F := []) (T := []) (S := []) (fun _ h => absurd h List.not_mem_nil) (k := 193) (d := 90) (cs := [7]) 3 48 1 [(0, 0, 8)] [] [(2, 93, 0), (0, 0, 0), (1, 0, 1), (5, 0, 0)] [] [(7, [(2, 93, 0), (0, 0, 0), (1, 0, 1), (5, 0, 0)], [], [(0, 0, 8)], [], [], [])] (by decide +kernel) (ρ0 := (fun s => [x0].getD s 0)) hB eF trivial ⟨rfl, ⟨rfl, ⟨rfl, ⟨hv3, trivial⟩⟩⟩⟩ trivial ?_
  refine List.forall_mem_cons.mpr ⟨?_, fun _ h => absurd h List.not_mem_nil⟩
  · intro ρ τ Lc stc hx g1 g2 g3 g4 g5 g6 g7 g8
    have e0 : ρ 0 = x0 := hx 0 (by decide)
    subst e0
    have g7 := g7 (by decide)
    match Lc, stc, g7, g8 with
    | [v0, v1, v2, v3], [], ⟨hv0, hv1, hv2, hv3, _⟩, _ =>
      cases hv0
      cases hv1
      cases hv2
      exact l0 τ ρ v3 hv3 g1 g2 g3 g4 g5 g6
set_option maxRecDepth 100000 in
theorem sg_ra51 {σ : pm_S} {Q : Option Value → pm_S → Prop} (x0 x1 : Int) (v3 : Value) (hv3 : v3.category = 1) (hB : an_GB pm_B σ) (eF : ((-1) ≤ x0 ∧ x0 ≤ 0) ∧ (0 ≤ x1 ∧ x1 ≤ 8) ∧ True)
    (l0 : ∀ (τ : pm_S) (y : Nat → Int) (v3 : Value), v3.category = 1 → an_GB pm_B τ → FQ [] σ τ → ((0 ≤ x0 ∧ x0 ≤ 0) ∧ (0 ≤ x1 ∧ x1 ≤ 8) ∧ True) → (True) → (True) → (True) → Ok 193 91 57 [.ref 93, .int (Int32.ofInt (x1)), .int (Int32.ofInt 1), v3] [.int (Int32.ofInt 9), .ref 93] τ Q)
    (l1 : ∀ (τ : pm_S) (y : Nat → Int), an_GB pm_B τ → FQ [] σ τ → (((-1) ≤ x0 ∧ x0 ≤ (-1)) ∧ (0 ≤ x1 ∧ x1 ≤ 8) ∧ True) → (True) → (True) → (True) → Q (some (.int (Int32.ofInt (-1)))) τ)
    : Ok 193 91 51 [.ref 93, .int (Int32.ofInt (x1)), .int (Int32.ofInt 1), v3] [.int (Int32.ofInt (x0))] σ Q := by
  refine an_seg (B := pm_B) (F := []) (T := []) (S := []) (fun _ h => absurd h List.not_mem_nil) (k := 193) (d := 90) (cs := [57]) 6 51 2 [(0, (-1), 0), (1, 0, 8)] [] [(2, 93, 0), (0, 1, 0), (1, 0, 1), (5, 0, 0)] [(0, 0, 0)] [(57, [(2, 93, 0), (0, 1, 0), (1, 0, 1), (5, 0, 0)], [(1, 0, 9), (2, 93, 0)], [(0, 0, 0), (1, 0, 8)], [], [], []),
    (9999, [], [(1, 0, (-1))], [(0, (-1), (-1)), (1, 0, 8)], [], [], [])] (by decide +kernel) (ρ0 := (fun s => [x0, x1].getD s 0)) hB eF trivial ⟨rfl, ⟨rfl, ⟨rfl, ⟨hv3, trivial⟩⟩⟩⟩ ⟨rfl, trivial⟩ ?_
  refine List.forall_mem_cons.mpr ⟨?_, List.forall_mem_cons.mpr ⟨?_, fun _ h => absurd h List.not_mem_nil⟩⟩
  · intro ρ τ Lc stc hx g1 g2 g3 g4 g5 g6 g7 g8
    have e0 : ρ 0 = x0 := hx 0 (by decide)
    have e1 : ρ 1 = x1 := hx 1 (by decide)
    subst e0
    subst e1
    have g7 := g7 (by decide)
    match Lc, stc, g7, g8 with
    | [v0, v1, v2, v3], [w0, w1], ⟨hv0, hv1, hv2, hv3, _⟩, ⟨hw0, hw1, _⟩ =>
      cases hv0
      cases hv1
      cases hv2
      cases hw0
      cases hw1
      exact l0 τ ρ v3 hv3 g1 g2 g3 g4 g5 g6
  · intro ρ τ Lc stc hx g1 g2 g3 g4 g5 g6 g7 g8
    have e0 : ρ 0 = x0 := hx 0 (by decide)
    have e1 : ρ 1 = x1 := hx 1 (by decide)
    subst e0
    subst e1
    match stc, g8 with
    | [_], ⟨h, _⟩ => cases h; exact l1 τ ρ g1 g2 g3 g4 g5 g6
set_option maxRecDepth 100000 in
theorem sg_ra58 {σ : pm_S} {Q : Option Value → pm_S → Prop} (x0 : Int) (v2 : Value) (v3 : Value) (hv2 : v2.category = 1) (hv3 : v3.category = 1) (hB : an_GB pm_B σ) (eF : (0 ≤ x0 ∧ x0 ≤ 8) ∧ True)
    (l0 : ∀ (τ : pm_S) (y : Nat → Int) (v3 : Value), v3.category = 1 → an_GB pm_B τ → FQ [] σ τ → ((0 ≤ x0 ∧ x0 ≤ 8) ∧ True) → (True) → (True) → (True) → Ok 193 91 7 [.ref 93, .int (Int32.ofInt (x0)), .int (Int32.ofInt 0), v3] [] τ Q)
    : Ok 193 91 58 [.ref 93, .int (Int32.ofInt (x0)), v2, v3] [] σ Q := by
  refine an_seg (B := pm_B) (F := []) (T := []) (S := []) (fun _ h => absurd h List.not_mem_nil) (k := 193) (d := 90) (cs := [7]) 5 58 1 [(0, 0, 8)] [] [(2, 93, 0), (0, 0, 0), (5, 0, 0), (5, 0, 0)] [] [(7, [(2, 93, 0), (0, 0, 0), (1, 0, 0), (5, 0, 0)], [], [(0, 0, 8)], [], [], [])] (by decide +kernel) (ρ0 := (fun s => [x0].getD s 0)) hB eF trivial ⟨rfl, ⟨rfl, ⟨hv2, ⟨hv3, trivial⟩⟩⟩⟩ trivial ?_
  refine List.forall_mem_cons.mpr ⟨?_, fun _ h => absurd h List.not_mem_nil⟩
  · intro ρ τ Lc stc hx g1 g2 g3 g4 g5 g6 g7 g8
    have e0 : ρ 0 = x0 := hx 0 (by decide)
    subst e0
    have g7 := g7 (by decide)
    match Lc, stc, g7, g8 with
    | [v0, v1, v2, v3], [], ⟨hv0, hv1, hv2, hv3, _⟩, _ =>
      cases hv0
      cases hv1
      cases hv2
      exact l0 τ ρ v3 hv3 g1 g2 g3 g4 g5 g6
set_option maxRecDepth 100000 in
theorem sg_ra7n {σ : pm_S} {Q : Option Value → pm_S → Prop} (x0 x1 x2 : Int) (v3 : Value) (hv3 : v3.category = 1) (hB : an_GB pm_B σ) (eF : (0 ≤ x0 ∧ x0 ≤ 4) ∧ ((-2147483648) ≤ x1 ∧ x1 ≤ 2147483647) ∧ (0 ≤ x2 ∧ x2 ≤ 8) ∧ True) (eC : (σ.1 93 33).toInt = x0 ∧ (σ.1 93 34).toInt = x1 ∧ True)
    (l0 : ∀ (τ : pm_S) (y : Nat → Int) (v3 : Value), v3.category = 1 → an_GB pm_B τ → FQ [] σ τ → ((0 ≤ x0 ∧ x0 ≤ 4) ∧ ((-2147483648) ≤ x1 ∧ x1 ≤ 2147483647) ∧ (0 ≤ x2 ∧ x2 ≤ 8) ∧ True) → (True) → (True) → (True) → Ok 193 91 96 [.ref 93, .int (Int32.ofInt (x2)), .int (Int32.ofInt 0), v3] [.int (Int32.ofInt 10), .ref 93] τ Q)
    (l1 : ∀ (τ : pm_S) (y : Nat → Int) (v3 : Value), v3.category = 1 → an_GB pm_B τ → FQ [] σ τ → ((2 ≤ x0 ∧ x0 ≤ 2) ∧ (3 ≤ x1 ∧ x1 ≤ 3) ∧ (0 ≤ x2 ∧ x2 ≤ 8) ∧ True) → (x1 ≠ 4 ∧ True) → (True) → (True) → Ok 193 91 82 [.ref 93, .int (Int32.ofInt (x2)), .int (Int32.ofInt 0), v3] [.int (Int32.ofInt 10), .ref 93] τ Q)
    (l2 : ∀ (τ : pm_S) (y : Nat → Int) (v3 : Value), v3.category = 1 → an_GB pm_B τ → FQ [] σ τ → ((2 ≤ x0 ∧ x0 ≤ 2) ∧ (4 ≤ x1 ∧ x1 ≤ 4) ∧ (0 ≤ x2 ∧ x2 ≤ 8) ∧ True) → (True) → (True) → (True) → Ok 193 91 67 [.ref 93, .int (Int32.ofInt (x2)), .int (Int32.ofInt 0), v3] [.int (Int32.ofInt 10), .ref 93] τ Q)
    : Ok 193 91 7 [.ref 93, .int (Int32.ofInt (x2)), .int (Int32.ofInt 0), v3] [] σ Q := by
  refine an_seg (B := pm_B) (F := []) (T := []) (S := []) (fun _ h => absurd h List.not_mem_nil) (k := 193) (d := 90) (cs := [67, 82, 96]) 35 7 3 [(0, 0, 4), (1, (-2147483648), 2147483647), (2, 0, 8)] [(93, (1, 0, 33), (0, 0, 0)), (93, (1, 0, 34), (0, 1, 0))] [(2, 93, 0), (0, 2, 0), (1, 0, 0), (5, 0, 0)] [] [(96, [(2, 93, 0), (0, 2, 0), (1, 0, 0), (5, 0, 0)], [(1, 0, 10), (2, 93, 0)], [(0, 0, 4), (1, (-2147483648), 2147483647), (2, 0, 8)], [], [], []),
    (82, [(2, 93, 0), (0, 2, 0), (1, 0, 0), (5, 0, 0)], [(1, 0, 10), (2, 93, 0)], [(0, 2, 2), (1, 3, 3), (2, 0, 8)], [(3, 1, 1, 4)], [], []),
    (67, [(2, 93, 0), (0, 2, 0), (1, 0, 0), (5, 0, 0)], [(1, 0, 10), (2, 93, 0)], [(0, 2, 2), (1, 4, 4), (2, 0, 8)], [], [], [])] (by decide +kernel) (ρ0 := (fun s => [x0, x1, x2].getD s 0)) hB eF eC ⟨rfl, ⟨rfl, ⟨rfl, ⟨hv3, trivial⟩⟩⟩⟩ trivial ?_
  refine List.forall_mem_cons.mpr ⟨?_, List.forall_mem_cons.mpr ⟨?_, List.forall_mem_cons.mpr ⟨?_, fun _ h => absurd h List.not_mem_nil⟩⟩⟩
  · intro ρ τ Lc stc hx g1 g2 g3 g4 g5 g6 g7 g8
    have e0 : ρ 0 = x0 := hx 0 (by decide)
    have e1 : ρ 1 = x1 := hx 1 (by decide)
    have e2 : ρ 2 = x2 := hx 2 (by decide)
    subst e0
    subst e1
    subst e2
    have g7 := g7 (by decide)
    match Lc, stc, g7, g8 with
    | [v0, v1, v2, v3], [w0, w1], ⟨hv0, hv1, hv2, hv3, _⟩, ⟨hw0, hw1, _⟩ =>
      cases hv0
      cases hv1
      cases hv2
      cases hw0
      cases hw1
      exact l0 τ ρ v3 hv3 g1 g2 g3 g4 g5 g6
  · intro ρ τ Lc stc hx g1 g2 g3 g4 g5 g6 g7 g8
    have e0 : ρ 0 = x0 := hx 0 (by decide)
    have e1 : ρ 1 = x1 := hx 1 (by decide)
    have e2 : ρ 2 = x2 := hx 2 (by decide)
    subst e0
    subst e1
    subst e2
    have g7 := g7 (by decide)
    match Lc, stc, g7, g8 with
    | [v0, v1, v2, v3], [w0, w1], ⟨hv0, hv1, hv2, hv3, _⟩, ⟨hw0, hw1, _⟩ =>
      cases hv0
      cases hv1
      cases hv2
      cases hw0
      cases hw1
      exact l1 τ ρ v3 hv3 g1 g2 g3 g4 g5 g6
  · intro ρ τ Lc stc hx g1 g2 g3 g4 g5 g6 g7 g8
    have e0 : ρ 0 = x0 := hx 0 (by decide)
    have e1 : ρ 1 = x1 := hx 1 (by decide)
    have e2 : ρ 2 = x2 := hx 2 (by decide)
    subst e0
    subst e1
    subst e2
    have g7 := g7 (by decide)
    match Lc, stc, g7, g8 with
    | [v0, v1, v2, v3], [w0, w1], ⟨hv0, hv1, hv2, hv3, _⟩, ⟨hw0, hw1, _⟩ =>
      cases hv0
      cases hv1
      cases hv2
      cases hw0
      cases hw1
      exact l2 τ ρ v3 hv3 g1 g2 g3 g4 g5 g6
set_option maxRecDepth 100000 in
theorem sg_ra68 {σ : pm_S} {Q : Option Value → pm_S → Prop} (x0 : Int) (v3 : Value) (hv3 : v3.category = 1) (hB : an_GB pm_B σ) (eF : (0 ≤ x0 ∧ x0 ≤ 8) ∧ True)
    (l0 : ∀ (τ : pm_S) (y : Nat → Int) (v3 : Value), v3.category = 1 → an_GB pm_B τ → FQ [] σ τ → ((0 ≤ x0 ∧ x0 ≤ 8) ∧ True) → (True) → (True) → (True) → Ok 193 91 70 [.ref 93, .int (Int32.ofInt (x0)), .int (Int32.ofInt 0), v3] [.int (Int32.ofInt 10), .ref 93] τ Q)
    : Ok 193 91 68 [.ref 93, .int (Int32.ofInt (x0)), .int (Int32.ofInt 0), v3] [] σ Q := by
  refine an_seg (B := pm_B) (F := []) (T := []) (S := []) (fun _ h => absurd h List.not_mem_nil) (k := 193) (d := 90) (cs := [70]) 4 68 1 [(0, 0, 8)] [] [(2, 93, 0), (0, 0, 0), (1, 0, 0), (5, 0, 0)] [] [(70, [(2, 93, 0), (0, 0, 0), (1, 0, 0), (5, 0, 0)], [(1, 0, 10), (2, 93, 0)], [(0, 0, 8)], [], [], [])] (by decide +kernel) (ρ0 := (fun s => [x0].getD s 0)) hB eF trivial ⟨rfl, ⟨rfl, ⟨rfl, ⟨hv3, trivial⟩⟩⟩⟩ trivial ?_
  refine List.forall_mem_cons.mpr ⟨?_, fun _ h => absurd h List.not_mem_nil⟩
  · intro ρ τ Lc stc hx g1 g2 g3 g4 g5 g6 g7 g8
    have e0 : ρ 0 = x0 := hx 0 (by decide)
    subst e0
    have g7 := g7 (by decide)
    match Lc, stc, g7, g8 with
    | [v0, v1, v2, v3], [w0, w1], ⟨hv0, hv1, hv2, hv3, _⟩, ⟨hw0, hw1, _⟩ =>
      cases hv0
      cases hv1
      cases hv2
      cases hw0
      cases hw1
      exact l0 τ ρ v3 hv3 g1 g2 g3 g4 g5 g6
set_option maxRecDepth 100000 in
theorem sg_ra71 {σ : pm_S} {Q : Option Value → pm_S → Prop} (x0 : Int) (v3 : Value) (hv3 : v3.category = 1) (hB : an_GB pm_B σ) (eF : (0 ≤ x0 ∧ x0 ≤ 8) ∧ True)
    (l0 : ∀ (τ : pm_S) (y : Nat → Int) (v3 : Value), v3.category = 1 → an_GB pm_B τ → FQ [] σ τ → ((0 ≤ x0 ∧ x0 ≤ 8) ∧ True) → (True) → (True) → (True) → Ok 193 91 72 [.ref 93, .int (Int32.ofInt (x0)), .int (Int32.ofInt 0), v3] [.ref 93] τ Q)
    : Ok 193 91 71 [.ref 93, .int (Int32.ofInt (x0)), .int (Int32.ofInt 0), v3] [] σ Q := by
  refine an_seg (B := pm_B) (F := []) (T := []) (S := []) (fun _ h => absurd h List.not_mem_nil) (k := 193) (d := 90) (cs := [72]) 3 71 1 [(0, 0, 8)] [] [(2, 93, 0), (0, 0, 0), (1, 0, 0), (5, 0, 0)] [] [(72, [(2, 93, 0), (0, 0, 0), (1, 0, 0), (5, 0, 0)], [(2, 93, 0)], [(0, 0, 8)], [], [], [])] (by decide +kernel) (ρ0 := (fun s => [x0].getD s 0)) hB eF trivial ⟨rfl, ⟨rfl, ⟨rfl, ⟨hv3, trivial⟩⟩⟩⟩ trivial ?_
  refine List.forall_mem_cons.mpr ⟨?_, fun _ h => absurd h List.not_mem_nil⟩
  · intro ρ τ Lc stc hx g1 g2 g3 g4 g5 g6 g7 g8
    have e0 : ρ 0 = x0 := hx 0 (by decide)
    subst e0
    have g7 := g7 (by decide)
    match Lc, stc, g7, g8 with
    | [v0, v1, v2, v3], [w0], ⟨hv0, hv1, hv2, hv3, _⟩, ⟨hw0, _⟩ =>
      cases hv0
      cases hv1
      cases hv2
      cases hw0
      exact l0 τ ρ v3 hv3 g1 g2 g3 g4 g5 g6
set_option maxRecDepth 100000 in
theorem sg_ra73 {σ : pm_S} {Q : Option Value → pm_S → Prop} (x0 : Int) (v3 : Value) (hv3 : v3.category = 1) (hB : an_GB pm_B σ) (eF : (0 ≤ x0 ∧ x0 ≤ 8) ∧ True)
    (l0 : ∀ (τ : pm_S) (y : Nat → Int) (v3 : Value), v3.category = 1 → an_GB pm_B τ → FQ [] σ τ → ((0 ≤ x0 ∧ x0 ≤ 8) ∧ True) → (True) → (True) → (True) → Ok 193 91 7 [.ref 93, .int (Int32.ofInt (x0)), .int (Int32.ofInt 1), v3] [] τ Q)
    : Ok 193 91 73 [.ref 93, .int (Int32.ofInt (x0)), .int (Int32.ofInt 0), v3] [] σ Q := by
  refine an_seg (B := pm_B) (F := []) (T := []) (S := []) (fun _ h => absurd h List.not_mem_nil) (k := 193) (d := 90) (cs := [7]) 5 73 1 [(0, 0, 8)] [] [(2, 93, 0), (0, 0, 0), (1, 0, 0), (5, 0, 0)] [] [(7, [(2, 93, 0), (0, 0, 0), (1, 0, 1), (5, 0, 0)], [], [(0, 0, 8)], [], [], [])] (by decide +kernel) (ρ0 := (fun s => [x0].getD s 0)) hB eF trivial ⟨rfl, ⟨rfl, ⟨rfl, ⟨hv3, trivial⟩⟩⟩⟩ trivial ?_
  refine List.forall_mem_cons.mpr ⟨?_, fun _ h => absurd h List.not_mem_nil⟩
  · intro ρ τ Lc stc hx g1 g2 g3 g4 g5 g6 g7 g8
    have e0 : ρ 0 = x0 := hx 0 (by decide)
    subst e0
    have g7 := g7 (by decide)
    match Lc, stc, g7, g8 with
    | [v0, v1, v2, v3], [], ⟨hv0, hv1, hv2, hv3, _⟩, _ =>
      cases hv0
      cases hv1
      cases hv2
      exact l0 τ ρ v3 hv3 g1 g2 g3 g4 g5 g6
set_option maxRecDepth 100000 in
theorem sg_ra83 {σ : pm_S} {Q : Option Value → pm_S → Prop} (x0 : Int) (v3 : Value) (hv3 : v3.category = 1) (hB : an_GB pm_B σ) (eF : (0 ≤ x0 ∧ x0 ≤ 8) ∧ True)
    (l0 : ∀ (τ : pm_S) (y : Nat → Int) (v3 : Value), v3.category = 1 → an_GB pm_B τ → FQ [] σ τ → ((0 ≤ x0 ∧ x0 ≤ 8) ∧ True) → (True) → (True) → (True) → Ok 193 91 85 [.ref 93, .int (Int32.ofInt (x0)), .int (Int32.ofInt 0), v3] [.int (Int32.ofInt 11), .ref 93] τ Q)
    : Ok 193 91 83 [.ref 93, .int (Int32.ofInt (x0)), .int (Int32.ofInt 0), v3] [] σ Q := by
  refine an_seg (B := pm_B) (F := []) (T := []) (S := []) (fun _ h => absurd h List.not_mem_nil) (k := 193) (d := 90) (cs := [85]) 4 83 1 [(0, 0, 8)] [] [(2, 93, 0), (0, 0, 0), (1, 0, 0), (5, 0, 0)] [] [(85, [(2, 93, 0), (0, 0, 0), (1, 0, 0), (5, 0, 0)], [(1, 0, 11), (2, 93, 0)], [(0, 0, 8)], [], [], [])] (by decide +kernel) (ρ0 := (fun s => [x0].getD s 0)) hB eF trivial ⟨rfl, ⟨rfl, ⟨rfl, ⟨hv3, trivial⟩⟩⟩⟩ trivial ?_
  refine List.forall_mem_cons.mpr ⟨?_, fun _ h => absurd h List.not_mem_nil⟩
  · intro ρ τ Lc stc hx g1 g2 g3 g4 g5 g6 g7 g8
    have e0 : ρ 0 = x0 := hx 0 (by decide)
    subst e0
    have g7 := g7 (by decide)
    match Lc, stc, g7, g8 with
    | [v0, v1, v2, v3], [w0, w1], ⟨hv0, hv1, hv2, hv3, _⟩, ⟨hw0, hw1, _⟩ =>
      cases hv0
      cases hv1
      cases hv2
      cases hw0
      cases hw1
      exact l0 τ ρ v3 hv3 g1 g2 g3 g4 g5 g6
set_option maxRecDepth 100000 in
theorem sg_ra86 {σ : pm_S} {Q : Option Value → pm_S → Prop} (x0 : Int) (v3 : Value) (hv3 : v3.category = 1) (hB : an_GB pm_B σ) (eF : (0 ≤ x0 ∧ x0 ≤ 8) ∧ True)
    (l0 : ∀ (τ : pm_S) (y : Nat → Int) (v3 : Value), v3.category = 1 → an_GB pm_B τ → FQ [] σ τ → ((0 ≤ x0 ∧ x0 ≤ 8) ∧ True) → (True) → (True) → (True) → Ok 193 91 88 [.ref 93, .int (Int32.ofInt (x0)), .int (Int32.ofInt 0), v3] [.int (Int32.ofInt 11), .ref 93] τ Q)
    : Ok 193 91 86 [.ref 93, .int (Int32.ofInt (x0)), .int (Int32.ofInt 0), v3] [] σ Q := by
  refine an_seg (B := pm_B) (F := []) (T := []) (S := []) (fun _ h => absurd h List.not_mem_nil) (k := 193) (d := 90) (cs := [88]) 4 86 1 [(0, 0, 8)] [] [(2, 93, 0), (0, 0, 0), (1, 0, 0), (5, 0, 0)] [] [(88, [(2, 93, 0), (0, 0, 0), (1, 0, 0), (5, 0, 0)], [(1, 0, 11), (2, 93, 0)], [(0, 0, 8)], [], [], [])] (by decide +kernel) (ρ0 := (fun s => [x0].getD s 0)) hB eF trivial ⟨rfl, ⟨rfl, ⟨rfl, ⟨hv3, trivial⟩⟩⟩⟩ trivial ?_
  refine List.forall_mem_cons.mpr ⟨?_, fun _ h => absurd h List.not_mem_nil⟩
  · intro ρ τ Lc stc hx g1 g2 g3 g4 g5 g6 g7 g8
    have e0 : ρ 0 = x0 := hx 0 (by decide)
    subst e0
    have g7 := g7 (by decide)
    match Lc, stc, g7, g8 with
    | [v0, v1, v2, v3], [w0, w1], ⟨hv0, hv1, hv2, hv3, _⟩, ⟨hw0, hw1, _⟩ =>
      cases hv0
      cases hv1
      cases hv2
      cases hw0
      cases hw1
      exact l0 τ ρ v3 hv3 g1 g2 g3 g4 g5 g6
set_option maxRecDepth 100000 in
theorem sg_ra89 {σ : pm_S} {Q : Option Value → pm_S → Prop} (x0 : Int) (v3 : Value) (hv3 : v3.category = 1) (hB : an_GB pm_B σ) (eF : (0 ≤ x0 ∧ x0 ≤ 8) ∧ True)
    (l0 : ∀ (τ : pm_S) (y : Nat → Int) (v3 : Value), v3.category = 1 → an_GB pm_B τ → FQ [] σ τ → ((0 ≤ x0 ∧ x0 ≤ 8) ∧ True) → (True) → (True) → (True) → Ok 193 91 90 [.ref 93, .int (Int32.ofInt (x0)), .int (Int32.ofInt 0), v3] [.ref 93] τ Q)
    : Ok 193 91 89 [.ref 93, .int (Int32.ofInt (x0)), .int (Int32.ofInt 0), v3] [] σ Q := by
  refine an_seg (B := pm_B) (F := []) (T := []) (S := []) (fun _ h => absurd h List.not_mem_nil) (k := 193) (d := 90) (cs := [90]) 3 89 1 [(0, 0, 8)] [] [(2, 93, 0), (0, 0, 0), (1, 0, 0), (5, 0, 0)] [] [(90, [(2, 93, 0), (0, 0, 0), (1, 0, 0), (5, 0, 0)], [(2, 93, 0)], [(0, 0, 8)], [], [], [])] (by decide +kernel) (ρ0 := (fun s => [x0].getD s 0)) hB eF trivial ⟨rfl, ⟨rfl, ⟨rfl, ⟨hv3, trivial⟩⟩⟩⟩ trivial ?_
  refine List.forall_mem_cons.mpr ⟨?_, fun _ h => absurd h List.not_mem_nil⟩
  · intro ρ τ Lc stc hx g1 g2 g3 g4 g5 g6 g7 g8
    have e0 : ρ 0 = x0 := hx 0 (by decide)
    subst e0
    have g7 := g7 (by decide)
    match Lc, stc, g7, g8 with
    | [v0, v1, v2, v3], [w0], ⟨hv0, hv1, hv2, hv3, _⟩, ⟨hw0, _⟩ =>
      cases hv0
      cases hv1
      cases hv2
      cases hw0
      exact l0 τ ρ v3 hv3 g1 g2 g3 g4 g5 g6
set_option maxRecDepth 100000 in
theorem sg_ra91 {σ : pm_S} {Q : Option Value → pm_S → Prop} (x0 : Int) (v3 : Value) (hv3 : v3.category = 1) (hB : an_GB pm_B σ) (eF : (0 ≤ x0 ∧ x0 ≤ 8) ∧ True)
    (l0 : ∀ (τ : pm_S) (y : Nat → Int) (v3 : Value), v3.category = 1 → an_GB pm_B τ → FQ [] σ τ → ((0 ≤ x0 ∧ x0 ≤ 8) ∧ True) → (True) → (True) → (True) → Ok 193 91 7 [.ref 93, .int (Int32.ofInt (x0)), .int (Int32.ofInt 1), v3] [] τ Q)
    : Ok 193 91 91 [.ref 93, .int (Int32.ofInt (x0)), .int (Int32.ofInt 0), v3] [] σ Q := by
  refine an_seg (B := pm_B) (F := []) (T := []) (S := []) (fun _ h => absurd h List.not_mem_nil) (k := 193) (d := 90) (cs := [7]) 5 91 1 [(0, 0, 8)] [] [(2, 93, 0), (0, 0, 0), (1, 0, 0), (5, 0, 0)] [] [(7, [(2, 93, 0), (0, 0, 0), (1, 0, 1), (5, 0, 0)], [], [(0, 0, 8)], [], [], [])] (by decide +kernel) (ρ0 := (fun s => [x0].getD s 0)) hB eF trivial ⟨rfl, ⟨rfl, ⟨rfl, ⟨hv3, trivial⟩⟩⟩⟩ trivial ?_
  refine List.forall_mem_cons.mpr ⟨?_, fun _ h => absurd h List.not_mem_nil⟩
  · intro ρ τ Lc stc hx g1 g2 g3 g4 g5 g6 g7 g8
    have e0 : ρ 0 = x0 := hx 0 (by decide)
    subst e0
    have g7 := g7 (by decide)
    match Lc, stc, g7, g8 with
    | [v0, v1, v2, v3], [], ⟨hv0, hv1, hv2, hv3, _⟩, _ =>
      cases hv0
      cases hv1
      cases hv2
      exact l0 τ ρ v3 hv3 g1 g2 g3 g4 g5 g6
set_option maxRecDepth 100000 in
theorem sg_ra97 {σ : pm_S} {Q : Option Value → pm_S → Prop} (x0 : Int) (v3 : Value) (hv3 : v3.category = 1) (hB : an_GB pm_B σ) (eF : (0 ≤ x0 ∧ x0 ≤ 8) ∧ True)
    (l0 : ∀ (τ : pm_S) (y : Nat → Int) (v3 : Value), v3.category = 1 → an_GB pm_B τ → FQ [] σ τ → ((0 ≤ x0 ∧ x0 ≤ 8) ∧ True) → (True) → (True) → (True) → Ok 193 91 99 [.ref 93, .int (Int32.ofInt (x0)), .int (Int32.ofInt 0), v3] [.int (Int32.ofInt 11), .ref 93] τ Q)
    : Ok 193 91 97 [.ref 93, .int (Int32.ofInt (x0)), .int (Int32.ofInt 0), v3] [] σ Q := by
  refine an_seg (B := pm_B) (F := []) (T := []) (S := []) (fun _ h => absurd h List.not_mem_nil) (k := 193) (d := 90) (cs := [99]) 4 97 1 [(0, 0, 8)] [] [(2, 93, 0), (0, 0, 0), (1, 0, 0), (5, 0, 0)] [] [(99, [(2, 93, 0), (0, 0, 0), (1, 0, 0), (5, 0, 0)], [(1, 0, 11), (2, 93, 0)], [(0, 0, 8)], [], [], [])] (by decide +kernel) (ρ0 := (fun s => [x0].getD s 0)) hB eF trivial ⟨rfl, ⟨rfl, ⟨rfl, ⟨hv3, trivial⟩⟩⟩⟩ trivial ?_
  refine List.forall_mem_cons.mpr ⟨?_, fun _ h => absurd h List.not_mem_nil⟩
  · intro ρ τ Lc stc hx g1 g2 g3 g4 g5 g6 g7 g8
    have e0 : ρ 0 = x0 := hx 0 (by decide)
    subst e0
    have g7 := g7 (by decide)
    match Lc, stc, g7, g8 with
    | [v0, v1, v2, v3], [w0, w1], ⟨hv0, hv1, hv2, hv3, _⟩, ⟨hw0, hw1, _⟩ =>
      cases hv0
      cases hv1
      cases hv2
      cases hw0
      cases hw1
      exact l0 τ ρ v3 hv3 g1 g2 g3 g4 g5 g6
set_option maxRecDepth 100000 in
theorem sg_ra100 {σ : pm_S} {Q : Option Value → pm_S → Prop} (x0 x1 x2 : Int) (v3 : Value) (hv3 : v3.category = 1) (hB : an_GB pm_B σ) (eF : (0 ≤ x0 ∧ x0 ≤ 4) ∧ ((-2147483648) ≤ x1 ∧ x1 ≤ 2147483647) ∧ (0 ≤ x2 ∧ x2 ≤ 8) ∧ True) (eC : (σ.1 93 33).toInt = x0 ∧ (σ.1 93 34).toInt = x1 ∧ True)
    (l0 : ∀ (τ : pm_S) (y : Nat → Int), an_GB pm_B τ → FQ [(93, 46), (93, 47)] σ τ → ((0 ≤ x0 ∧ x0 ≤ 4) ∧ ((-2147483648) ≤ x1 ∧ x1 ≤ 2147483647) ∧ (1 ≤ x2 ∧ x2 ≤ 8) ∧ True) → (True) → (True) → (True) → Q (some (.int (Int32.ofInt (-1)))) τ)
    (l1 : ∀ (τ : pm_S) (y : Nat → Int) (v3 : Value), v3.category = 1 → an_GB pm_B τ → FQ [(93, 46), (93, 47)] σ τ → ((4 ≤ x0 ∧ x0 ≤ 4) ∧ (41 ≤ x1 ∧ x1 ≤ 41) ∧ (1 ≤ x2 ∧ x2 ≤ 8) ∧ True) → (True) → (True) → (True) → Ok 193 91 112 [.ref 93, .int (Int32.ofInt (x2)), .int (Int32.ofInt 0), v3] [] τ Q)
    (l2 : ∀ (τ : pm_S) (y : Nat → Int), an_GB pm_B τ → FQ [(93, 46), (93, 47)] σ τ → ((0 ≤ x0 ∧ x0 ≤ 4) ∧ ((-2147483648) ≤ x1 ∧ x1 ≤ 2147483647) ∧ (0 ≤ x2 ∧ x2 ≤ 0) ∧ True) → (True) → (True) → (True) → Q (some (.int (Int32.ofInt 0))) τ)
    : Ok 193 91 100 [.ref 93, .int (Int32.ofInt (x2)), .int (Int32.ofInt 0), v3] [] σ Q := by
  refine an_seg (B := pm_B) (F := [(93, 46), (93, 47)]) (T := []) (S := []) (fun _ h => absurd h List.not_mem_nil) (k := 193) (d := 90) (cs := [112]) 31 100 3 [(0, 0, 4), (1, (-2147483648), 2147483647), (2, 0, 8)] [(93, (1, 0, 33), (0, 0, 0)), (93, (1, 0, 34), (0, 1, 0))] [(2, 93, 0), (0, 2, 0), (1, 0, 0), (5, 0, 0)] [] [(9999, [], [(1, 0, (-1))], [(0, 0, 4), (1, (-2147483648), 2147483647), (2, 1, 8)], [], [], []),
    (112, [(2, 93, 0), (0, 2, 0), (1, 0, 0), (5, 0, 0)], [], [(0, 4, 4), (1, 41, 41), (2, 1, 8)], [], [], []),
    (9999, [], [(1, 0, 0)], [(0, 0, 4), (1, (-2147483648), 2147483647), (2, 0, 0)], [], [], [])] (by decide +kernel) (ρ0 := (fun s => [x0, x1, x2].getD s 0)) hB eF eC ⟨rfl, ⟨rfl, ⟨rfl, ⟨hv3, trivial⟩⟩⟩⟩ trivial ?_
  refine List.forall_mem_cons.mpr ⟨?_, List.forall_mem_cons.mpr ⟨?_, List.forall_mem_cons.mpr ⟨?_, fun _ h => absurd h List.not_mem_nil⟩⟩⟩
  · intro ρ τ Lc stc hx g1 g2 g3 g4 g5 g6 g7 g8
    have e0 : ρ 0 = x0 := hx 0 (by decide)
    have e1 : ρ 1 = x1 := hx 1 (by decide)
    have e2 : ρ 2 = x2 := hx 2 (by decide)
    subst e0
    subst e1
    subst e2
    match stc, g8 with
    | [_], ⟨h, _⟩ => cases h; exact l0 τ ρ g1 g2 g3 g4 g5 g6
  · intro ρ τ Lc stc hx g1 g2 g3 g4 g5 g6 g7 g8
    have e0 : ρ 0 = x0 := hx 0 (by decide)
    have e1 : ρ 1 = x1 := hx 1 (by decide)
    have e2 : ρ 2 = x2 := hx 2 (by decide)
    subst e0
    subst e1
    subst e2
    have g7 := g7 (by decide)
    match Lc, stc, g7, g8 with
    | [v0, v1, v2, v3], [], ⟨hv0, hv1, hv2, hv3, _⟩, _ =>
      cases hv0
      cases hv1
      cases hv2
      exact l1 τ ρ v3 hv3 g1 g2 g3 g4 g5 g6
  · intro ρ τ Lc stc hx g1 g2 g3 g4 g5 g6 g7 g8
    have e0 : ρ 0 = x0 := hx 0 (by decide)
    have e1 : ρ 1 = x1 := hx 1 (by decide)
    have e2 : ρ 2 = x2 := hx 2 (by decide)
    subst e0
    subst e1
    subst e2
    match stc, g8 with
    | [_], ⟨h, _⟩ => cases h; exact l2 τ ρ g1 g2 g3 g4 g5 g6
set_option maxRecDepth 100000 in
theorem sg_ra112 {σ : pm_S} {Q : Option Value → pm_S → Prop} (x0 x1 x2 : Int) (v3 : Value) (hv3 : v3.category = 1) (hB : an_GB pm_B σ) (eF : (1 ≤ x0 ∧ x0 ≤ 8) ∧ (1 ≤ x1 ∧ x1 ≤ 40) ∧ (1 ≤ x2 ∧ x2 ≤ 8) ∧ True) (eC : (σ.1 93 45).toInt = x1 ∧ (σ.1 93 43).toInt = x2 ∧ True)
    (l0 : ∀ (τ : pm_S) (y : Nat → Int) (v3 : Value), v3.category = 1 → an_GB pm_B τ → FQ [(93, 43), (93, 45)] σ τ → ((1 ≤ x0 ∧ x0 ≤ 8) ∧ (1 ≤ x1 ∧ x1 ≤ 40) ∧ (1 ≤ x2 ∧ x2 ≤ 8) ∧ True) → (True) → (True) → ((τ.1 93 43).toInt = x2 + (-1) ∧ (τ.1 93 45).toInt = x1 + (-1) ∧ True) → Ok 193 91 130 [.ref 93, .int (Int32.ofInt (x0 + (-1))), .int (Int32.ofInt 0), v3] [.int (Int32.ofInt 9), .ref 93] τ Q)
    : Ok 193 91 112 [.ref 93, .int (Int32.ofInt (x0)), .int (Int32.ofInt 0), v3] [] σ Q := by
  refine an_seg (B := pm_B) (F := [(93, 43), (93, 45)]) (T := []) (S := []) (fun _ h => absurd h List.not_mem_nil) (k := 193) (d := 90) (cs := [130]) 20 112 3 [(0, 1, 8), (1, 1, 40), (2, 1, 8)] [(93, (1, 0, 45), (0, 1, 0)), (93, (1, 0, 43), (0, 2, 0))] [(2, 93, 0), (0, 0, 0), (1, 0, 0), (5, 0, 0)] [] [(130, [(2, 93, 0), (0, 0, (-1)), (1, 0, 0), (5, 0, 0)], [(1, 0, 9), (2, 93, 0)], [(0, 1, 8), (1, 1, 40), (2, 1, 8)], [], [], [(93, (1, 0, 43), (0, 2, (-1))), (93, (1, 0, 45), (0, 1, (-1)))])] (by decide +kernel) (ρ0 := (fun s => [x0, x1, x2].getD s 0)) hB eF eC ⟨rfl, ⟨rfl, ⟨rfl, ⟨hv3, trivial⟩⟩⟩⟩ trivial ?_
  refine List.forall_mem_cons.mpr ⟨?_, fun _ h => absurd h List.not_mem_nil⟩
  · intro ρ τ Lc stc hx g1 g2 g3 g4 g5 g6 g7 g8
    have e0 : ρ 0 = x0 := hx 0 (by decide)
    have e1 : ρ 1 = x1 := hx 1 (by decide)
    have e2 : ρ 2 = x2 := hx 2 (by decide)
    subst e0
    subst e1
    subst e2
    have g7 := g7 (by decide)
    match Lc, stc, g7, g8 with
    | [v0, v1, v2, v3], [w0, w1], ⟨hv0, hv1, hv2, hv3, _⟩, ⟨hw0, hw1, _⟩ =>
      cases hv0
      cases hv1
      cases hv2
      cases hw0
      cases hw1
      exact l0 τ ρ v3 hv3 g1 g2 g3 g4 g5 g6
set_option maxRecDepth 100000 in
theorem sg_ra131 {σ : pm_S} {Q : Option Value → pm_S → Prop} (x0 : Int) (v3 : Value) (hv3 : v3.category = 1) (hB : an_GB pm_B σ) (eF : (0 ≤ x0 ∧ x0 ≤ 8) ∧ True)
    (l0 : ∀ (τ : pm_S) (y : Nat → Int) (v3 : Value), v3.category = 1 → an_GB pm_B τ → FQ [] σ τ → ((0 ≤ x0 ∧ x0 ≤ 8) ∧ True) → (True) → (True) → (True) → Ok 193 91 132 [.ref 93, .int (Int32.ofInt (x0)), .int (Int32.ofInt 0), v3] [.ref 93] τ Q)
    : Ok 193 91 131 [.ref 93, .int (Int32.ofInt (x0)), .int (Int32.ofInt 0), v3] [] σ Q := by
  refine an_seg (B := pm_B) (F := []) (T := []) (S := []) (fun _ h => absurd h List.not_mem_nil) (k := 193) (d := 90) (cs := [132]) 3 131 1 [(0, 0, 8)] [] [(2, 93, 0), (0, 0, 0), (1, 0, 0), (5, 0, 0)] [] [(132, [(2, 93, 0), (0, 0, 0), (1, 0, 0), (5, 0, 0)], [(2, 93, 0)], [(0, 0, 8)], [], [], [])] (by decide +kernel) (ρ0 := (fun s => [x0].getD s 0)) hB eF trivial ⟨rfl, ⟨rfl, ⟨rfl, ⟨hv3, trivial⟩⟩⟩⟩ trivial ?_
  refine List.forall_mem_cons.mpr ⟨?_, fun _ h => absurd h List.not_mem_nil⟩
  · intro ρ τ Lc stc hx g1 g2 g3 g4 g5 g6 g7 g8
    have e0 : ρ 0 = x0 := hx 0 (by decide)
    subst e0
    have g7 := g7 (by decide)
    match Lc, stc, g7, g8 with
    | [v0, v1, v2, v3], [w0], ⟨hv0, hv1, hv2, hv3, _⟩, ⟨hw0, _⟩ =>
      cases hv0
      cases hv1
      cases hv2
      cases hw0
      exact l0 τ ρ v3 hv3 g1 g2 g3 g4 g5 g6
set_option maxRecDepth 100000 in
theorem sg_ra133 {σ : pm_S} {Q : Option Value → pm_S → Prop} (x0 : Int) (v3 : Value) (hv3 : v3.category = 1) (hB : an_GB pm_B σ) (eF : (0 ≤ x0 ∧ x0 ≤ 8) ∧ True)
    (l0 : ∀ (τ : pm_S) (y : Nat → Int) (v3 : Value), v3.category = 1 → an_GB pm_B τ → FQ [] σ τ → ((0 ≤ x0 ∧ x0 ≤ 8) ∧ True) → (True) → (True) → (True) → Ok 193 91 7 [.ref 93, .int (Int32.ofInt (x0)), .int (Int32.ofInt 0), v3] [] τ Q)
    : Ok 193 91 133 [.ref 93, .int (Int32.ofInt (x0)), .int (Int32.ofInt 0), v3] [] σ Q := by
  refine an_seg (B := pm_B) (F := []) (T := []) (S := []) (fun _ h => absurd h List.not_mem_nil) (k := 193) (d := 90) (cs := [7]) 3 133 1 [(0, 0, 8)] [] [(2, 93, 0), (0, 0, 0), (1, 0, 0), (5, 0, 0)] [] [(7, [(2, 93, 0), (0, 0, 0), (1, 0, 0), (5, 0, 0)], [], [(0, 0, 8)], [], [], [])] (by decide +kernel) (ρ0 := (fun s => [x0].getD s 0)) hB eF trivial ⟨rfl, ⟨rfl, ⟨rfl, ⟨hv3, trivial⟩⟩⟩⟩ trivial ?_
  refine List.forall_mem_cons.mpr ⟨?_, fun _ h => absurd h List.not_mem_nil⟩
  · intro ρ τ Lc stc hx g1 g2 g3 g4 g5 g6 g7 g8
    have e0 : ρ 0 = x0 := hx 0 (by decide)
    subst e0
    have g7 := g7 (by decide)
    match Lc, stc, g7, g8 with
    | [v0, v1, v2, v3], [], ⟨hv0, hv1, hv2, hv3, _⟩, _ =>
      cases hv0
      cases hv1
      cases hv2
      exact l0 τ ρ v3 hv3 g1 g2 g3 g4 g5 g6
