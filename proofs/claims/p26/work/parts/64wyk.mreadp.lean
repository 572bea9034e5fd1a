/-! the model's reader: pieces -/
set_option maxRecDepth 100000 in
theorem mq_r0 {σ : pm_S} {Q : Option Value → pm_S → Prop} (x0 x1 : Int)  (hB : an_GB pm_B σ) (eF : (0 ≤ x0 ∧ x0 ≤ 400) ∧ (0 ≤ x1 ∧ x1 ≤ 400) ∧ True) (eC : (σ.1 93 30).toInt = x1 ∧ True)
    (l0 : ∀ (τ : pm_S) (y : Nat → Int), an_GB pm_B τ → FQ [] σ τ → ((0 ≤ x0 ∧ x0 ≤ 400) ∧ (0 ≤ x1 ∧ x1 ≤ 400) ∧ True) → (True) → (True) → ((τ.1 93 30).toInt = x1 ∧ True) → Ok 177 4 3 [.ref 93, .int (Int32.ofInt (x0))] [.int (Int32.ofInt (x1)), .int (Int32.ofInt (x0))] τ Q)
    : Ok 177 4 0 [.ref 93, .int (Int32.ofInt (x0))] [] σ Q := by
  refine an_seg (B := pm_B) (F := []) (T := []) (S := []) (fun _ h => absurd h List.not_mem_nil) (k := 177) (d := 3) (cs := [3]) 5 0 2 [(0, 0, 400), (1, 0, 400)] [(93, (1, 0, 30), (0, 1, 0))] [(2, 93, 0), (0, 0, 0)] [] [(3, [(2, 93, 0), (0, 0, 0)], [(0, 1, 0), (0, 0, 0)], [(0, 0, 400), (1, 0, 400)], [], [], [(93, (1, 0, 30), (0, 1, 0))])] (by decide +kernel) (ρ0 := (fun s => [x0, x1].getD s 0)) hB eF eC ⟨rfl, ⟨rfl, trivial⟩⟩ trivial ?_
  refine List.forall_mem_cons.mpr ⟨?_, fun _ h => absurd h List.not_mem_nil⟩
  · intro ρ τ Lc stc hx g1 g2 g3 g4 g5 g6 g7 g8
    have e0 : ρ 0 = x0 := hx 0 (by decide)
    have e1 : ρ 1 = x1 := hx 1 (by decide)
    subst e0
    subst e1
    have g7 := g7 (by decide)
    match Lc, stc, g7, g8 with
    | [v0, v1], [w0, w1], ⟨hv0, hv1, _⟩, ⟨hw0, hw1, _⟩ =>
      cases hv0
      cases hv1
      cases hw0
      cases hw1
      exact l0 τ ρ  g1 g2 g3 g4 g5 g6
set_option maxRecDepth 100000 in
theorem mq_r4 {σ : pm_S} {Q : Option Value → pm_S → Prop} (x0 : Int)  (hB : an_GB pm_B σ) (eF : (0 ≤ x0 ∧ x0 ≤ 399) ∧ True)
    (l0 : ∀ (τ : pm_S) (y : Nat → Int), an_GB pm_B τ → FQ [] σ τ → ((0 ≤ x0 ∧ x0 ≤ 399) ∧ (0 ≤ y 1 ∧ y 1 ≤ 255) ∧ True) → (True) → (True) → ((τ.1 114 (x0).toNat).toInt = y 1 ∧ True) → Q (some (.int (Int32.ofInt (y 1)))) τ)
    : Ok 177 4 4 [.ref 93, .int (Int32.ofInt (x0))] [] σ Q := by
  refine an_seg (B := pm_B) (F := []) (T := [114]) (S := []) (fun _ h => absurd h List.not_mem_nil) (k := 177) (d := 3) (cs := []) 8 4 1 [(0, 0, 399)] [] [(2, 93, 0), (0, 0, 0)] [] [(9999, [], [(0, 1, 0)], [(0, 0, 399), (1, 0, 255)], [], [], [(114, (0, 0, 0), (0, 1, 0))])] (by decide +kernel) (ρ0 := (fun s => [x0].getD s 0)) hB eF trivial ⟨rfl, ⟨rfl, trivial⟩⟩ trivial ?_
  refine List.forall_mem_cons.mpr ⟨?_, fun _ h => absurd h List.not_mem_nil⟩
  · intro ρ τ Lc stc hx g1 g2 g3 g4 g5 g6 g7 g8
    have e0 : ρ 0 = x0 := hx 0 (by decide)
    subst e0
    match stc, g8 with
    | [_], ⟨h, _⟩ => cases h; exact l0 τ ρ g1 g2 g3 g4 g5 g6
set_option maxRecDepth 100000 in
theorem mq_r9 {σ : pm_S} {Q : Option Value → pm_S → Prop} (x0 : Int)  (hB : an_GB pm_B σ) (eF : (0 ≤ x0 ∧ x0 ≤ 400) ∧ True)
    (l0 : ∀ (τ : pm_S) (y : Nat → Int), an_GB pm_B τ → FQ [] σ τ → ((0 ≤ x0 ∧ x0 ≤ 400) ∧ True) → (True) → (True) → (True) → Q (some (.int (Int32.ofInt (-1)))) τ)
    : Ok 177 4 9 [.ref 93, .int (Int32.ofInt (x0))] [] σ Q := by
  refine an_seg (B := pm_B) (F := []) (T := []) (S := []) (fun _ h => absurd h List.not_mem_nil) (k := 177) (d := 3) (cs := []) 4 9 1 [(0, 0, 400)] [] [(2, 93, 0), (0, 0, 0)] [] [(9999, [], [(1, 0, (-1))], [(0, 0, 400)], [], [], [])] (by decide +kernel) (ρ0 := (fun s => [x0].getD s 0)) hB eF trivial ⟨rfl, ⟨rfl, trivial⟩⟩ trivial ?_
  refine List.forall_mem_cons.mpr ⟨?_, fun _ h => absurd h List.not_mem_nil⟩
  · intro ρ τ Lc stc hx g1 g2 g3 g4 g5 g6 g7 g8
    have e0 : ρ 0 = x0 := hx 0 (by decide)
    subst e0
    match stc, g8 with
    | [_], ⟨h, _⟩ => cases h; exact l0 τ ρ g1 g2 g3 g4 g5 g6
set_option maxRecDepth 100000 in
theorem mq_s0 {σ : pm_S} {Q : Option Value → pm_S → Prop} (x0 : Int) (v1 : Value) (hv1 : v1.category = 1) (hB : an_GB pm_B σ) (eF : (0 ≤ x0 ∧ x0 ≤ 400) ∧ True) (eC : (σ.1 93 31).toInt = x0 ∧ True)
    (l0 : ∀ (τ : pm_S) (y : Nat → Int) (v1 : Value), v1.category = 1 → an_GB pm_B τ → FQ [] σ τ → ((0 ≤ x0 ∧ x0 ≤ 400) ∧ True) → (True) → (True) → ((τ.1 93 31).toInt = x0 ∧ True) → Ok 182 14 3 [.ref 93, v1] [.int (Int32.ofInt (x0)), .ref 93] τ Q)
    : Ok 182 14 0 [.ref 93, v1] [] σ Q := by
  refine an_seg (B := pm_B) (F := []) (T := []) (S := []) (fun _ h => absurd h List.not_mem_nil) (k := 182) (d := 13) (cs := [3]) 5 0 1 [(0, 0, 400)] [(93, (1, 0, 31), (0, 0, 0))] [(2, 93, 0), (5, 0, 0)] [] [(3, [(2, 93, 0), (5, 0, 0)], [(0, 0, 0), (2, 93, 0)], [(0, 0, 400)], [], [], [(93, (1, 0, 31), (0, 0, 0))])] (by decide +kernel) (ρ0 := (fun s => [x0].getD s 0)) hB eF eC ⟨rfl, ⟨hv1, trivial⟩⟩ trivial ?_
  refine List.forall_mem_cons.mpr ⟨?_, fun _ h => absurd h List.not_mem_nil⟩
  · intro ρ τ Lc stc hx g1 g2 g3 g4 g5 g6 g7 g8
    have e0 : ρ 0 = x0 := hx 0 (by decide)
    subst e0
    have g7 := g7 (by decide)
    match Lc, stc, g7, g8 with
    | [v0, v1], [w0, w1], ⟨hv0, hv1, _⟩, ⟨hw0, hw1, _⟩ =>
      cases hv0
      cases hw0
      cases hw1
      exact l0 τ ρ v1 hv1 g1 g2 g3 g4 g5 g6
set_option maxRecDepth 100000 in
theorem mq_s4 {σ : pm_S} {Q : Option Value → pm_S → Prop} (x0 x1 : Int) (v1 : Value) (hv1 : v1.category = 1) (hB : an_GB pm_B σ) (eF : (0 ≤ x0 ∧ x0 ≤ 400) ∧ ((-1) ≤ x1 ∧ x1 ≤ 255) ∧ True) (eC : (σ.1 93 31).toInt = x0 ∧ True)
    (l0 : ∀ (τ : pm_S) (y : Nat → Int) (v1 : Value), v1.category = 1 → an_GB pm_B τ → FQ [] σ τ → ((0 ≤ x0 ∧ x0 ≤ 400) ∧ (32 ≤ x1 ∧ x1 ≤ 32) ∧ True) → (True) → (True) → ((τ.1 93 31).toInt = x0 ∧ True) → Ok 182 14 12 [.ref 93, v1] [] τ Q)
    (l1 : ∀ (τ : pm_S) (y : Nat → Int) (v1 : Value), v1.category = 1 → an_GB pm_B τ → FQ [] σ τ → ((0 ≤ x0 ∧ x0 ≤ 400) ∧ ((-1) ≤ x1 ∧ x1 ≤ 255) ∧ True) → (x1 ≠ 32 ∧ True) → (True) → ((τ.1 93 31).toInt = x0 ∧ True) → Ok 182 14 9 [.ref 93, v1] [.int (Int32.ofInt (x0)), .ref 93] τ Q)
    : Ok 182 14 4 [.ref 93, v1] [.int (Int32.ofInt (x1))] σ Q := by
  refine an_seg (B := pm_B) (F := []) (T := []) (S := []) (fun _ h => absurd h List.not_mem_nil) (k := 182) (d := 13) (cs := [9, 12]) 7 4 2 [(0, 0, 400), (1, (-1), 255)] [(93, (1, 0, 31), (0, 0, 0))] [(2, 93, 0), (5, 0, 0)] [(0, 1, 0)] [(12, [(2, 93, 0), (5, 0, 0)], [], [(0, 0, 400), (1, 32, 32)], [], [], [(93, (1, 0, 31), (0, 0, 0))]),
    (9, [(2, 93, 0), (5, 0, 0)], [(0, 0, 0), (2, 93, 0)], [(0, 0, 400), (1, (-1), 255)], [(3, 1, 1, 32)], [], [(93, (1, 0, 31), (0, 0, 0))])] (by decide +kernel) (ρ0 := (fun s => [x0, x1].getD s 0)) hB eF eC ⟨rfl, ⟨hv1, trivial⟩⟩ ⟨rfl, trivial⟩ ?_
  refine List.forall_mem_cons.mpr ⟨?_, List.forall_mem_cons.mpr ⟨?_, fun _ h => absurd h List.not_mem_nil⟩⟩
  · intro ρ τ Lc stc hx g1 g2 g3 g4 g5 g6 g7 g8
    have e0 : ρ 0 = x0 := hx 0 (by decide)
    have e1 : ρ 1 = x1 := hx 1 (by decide)
    subst e0
    subst e1
    have g7 := g7 (by decide)
    match Lc, stc, g7, g8 with
    | [v0, v1], [], ⟨hv0, hv1, _⟩, _ =>
      cases hv0
      exact l0 τ ρ v1 hv1 g1 g2 g3 g4 g5 g6
  · intro ρ τ Lc stc hx g1 g2 g3 g4 g5 g6 g7 g8
    have e0 : ρ 0 = x0 := hx 0 (by decide)
    have e1 : ρ 1 = x1 := hx 1 (by decide)
    subst e0
    subst e1
    have g7 := g7 (by decide)
    match Lc, stc, g7, g8 with
    | [v0, v1], [w0, w1], ⟨hv0, hv1, _⟩, ⟨hw0, hw1, _⟩ =>
      cases hv0
      cases hw0
      cases hw1
      exact l1 τ ρ v1 hv1 g1 g2 g3 g4 g5 g6
set_option maxRecDepth 100000 in
theorem mq_s10 {σ : pm_S} {Q : Option Value → pm_S → Prop} (x0 x1 : Int) (v1 : Value) (hv1 : v1.category = 1) (hB : an_GB pm_B σ) (eF : (0 ≤ x0 ∧ x0 ≤ 400) ∧ ((-1) ≤ x1 ∧ x1 ≤ 255) ∧ True) (eC : (σ.1 93 31).toInt = x0 ∧ True)
    (l0 : ∀ (τ : pm_S) (y : Nat → Int) (v1 : Value), v1.category = 1 → an_GB pm_B τ → FQ [(93, 32), (93, 33)] σ τ → ((0 ≤ x0 ∧ x0 ≤ 400) ∧ (10 ≤ x1 ∧ x1 ≤ 10) ∧ True) → (True) → (True) → ((τ.1 93 31).toInt = x0 ∧ True) → Ok 182 14 12 [.ref 93, v1] [] τ Q)
    (l1 : ∀ (τ : pm_S) (y : Nat → Int) (v1 : Value), v1.category = 1 → an_GB pm_B τ → FQ [(93, 32), (93, 33)] σ τ → ((0 ≤ x0 ∧ x0 ≤ 400) ∧ ((-1) ≤ x1 ∧ x1 ≤ 255) ∧ True) → (x1 ≠ 10 ∧ True) → (True) → ((τ.1 93 31).toInt = x0 ∧ (τ.1 93 32).toInt = x0 ∧ (τ.1 93 33).toInt = 1 ∧ True) → Ok 182 14 29 [.ref 93, v1] [.int (Int32.ofInt (x0)), .ref 93] τ Q)
    : Ok 182 14 10 [.ref 93, v1] [.int (Int32.ofInt (x1))] σ Q := by
  refine an_seg (B := pm_B) (F := [(93, 32), (93, 33)]) (T := []) (S := []) (fun _ h => absurd h List.not_mem_nil) (k := 182) (d := 13) (cs := [12, 29]) 14 10 2 [(0, 0, 400), (1, (-1), 255)] [(93, (1, 0, 31), (0, 0, 0))] [(2, 93, 0), (5, 0, 0)] [(0, 1, 0)] [(12, [(2, 93, 0), (5, 0, 0)], [], [(0, 0, 400), (1, 10, 10)], [], [], [(93, (1, 0, 31), (0, 0, 0))]),
    (29, [(2, 93, 0), (5, 0, 0)], [(0, 0, 0), (2, 93, 0)], [(0, 0, 400), (1, (-1), 255)], [(3, 1, 1, 10)], [], [(93, (1, 0, 31), (0, 0, 0)), (93, (1, 0, 32), (0, 0, 0)), (93, (1, 0, 33), (1, 0, 1))])] (by decide +kernel) (ρ0 := (fun s => [x0, x1].getD s 0)) hB eF eC ⟨rfl, ⟨hv1, trivial⟩⟩ ⟨rfl, trivial⟩ ?_
  refine List.forall_mem_cons.mpr ⟨?_, List.forall_mem_cons.mpr ⟨?_, fun _ h => absurd h List.not_mem_nil⟩⟩
  · intro ρ τ Lc stc hx g1 g2 g3 g4 g5 g6 g7 g8
    have e0 : ρ 0 = x0 := hx 0 (by decide)
    have e1 : ρ 1 = x1 := hx 1 (by decide)
    subst e0
    subst e1
    have g7 := g7 (by decide)
    match Lc, stc, g7, g8 with
    | [v0, v1], [], ⟨hv0, hv1, _⟩, _ =>
      cases hv0
      exact l0 τ ρ v1 hv1 g1 g2 g3 g4 g5 g6
  · intro ρ τ Lc stc hx g1 g2 g3 g4 g5 g6 g7 g8
    have e0 : ρ 0 = x0 := hx 0 (by decide)
    have e1 : ρ 1 = x1 := hx 1 (by decide)
    subst e0
    subst e1
    have g7 := g7 (by decide)
    match Lc, stc, g7, g8 with
    | [v0, v1], [w0, w1], ⟨hv0, hv1, _⟩, ⟨hw0, hw1, _⟩ =>
      cases hv0
      cases hw0
      cases hw1
      exact l1 τ ρ v1 hv1 g1 g2 g3 g4 g5 g6
set_option maxRecDepth 100000 in
theorem mq_s12 {σ : pm_S} {Q : Option Value → pm_S → Prop} (x0 : Int) (v1 : Value) (hv1 : v1.category = 1) (hB : an_GB pm_B σ) (eF : (0 ≤ x0 ∧ x0 ≤ 399) ∧ True) (eC : (σ.1 93 31).toInt = x0 ∧ True)
    (l0 : ∀ (τ : pm_S) (y : Nat → Int) (v1 : Value), v1.category = 1 → an_GB pm_B τ → FQ [(93, 31)] σ τ → ((0 ≤ x0 ∧ x0 ≤ 399) ∧ True) → (True) → (True) → ((τ.1 93 31).toInt = x0 + 1 ∧ True) → Ok 182 14 0 [.ref 93, v1] [] τ Q)
    : Ok 182 14 12 [.ref 93, v1] [] σ Q := by
  refine an_seg (B := pm_B) (F := [(93, 31)]) (T := []) (S := []) (fun _ h => absurd h List.not_mem_nil) (k := 182) (d := 13) (cs := [0]) 9 12 1 [(0, 0, 399)] [(93, (1, 0, 31), (0, 0, 0))] [(2, 93, 0), (5, 0, 0)] [] [(0, [(2, 93, 0), (5, 0, 0)], [], [(0, 0, 399)], [], [], [(93, (1, 0, 31), (0, 0, 1))])] (by decide +kernel) (ρ0 := (fun s => [x0].getD s 0)) hB eF eC ⟨rfl, ⟨hv1, trivial⟩⟩ trivial ?_
  refine List.forall_mem_cons.mpr ⟨?_, fun _ h => absurd h List.not_mem_nil⟩
  · intro ρ τ Lc stc hx g1 g2 g3 g4 g5 g6 g7 g8
    have e0 : ρ 0 = x0 := hx 0 (by decide)
    subst e0
    have g7 := g7 (by decide)
    match Lc, stc, g7, g8 with
    | [v0, v1], [], ⟨hv0, hv1, _⟩, _ =>
      cases hv0
      exact l0 τ ρ v1 hv1 g1 g2 g3 g4 g5 g6
set_option maxRecDepth 100000 in
theorem mq_s30 {σ : pm_S} {Q : Option Value → pm_S → Prop} (x0 x1 : Int) (v1 : Value) (hv1 : v1.category = 1) (hB : an_GB pm_B σ) (eF : (0 ≤ x0 ∧ x0 ≤ 400) ∧ ((-1) ≤ x1 ∧ x1 ≤ 255) ∧ True) (eC : (σ.1 93 31).toInt = x0 ∧ (σ.1 93 33).toInt = 1 ∧ True)
    (l0 : ∀ (τ : pm_S) (y : Nat → Int), an_GB pm_B τ → FQ [(93, 33)] σ τ → ((0 ≤ x0 ∧ x0 ≤ 400) ∧ (0 ≤ x1 ∧ x1 ≤ 255) ∧ True) → (True) → (True) → ((τ.1 93 31).toInt = x0 ∧ (τ.1 93 33).toInt = 1 ∧ True) → Ok 182 14 38 [.ref 93, .int (Int32.ofInt (x1))] [] τ Q)
    (l1 : ∀ (τ : pm_S) (y : Nat → Int), an_GB pm_B τ → FQ [(93, 33)] σ τ → ((0 ≤ x0 ∧ x0 ≤ 400) ∧ ((-1) ≤ x1 ∧ x1 ≤ (-1)) ∧ True) → (True) → (True) → ((τ.1 93 31).toInt = x0 ∧ (τ.1 93 33).toInt = 0 ∧ True) → Q none τ)
    : Ok 182 14 30 [.ref 93, v1] [.int (Int32.ofInt (x1))] σ Q := by
  refine an_seg (B := pm_B) (F := [(93, 33)]) (T := []) (S := []) (fun _ h => absurd h List.not_mem_nil) (k := 182) (d := 13) (cs := [38]) 10 30 2 [(0, 0, 400), (1, (-1), 255)] [(93, (1, 0, 31), (0, 0, 0)), (93, (1, 0, 33), (1, 0, 1))] [(2, 93, 0), (5, 0, 0)] [(0, 1, 0)] [(38, [(2, 93, 0), (0, 1, 0)], [], [(0, 0, 400), (1, 0, 255)], [], [], [(93, (1, 0, 31), (0, 0, 0)), (93, (1, 0, 33), (1, 0, 1))]),
    (9999, [], [], [(0, 0, 400), (1, (-1), (-1))], [], [], [(93, (1, 0, 31), (0, 0, 0)), (93, (1, 0, 33), (1, 0, 0))])] (by decide +kernel) (ρ0 := (fun s => [x0, x1].getD s 0)) hB eF eC ⟨rfl, ⟨hv1, trivial⟩⟩ ⟨rfl, trivial⟩ ?_
  refine List.forall_mem_cons.mpr ⟨?_, List.forall_mem_cons.mpr ⟨?_, fun _ h => absurd h List.not_mem_nil⟩⟩
  · intro ρ τ Lc stc hx g1 g2 g3 g4 g5 g6 g7 g8
    have e0 : ρ 0 = x0 := hx 0 (by decide)
    have e1 : ρ 1 = x1 := hx 1 (by decide)
    subst e0
    subst e1
    have g7 := g7 (by decide)
    match Lc, stc, g7, g8 with
    | [v0, v1], [], ⟨hv0, hv1, _⟩, _ =>
      cases hv0
      cases hv1
      exact l0 τ ρ  g1 g2 g3 g4 g5 g6
  · intro ρ τ Lc stc hx g1 g2 g3 g4 g5 g6 g7 g8
    have e0 : ρ 0 = x0 := hx 0 (by decide)
    have e1 : ρ 1 = x1 := hx 1 (by decide)
    subst e0
    subst e1
    match stc, g8 with
    | [], _ => exact l1 τ ρ g1 g2 g3 g4 g5 g6
set_option maxRecDepth 100000 in
theorem mq_s38 {σ : pm_S} {Q : Option Value → pm_S → Prop} (x0 x1 : Int)  (hB : an_GB pm_B σ) (eF : (0 ≤ x0 ∧ x0 ≤ 399) ∧ (0 ≤ x1 ∧ x1 ≤ 255) ∧ True) (eC : (σ.1 93 31).toInt = x0 ∧ (σ.1 93 33).toInt = 1 ∧ True)
    (l0 : ∀ (τ : pm_S) (y : Nat → Int), an_GB pm_B τ → FQ [(93, 31), (93, 33), (93, 34)] σ τ → ((0 ≤ x0 ∧ x0 ≤ 399) ∧ (43 ≤ x1 ∧ x1 ≤ 43) ∧ True) → (x1 ≠ 59 ∧ True) → (True) → ((τ.1 93 31).toInt = x0 + 1 ∧ (τ.1 93 33).toInt = 4 ∧ (τ.1 93 34).toInt = x1 ∧ True) → Q none τ)
    (l1 : ∀ (τ : pm_S) (y : Nat → Int), an_GB pm_B τ → FQ [(93, 31), (93, 33), (93, 34)] σ τ → ((0 ≤ x0 ∧ x0 ≤ 399) ∧ (45 ≤ x1 ∧ x1 ≤ 45) ∧ True) → (x1 ≠ 43 ∧ x1 ≠ 59 ∧ True) → (True) → ((τ.1 93 31).toInt = x0 + 1 ∧ (τ.1 93 33).toInt = 4 ∧ (τ.1 93 34).toInt = x1 ∧ True) → Q none τ)
    (l2 : ∀ (τ : pm_S) (y : Nat → Int), an_GB pm_B τ → FQ [(93, 31), (93, 33), (93, 34)] σ τ → ((0 ≤ x0 ∧ x0 ≤ 399) ∧ (42 ≤ x1 ∧ x1 ≤ 42) ∧ True) → (x1 ≠ 45 ∧ x1 ≠ 43 ∧ x1 ≠ 59 ∧ True) → (True) → ((τ.1 93 31).toInt = x0 + 1 ∧ (τ.1 93 33).toInt = 4 ∧ (τ.1 93 34).toInt = x1 ∧ True) → Q none τ)
    (l3 : ∀ (τ : pm_S) (y : Nat → Int), an_GB pm_B τ → FQ [(93, 31), (93, 33), (93, 34)] σ τ → ((0 ≤ x0 ∧ x0 ≤ 399) ∧ (47 ≤ x1 ∧ x1 ≤ 47) ∧ True) → (x1 ≠ 42 ∧ x1 ≠ 45 ∧ x1 ≠ 43 ∧ x1 ≠ 59 ∧ True) → (True) → ((τ.1 93 31).toInt = x0 + 1 ∧ (τ.1 93 33).toInt = 4 ∧ (τ.1 93 34).toInt = x1 ∧ True) → Q none τ)
    (l4 : ∀ (τ : pm_S) (y : Nat → Int), an_GB pm_B τ → FQ [(93, 31), (93, 33), (93, 34)] σ τ → ((0 ≤ x0 ∧ x0 ≤ 399) ∧ (40 ≤ x1 ∧ x1 ≤ 40) ∧ True) → (x1 ≠ 42 ∧ x1 ≠ 45 ∧ x1 ≠ 43 ∧ x1 ≠ 59 ∧ True) → (True) → ((τ.1 93 31).toInt = x0 + 1 ∧ (τ.1 93 33).toInt = 4 ∧ (τ.1 93 34).toInt = x1 ∧ True) → Q none τ)
    (l5 : ∀ (τ : pm_S) (y : Nat → Int), an_GB pm_B τ → FQ [(93, 31), (93, 33), (93, 34)] σ τ → ((0 ≤ x0 ∧ x0 ≤ 399) ∧ (41 ≤ x1 ∧ x1 ≤ 41) ∧ True) → (x1 ≠ 40 ∧ x1 ≠ 42 ∧ x1 ≠ 45 ∧ x1 ≠ 43 ∧ x1 ≠ 59 ∧ True) → (True) → ((τ.1 93 31).toInt = x0 + 1 ∧ (τ.1 93 33).toInt = 4 ∧ (τ.1 93 34).toInt = x1 ∧ True) → Q none τ)
    (l6 : ∀ (τ : pm_S) (y : Nat → Int), an_GB pm_B τ → FQ [(93, 31), (93, 33), (93, 34)] σ τ → ((0 ≤ x0 ∧ x0 ≤ 399) ∧ (0 ≤ x1 ∧ x1 ≤ 46) ∧ True) → (x1 ≠ 62 ∧ x1 ≠ 61 ∧ x1 ≠ 60 ∧ x1 ≠ 41 ∧ x1 ≠ 40 ∧ x1 ≠ 42 ∧ x1 ≠ 45 ∧ x1 ≠ 43 ∧ x1 ≠ 59 ∧ True) → (True) → ((τ.1 93 31).toInt = x0 + 1 ∧ (τ.1 93 33).toInt = 1 ∧ (τ.1 93 34).toInt = x1 ∧ True) → Q none τ)
    (l7 : ∀ (τ : pm_S) (y : Nat → Int), an_GB pm_B τ → FQ [(93, 31), (93, 33), (93, 34)] σ τ → ((0 ≤ x0 ∧ x0 ≤ 399) ∧ (59 ≤ x1 ∧ x1 ≤ 59) ∧ True) → (True) → (True) → ((τ.1 93 31).toInt = x0 + 1 ∧ (τ.1 93 33).toInt = 4 ∧ (τ.1 93 34).toInt = x1 ∧ True) → Q none τ)
    (l8 : ∀ (τ : pm_S) (y : Nat → Int), an_GB pm_B τ → FQ [(93, 31), (93, 33), (93, 34)] σ τ → ((0 ≤ x0 ∧ x0 ≤ 399) ∧ (60 ≤ x1 ∧ x1 ≤ 60) ∧ True) → (x1 ≠ 41 ∧ x1 ≠ 40 ∧ x1 ≠ 47 ∧ x1 ≠ 42 ∧ x1 ≠ 45 ∧ x1 ≠ 43 ∧ x1 ≠ 59 ∧ True) → (True) → ((τ.1 93 31).toInt = x0 + 1 ∧ (τ.1 93 33).toInt = 4 ∧ (τ.1 93 34).toInt = x1 ∧ True) → Q none τ)
    (l9 : ∀ (τ : pm_S) (y : Nat → Int), an_GB pm_B τ → FQ [(93, 31), (93, 33), (93, 34)] σ τ → ((0 ≤ x0 ∧ x0 ≤ 399) ∧ (61 ≤ x1 ∧ x1 ≤ 61) ∧ True) → (x1 ≠ 60 ∧ x1 ≠ 41 ∧ x1 ≠ 40 ∧ x1 ≠ 47 ∧ x1 ≠ 42 ∧ x1 ≠ 45 ∧ x1 ≠ 43 ∧ x1 ≠ 59 ∧ True) → (True) → ((τ.1 93 31).toInt = x0 + 1 ∧ (τ.1 93 33).toInt = 4 ∧ (τ.1 93 34).toInt = x1 ∧ True) → Q none τ)
    (l10 : ∀ (τ : pm_S) (y : Nat → Int), an_GB pm_B τ → FQ [(93, 31), (93, 33), (93, 34)] σ τ → ((0 ≤ x0 ∧ x0 ≤ 399) ∧ (58 ≤ x1 ∧ x1 ≤ 64) ∧ True) → (x1 ≠ 62 ∧ x1 ≠ 61 ∧ x1 ≠ 60 ∧ x1 ≠ 41 ∧ x1 ≠ 40 ∧ x1 ≠ 47 ∧ x1 ≠ 42 ∧ x1 ≠ 45 ∧ x1 ≠ 43 ∧ x1 ≠ 59 ∧ True) → (True) → ((τ.1 93 31).toInt = x0 + 1 ∧ (τ.1 93 33).toInt = 1 ∧ (τ.1 93 34).toInt = x1 ∧ True) → Q none τ)
    (l11 : ∀ (τ : pm_S) (y : Nat → Int), an_GB pm_B τ → FQ [(93, 31), (93, 33), (93, 34)] σ τ → ((0 ≤ x0 ∧ x0 ≤ 399) ∧ (62 ≤ x1 ∧ x1 ≤ 62) ∧ True) → (x1 ≠ 61 ∧ x1 ≠ 60 ∧ x1 ≠ 41 ∧ x1 ≠ 40 ∧ x1 ≠ 47 ∧ x1 ≠ 42 ∧ x1 ≠ 45 ∧ x1 ≠ 43 ∧ x1 ≠ 59 ∧ True) → (True) → ((τ.1 93 31).toInt = x0 + 1 ∧ (τ.1 93 33).toInt = 4 ∧ (τ.1 93 34).toInt = x1 ∧ True) → Q none τ)
    (l12 : ∀ (τ : pm_S) (y : Nat → Int), an_GB pm_B τ → FQ [(93, 31), (93, 33), (93, 34)] σ τ → ((0 ≤ x0 ∧ x0 ≤ 399) ∧ (48 ≤ x1 ∧ x1 ≤ 57) ∧ True) → (True) → (True) → ((τ.1 93 31).toInt = x0 + 1 ∧ (τ.1 93 33).toInt = 1 ∧ (τ.1 93 34).toInt = x1 + (-48) ∧ True) → Ok 182 14 90 [.ref 93, .int (Int32.ofInt (x1))] [] τ Q)
    (l13 : ∀ (τ : pm_S) (y : Nat → Int), an_GB pm_B τ → FQ [(93, 31), (93, 33), (93, 34)] σ τ → ((0 ≤ x0 ∧ x0 ≤ 399) ∧ (91 ≤ x1 ∧ x1 ≤ 96) ∧ True) → (x1 ≠ 62 ∧ x1 ≠ 61 ∧ x1 ≠ 60 ∧ x1 ≠ 41 ∧ x1 ≠ 40 ∧ x1 ≠ 47 ∧ x1 ≠ 42 ∧ x1 ≠ 45 ∧ x1 ≠ 43 ∧ x1 ≠ 59 ∧ True) → (True) → ((τ.1 93 31).toInt = x0 + 1 ∧ (τ.1 93 33).toInt = 1 ∧ (τ.1 93 34).toInt = x1 ∧ True) → Q none τ)
    (l14 : ∀ (τ : pm_S) (y : Nat → Int), an_GB pm_B τ → FQ [(93, 31), (93, 33), (93, 34)] σ τ → ((0 ≤ x0 ∧ x0 ≤ 399) ∧ (65 ≤ x1 ∧ x1 ≤ 90) ∧ True) → (True) → (True) → ((τ.1 93 31).toInt = x0 + 1 ∧ (τ.1 93 33).toInt = 1 ∧ (τ.1 93 34).toInt = x1 ∧ True) → Ok 182 14 51 [.ref 93, .int (Int32.ofInt (x1))] [] τ Q)
    (l15 : ∀ (τ : pm_S) (y : Nat → Int), an_GB pm_B τ → FQ [(93, 31), (93, 33), (93, 34)] σ τ → ((0 ≤ x0 ∧ x0 ≤ 399) ∧ (123 ≤ x1 ∧ x1 ≤ 255) ∧ True) → (x1 ≠ 62 ∧ x1 ≠ 61 ∧ x1 ≠ 60 ∧ x1 ≠ 41 ∧ x1 ≠ 40 ∧ x1 ≠ 47 ∧ x1 ≠ 42 ∧ x1 ≠ 45 ∧ x1 ≠ 43 ∧ x1 ≠ 59 ∧ True) → (True) → ((τ.1 93 31).toInt = x0 + 1 ∧ (τ.1 93 33).toInt = 1 ∧ (τ.1 93 34).toInt = x1 ∧ True) → Q none τ)
    (l16 : ∀ (τ : pm_S) (y : Nat → Int), an_GB pm_B τ → FQ [(93, 31), (93, 33), (93, 34)] σ τ → ((0 ≤ x0 ∧ x0 ≤ 399) ∧ (97 ≤ x1 ∧ x1 ≤ 122) ∧ True) → (True) → (True) → ((τ.1 93 31).toInt = x0 + 1 ∧ (τ.1 93 33).toInt = 1 ∧ (τ.1 93 34).toInt = x1 ∧ True) → Ok 182 14 51 [.ref 93, .int (Int32.ofInt (x1))] [] τ Q)
    : Ok 182 14 38 [.ref 93, .int (Int32.ofInt (x1))] [] σ Q := by
  refine an_seg (B := pm_B) (F := [(93, 31), (93, 33), (93, 34)]) (T := []) (S := []) (fun _ h => absurd h List.not_mem_nil) (k := 182) (d := 13) (cs := [51, 90]) 100 38 2 [(0, 0, 399), (1, 0, 255)] [(93, (1, 0, 31), (0, 0, 0)), (93, (1, 0, 33), (1, 0, 1))] [(2, 93, 0), (0, 1, 0)] [] [(9999, [], [], [(0, 0, 399), (1, 43, 43)], [(3, 1, 1, 59)], [], [(93, (1, 0, 31), (0, 0, 1)), (93, (1, 0, 33), (1, 0, 4)), (93, (1, 0, 34), (0, 1, 0))]),
    (9999, [], [], [(0, 0, 399), (1, 45, 45)], [(3, 1, 1, 43), (3, 1, 1, 59)], [], [(93, (1, 0, 31), (0, 0, 1)), (93, (1, 0, 33), (1, 0, 4)), (93, (1, 0, 34), (0, 1, 0))]),
    (9999, [], [], [(0, 0, 399), (1, 42, 42)], [(3, 1, 1, 45), (3, 1, 1, 43), (3, 1, 1, 59)], [], [(93, (1, 0, 31), (0, 0, 1)), (93, (1, 0, 33), (1, 0, 4)), (93, (1, 0, 34), (0, 1, 0))]),
    (9999, [], [], [(0, 0, 399), (1, 47, 47)], [(3, 1, 1, 42), (3, 1, 1, 45), (3, 1, 1, 43), (3, 1, 1, 59)], [], [(93, (1, 0, 31), (0, 0, 1)), (93, (1, 0, 33), (1, 0, 4)), (93, (1, 0, 34), (0, 1, 0))]),
    (9999, [], [], [(0, 0, 399), (1, 40, 40)], [(3, 1, 1, 42), (3, 1, 1, 45), (3, 1, 1, 43), (3, 1, 1, 59)], [], [(93, (1, 0, 31), (0, 0, 1)), (93, (1, 0, 33), (1, 0, 4)), (93, (1, 0, 34), (0, 1, 0))]),
    (9999, [], [], [(0, 0, 399), (1, 41, 41)], [(3, 1, 1, 40), (3, 1, 1, 42), (3, 1, 1, 45), (3, 1, 1, 43), (3, 1, 1, 59)], [], [(93, (1, 0, 31), (0, 0, 1)), (93, (1, 0, 33), (1, 0, 4)), (93, (1, 0, 34), (0, 1, 0))]),
    (9999, [], [], [(0, 0, 399), (1, 0, 46)], [(3, 1, 1, 62), (3, 1, 1, 61), (3, 1, 1, 60), (3, 1, 1, 41), (3, 1, 1, 40), (3, 1, 1, 42), (3, 1, 1, 45), (3, 1, 1, 43), (3, 1, 1, 59)], [], [(93, (1, 0, 31), (0, 0, 1)), (93, (1, 0, 33), (1, 0, 1)), (93, (1, 0, 34), (0, 1, 0))]),
    (9999, [], [], [(0, 0, 399), (1, 59, 59)], [], [], [(93, (1, 0, 31), (0, 0, 1)), (93, (1, 0, 33), (1, 0, 4)), (93, (1, 0, 34), (0, 1, 0))]),
    (9999, [], [], [(0, 0, 399), (1, 60, 60)], [(3, 1, 1, 41), (3, 1, 1, 40), (3, 1, 1, 47), (3, 1, 1, 42), (3, 1, 1, 45), (3, 1, 1, 43), (3, 1, 1, 59)], [], [(93, (1, 0, 31), (0, 0, 1)), (93, (1, 0, 33), (1, 0, 4)), (93, (1, 0, 34), (0, 1, 0))]),
    (9999, [], [], [(0, 0, 399), (1, 61, 61)], [(3, 1, 1, 60), (3, 1, 1, 41), (3, 1, 1, 40), (3, 1, 1, 47), (3, 1, 1, 42), (3, 1, 1, 45), (3, 1, 1, 43), (3, 1, 1, 59)], [], [(93, (1, 0, 31), (0, 0, 1)), (93, (1, 0, 33), (1, 0, 4)), (93, (1, 0, 34), (0, 1, 0))]),
    (9999, [], [], [(0, 0, 399), (1, 58, 64)], [(3, 1, 1, 62), (3, 1, 1, 61), (3, 1, 1, 60), (3, 1, 1, 41), (3, 1, 1, 40), (3, 1, 1, 47), (3, 1, 1, 42), (3, 1, 1, 45), (3, 1, 1, 43), (3, 1, 1, 59)], [], [(93, (1, 0, 31), (0, 0, 1)), (93, (1, 0, 33), (1, 0, 1)), (93, (1, 0, 34), (0, 1, 0))]),
    (9999, [], [], [(0, 0, 399), (1, 62, 62)], [(3, 1, 1, 61), (3, 1, 1, 60), (3, 1, 1, 41), (3, 1, 1, 40), (3, 1, 1, 47), (3, 1, 1, 42), (3, 1, 1, 45), (3, 1, 1, 43), (3, 1, 1, 59)], [], [(93, (1, 0, 31), (0, 0, 1)), (93, (1, 0, 33), (1, 0, 4)), (93, (1, 0, 34), (0, 1, 0))]),
    (90, [(2, 93, 0), (0, 1, 0)], [], [(0, 0, 399), (1, 48, 57)], [], [], [(93, (1, 0, 31), (0, 0, 1)), (93, (1, 0, 33), (1, 0, 1)), (93, (1, 0, 34), (0, 1, (-48)))]),
    (9999, [], [], [(0, 0, 399), (1, 91, 96)], [(3, 1, 1, 62), (3, 1, 1, 61), (3, 1, 1, 60), (3, 1, 1, 41), (3, 1, 1, 40), (3, 1, 1, 47), (3, 1, 1, 42), (3, 1, 1, 45), (3, 1, 1, 43), (3, 1, 1, 59)], [], [(93, (1, 0, 31), (0, 0, 1)), (93, (1, 0, 33), (1, 0, 1)), (93, (1, 0, 34), (0, 1, 0))]),
    (51, [(2, 93, 0), (0, 1, 0)], [], [(0, 0, 399), (1, 65, 90)], [], [], [(93, (1, 0, 31), (0, 0, 1)), (93, (1, 0, 33), (1, 0, 1)), (93, (1, 0, 34), (0, 1, 0))]),
    (9999, [], [], [(0, 0, 399), (1, 123, 255)], [(3, 1, 1, 62), (3, 1, 1, 61), (3, 1, 1, 60), (3, 1, 1, 41), (3, 1, 1, 40), (3, 1, 1, 47), (3, 1, 1, 42), (3, 1, 1, 45), (3, 1, 1, 43), (3, 1, 1, 59)], [], [(93, (1, 0, 31), (0, 0, 1)), (93, (1, 0, 33), (1, 0, 1)), (93, (1, 0, 34), (0, 1, 0))]),
    (51, [(2, 93, 0), (0, 1, 0)], [], [(0, 0, 399), (1, 97, 122)], [], [], [(93, (1, 0, 31), (0, 0, 1)), (93, (1, 0, 33), (1, 0, 1)), (93, (1, 0, 34), (0, 1, 0))])] (by decide +kernel) (ρ0 := (fun s => [x0, x1].getD s 0)) hB eF eC ⟨rfl, ⟨rfl, trivial⟩⟩ trivial ?_
  refine List.forall_mem_cons.mpr ⟨?_, List.forall_mem_cons.mpr ⟨?_, List.forall_mem_cons.mpr ⟨?_, List.forall_mem_cons.mpr ⟨?_, List.forall_mem_cons.mpr ⟨?_, List.forall_mem_cons.mpr ⟨?_, List.forall_mem_cons.mpr ⟨?_, List.forall_mem_cons.mpr ⟨?_, List.forall_mem_cons.mpr ⟨?_, List.forall_mem_cons.mpr ⟨?_, List.forall_mem_cons.mpr ⟨?_, List.forall_mem_cons.mpr ⟨?_, List.forall_mem_cons.mpr ⟨?_, List.forall_mem_cons.mpr ⟨?_, List.forall_mem_cons.mpr ⟨?_, List.forall_mem_cons.mpr ⟨?_, List.forall_mem_cons.mpr ⟨?_, fun _ h => absurd h List.not_mem_nil⟩⟩⟩⟩⟩⟩⟩⟩⟩⟩⟩⟩⟩⟩⟩⟩⟩
  · intro ρ τ Lc stc hx g1 g2 g3 g4 g5 g6 g7 g8
    have e0 : ρ 0 = x0 := hx 0 (by decide)
    have e1 : ρ 1 = x1 := hx 1 (by decide)
    subst e0
    subst e1
    match stc, g8 with
    | [], _ => exact l0 τ ρ g1 g2 g3 g4 g5 g6
  · intro ρ τ Lc stc hx g1 g2 g3 g4 g5 g6 g7 g8
    have e0 : ρ 0 = x0 := hx 0 (by decide)
    have e1 : ρ 1 = x1 := hx 1 (by decide)
    subst e0
    subst e1
    match stc, g8 with
    | [], _ => exact l1 τ ρ g1 g2 g3 g4 g5 g6
  · intro ρ τ Lc stc hx g1 g2 g3 g4 g5 g6 g7 g8
    have e0 : ρ 0 = x0 := hx 0 (by decide)
    have e1 : ρ 1 = x1 := hx 1 (by decide)
    subst e0
    subst e1
    match stc, g8 with
    | [], _ => exact l2 τ ρ g1 g2 g3 g4 g5 g6
  · intro ρ τ Lc stc hx g1 g2 g3 g4 g5 g6 g7 g8
    have e0 : ρ 0 = x0 := hx 0 (by decide)
    have e1 : ρ 1 = x1 := hx 1 (by decide)
    subst e0
    subst e1
    match stc, g8 with
    | [], _ => exact l3 τ ρ g1 g2 g3 g4 g5 g6
  · intro ρ τ Lc stc hx g1 g2 g3 g4 g5 g6 g7 g8
    have e0 : ρ 0 = x0 := hx 0 (by decide)
    have e1 : ρ 1 = x1 := hx 1 (by decide)
    subst e0
    subst e1
    match stc, g8 with
    | [], _ => exact l4 τ ρ g1 g2 g3 g4 g5 g6
  · intro ρ τ Lc stc hx g1 g2 g3 g4 g5 g6 g7 g8
    have e0 : ρ 0 = x0 := hx 0 (by decide)
    have e1 : ρ 1 = x1 := hx 1 (by decide)
    subst e0
    subst e1
    match stc, g8 with
    | [], _ => exact l5 τ ρ g1 g2 g3 g4 g5 g6
  · intro ρ τ Lc stc hx g1 g2 g3 g4 g5 g6 g7 g8
    have e0 : ρ 0 = x0 := hx 0 (by decide)
    have e1 : ρ 1 = x1 := hx 1 (by decide)
    subst e0
    subst e1
    match stc, g8 with
    | [], _ => exact l6 τ ρ g1 g2 g3 g4 g5 g6
  · intro ρ τ Lc stc hx g1 g2 g3 g4 g5 g6 g7 g8
    have e0 : ρ 0 = x0 := hx 0 (by decide)
    have e1 : ρ 1 = x1 := hx 1 (by decide)
    subst e0
    subst e1
    match stc, g8 with
    | [], _ => exact l7 τ ρ g1 g2 g3 g4 g5 g6
  · intro ρ τ Lc stc hx g1 g2 g3 g4 g5 g6 g7 g8
    have e0 : ρ 0 = x0 := hx 0 (by decide)
    have e1 : ρ 1 = x1 := hx 1 (by decide)
    subst e0
    subst e1
    match stc, g8 with
    | [], _ => exact l8 τ ρ g1 g2 g3 g4 g5 g6
  · intro ρ τ Lc stc hx g1 g2 g3 g4 g5 g6 g7 g8
    have e0 : ρ 0 = x0 := hx 0 (by decide)
    have e1 : ρ 1 = x1 := hx 1 (by decide)
    subst e0
    subst e1
    match stc, g8 with
    | [], _ => exact l9 τ ρ g1 g2 g3 g4 g5 g6
  · intro ρ τ Lc stc hx g1 g2 g3 g4 g5 g6 g7 g8
    have e0 : ρ 0 = x0 := hx 0 (by decide)
    have e1 : ρ 1 = x1 := hx 1 (by decide)
    subst e0
    subst e1
    match stc, g8 with
    | [], _ => exact l10 τ ρ g1 g2 g3 g4 g5 g6
  · intro ρ τ Lc stc hx g1 g2 g3 g4 g5 g6 g7 g8
    have e0 : ρ 0 = x0 := hx 0 (by decide)
    have e1 : ρ 1 = x1 := hx 1 (by decide)
    subst e0
    subst e1
    match stc, g8 with
    | [], _ => exact l11 τ ρ g1 g2 g3 g4 g5 g6
  · intro ρ τ Lc stc hx g1 g2 g3 g4 g5 g6 g7 g8
    have e0 : ρ 0 = x0 := hx 0 (by decide)
    have e1 : ρ 1 = x1 := hx 1 (by decide)
    subst e0
    subst e1
    have g7 := g7 (by decide)
    match Lc, stc, g7, g8 with
    | [v0, v1], [], ⟨hv0, hv1, _⟩, _ =>
      cases hv0
      cases hv1
      exact l12 τ ρ  g1 g2 g3 g4 g5 g6
  · intro ρ τ Lc stc hx g1 g2 g3 g4 g5 g6 g7 g8
    have e0 : ρ 0 = x0 := hx 0 (by decide)
    have e1 : ρ 1 = x1 := hx 1 (by decide)
    subst e0
    subst e1
    match stc, g8 with
    | [], _ => exact l13 τ ρ g1 g2 g3 g4 g5 g6
  · intro ρ τ Lc stc hx g1 g2 g3 g4 g5 g6 g7 g8
    have e0 : ρ 0 = x0 := hx 0 (by decide)
    have e1 : ρ 1 = x1 := hx 1 (by decide)
    subst e0
    subst e1
    have g7 := g7 (by decide)
    match Lc, stc, g7, g8 with
    | [v0, v1], [], ⟨hv0, hv1, _⟩, _ =>
      cases hv0
      cases hv1
      exact l14 τ ρ  g1 g2 g3 g4 g5 g6
  · intro ρ τ Lc stc hx g1 g2 g3 g4 g5 g6 g7 g8
    have e0 : ρ 0 = x0 := hx 0 (by decide)
    have e1 : ρ 1 = x1 := hx 1 (by decide)
    subst e0
    subst e1
    match stc, g8 with
    | [], _ => exact l15 τ ρ g1 g2 g3 g4 g5 g6
  · intro ρ τ Lc stc hx g1 g2 g3 g4 g5 g6 g7 g8
    have e0 : ρ 0 = x0 := hx 0 (by decide)
    have e1 : ρ 1 = x1 := hx 1 (by decide)
    subst e0
    subst e1
    have g7 := g7 (by decide)
    match Lc, stc, g7, g8 with
    | [v0, v1], [], ⟨hv0, hv1, _⟩, _ =>
      cases hv0
      cases hv1
      exact l16 τ ρ  g1 g2 g3 g4 g5 g6
set_option maxRecDepth 100000 in
theorem mq_s51 {σ : pm_S} {Q : Option Value → pm_S → Prop} (x0 x1 : Int)  (hB : an_GB pm_B σ) (eF : (0 ≤ x0 ∧ x0 ≤ 400) ∧ (0 ≤ x1 ∧ x1 ≤ 255) ∧ True) (eC : (σ.1 93 31).toInt = x0 ∧ True)
    (l0 : ∀ (τ : pm_S) (y : Nat → Int), an_GB pm_B τ → FQ [] σ τ → ((0 ≤ x0 ∧ x0 ≤ 400) ∧ (0 ≤ x1 ∧ x1 ≤ 255) ∧ True) → (True) → (True) → ((τ.1 93 31).toInt = x0 ∧ True) → Ok 182 14 55 [.ref 93, .int (Int32.ofInt (x1))] [.int (Int32.ofInt (x0)), .ref 93, .ref 93] τ Q)
    : Ok 182 14 51 [.ref 93, .int (Int32.ofInt (x1))] [] σ Q := by
  refine an_seg (B := pm_B) (F := []) (T := []) (S := []) (fun _ h => absurd h List.not_mem_nil) (k := 182) (d := 13) (cs := [55]) 6 51 2 [(0, 0, 400), (1, 0, 255)] [(93, (1, 0, 31), (0, 0, 0))] [(2, 93, 0), (0, 1, 0)] [] [(55, [(2, 93, 0), (0, 1, 0)], [(0, 0, 0), (2, 93, 0), (2, 93, 0)], [(0, 0, 400), (1, 0, 255)], [], [], [(93, (1, 0, 31), (0, 0, 0))])] (by decide +kernel) (ρ0 := (fun s => [x0, x1].getD s 0)) hB eF eC ⟨rfl, ⟨rfl, trivial⟩⟩ trivial ?_
  refine List.forall_mem_cons.mpr ⟨?_, fun _ h => absurd h List.not_mem_nil⟩
  · intro ρ τ Lc stc hx g1 g2 g3 g4 g5 g6 g7 g8
    have e0 : ρ 0 = x0 := hx 0 (by decide)
    have e1 : ρ 1 = x1 := hx 1 (by decide)
    subst e0
    subst e1
    have g7 := g7 (by decide)
    match Lc, stc, g7, g8 with
    | [v0, v1], [w0, w1, w2], ⟨hv0, hv1, _⟩, ⟨hw0, hw1, hw2, _⟩ =>
      cases hv0
      cases hv1
      cases hw0
      cases hw1
      cases hw2
      exact l0 τ ρ  g1 g2 g3 g4 g5 g6
set_option maxRecDepth 100000 in
theorem mq_s56 {σ : pm_S} {Q : Option Value → pm_S → Prop} (x0 x1 x2 : Int)  (hB : an_GB pm_B σ) (eF : (0 ≤ x0 ∧ x0 ≤ 400) ∧ (0 ≤ x1 ∧ x1 ≤ 255) ∧ ((-1) ≤ x2 ∧ x2 ≤ 255) ∧ True) (eC : (σ.1 93 31).toInt = x0 ∧ True)
    (l0 : ∀ (τ : pm_S) (y : Nat → Int), an_GB pm_B τ → FQ [] σ τ → ((0 ≤ x0 ∧ x0 ≤ 400) ∧ (0 ≤ x1 ∧ x1 ≤ 255) ∧ ((-1) ≤ x2 ∧ x2 ≤ 64) ∧ True) → (True) → (True) → ((τ.1 93 31).toInt = x0 ∧ True) → Ok 182 14 65 [.ref 93, .int (Int32.ofInt (x1))] [] τ Q)
    (l1 : ∀ (τ : pm_S) (y : Nat → Int), an_GB pm_B τ → FQ [] σ τ → ((0 ≤ x0 ∧ x0 ≤ 400) ∧ (0 ≤ x1 ∧ x1 ≤ 255) ∧ (91 ≤ x2 ∧ x2 ≤ 96) ∧ True) → (True) → (True) → ((τ.1 93 31).toInt = x0 ∧ True) → Ok 182 14 65 [.ref 93, .int (Int32.ofInt (x1))] [] τ Q)
    (l2 : ∀ (τ : pm_S) (y : Nat → Int), an_GB pm_B τ → FQ [] σ τ → ((0 ≤ x0 ∧ x0 ≤ 400) ∧ (0 ≤ x1 ∧ x1 ≤ 255) ∧ (65 ≤ x2 ∧ x2 ≤ 90) ∧ True) → (True) → (True) → ((τ.1 93 31).toInt = x0 ∧ True) → Ok 182 14 58 [.ref 93, .int (Int32.ofInt (x1))] [] τ Q)
    (l3 : ∀ (τ : pm_S) (y : Nat → Int), an_GB pm_B τ → FQ [] σ τ → ((0 ≤ x0 ∧ x0 ≤ 400) ∧ (0 ≤ x1 ∧ x1 ≤ 255) ∧ (123 ≤ x2 ∧ x2 ≤ 255) ∧ True) → (True) → (True) → ((τ.1 93 31).toInt = x0 ∧ True) → Ok 182 14 65 [.ref 93, .int (Int32.ofInt (x1))] [] τ Q)
    (l4 : ∀ (τ : pm_S) (y : Nat → Int), an_GB pm_B τ → FQ [] σ τ → ((0 ≤ x0 ∧ x0 ≤ 400) ∧ (0 ≤ x1 ∧ x1 ≤ 255) ∧ (97 ≤ x2 ∧ x2 ≤ 122) ∧ True) → (True) → (True) → ((τ.1 93 31).toInt = x0 ∧ True) → Ok 182 14 58 [.ref 93, .int (Int32.ofInt (x1))] [] τ Q)
    : Ok 182 14 56 [.ref 93, .int (Int32.ofInt (x1))] [.int (Int32.ofInt (x2)), .ref 93] σ Q := by
  refine an_seg (B := pm_B) (F := []) (T := []) (S := []) (fun _ h => absurd h List.not_mem_nil) (k := 182) (d := 13) (cs := [58, 65]) 34 56 3 [(0, 0, 400), (1, 0, 255), (2, (-1), 255)] [(93, (1, 0, 31), (0, 0, 0))] [(2, 93, 0), (0, 1, 0)] [(0, 2, 0), (2, 93, 0)] [(65, [(2, 93, 0), (0, 1, 0)], [], [(0, 0, 400), (1, 0, 255), (2, (-1), 64)], [], [], [(93, (1, 0, 31), (0, 0, 0))]),
    (65, [(2, 93, 0), (0, 1, 0)], [], [(0, 0, 400), (1, 0, 255), (2, 91, 96)], [], [], [(93, (1, 0, 31), (0, 0, 0))]),
    (58, [(2, 93, 0), (0, 1, 0)], [], [(0, 0, 400), (1, 0, 255), (2, 65, 90)], [], [], [(93, (1, 0, 31), (0, 0, 0))]),
    (65, [(2, 93, 0), (0, 1, 0)], [], [(0, 0, 400), (1, 0, 255), (2, 123, 255)], [], [], [(93, (1, 0, 31), (0, 0, 0))]),
    (58, [(2, 93, 0), (0, 1, 0)], [], [(0, 0, 400), (1, 0, 255), (2, 97, 122)], [], [], [(93, (1, 0, 31), (0, 0, 0))])] (by decide +kernel) (ρ0 := (fun s => [x0, x1, x2].getD s 0)) hB eF eC ⟨rfl, ⟨rfl, trivial⟩⟩ ⟨rfl, ⟨rfl, trivial⟩⟩ ?_
  refine List.forall_mem_cons.mpr ⟨?_, List.forall_mem_cons.mpr ⟨?_, List.forall_mem_cons.mpr ⟨?_, List.forall_mem_cons.mpr ⟨?_, List.forall_mem_cons.mpr ⟨?_, fun _ h => absurd h List.not_mem_nil⟩⟩⟩⟩⟩
  · intro ρ τ Lc stc hx g1 g2 g3 g4 g5 g6 g7 g8
    have e0 : ρ 0 = x0 := hx 0 (by decide)
    have e1 : ρ 1 = x1 := hx 1 (by decide)
    have e2 : ρ 2 = x2 := hx 2 (by decide)
    subst e0
    subst e1
    subst e2
    have g7 := g7 (by decide)
    match Lc, stc, g7, g8 with
    | [v0, v1], [], ⟨hv0, hv1, _⟩, _ =>
      cases hv0
      cases hv1
      exact l0 τ ρ  g1 g2 g3 g4 g5 g6
  · intro ρ τ Lc stc hx g1 g2 g3 g4 g5 g6 g7 g8
    have e0 : ρ 0 = x0 := hx 0 (by decide)
    have e1 : ρ 1 = x1 := hx 1 (by decide)
    have e2 : ρ 2 = x2 := hx 2 (by decide)
    subst e0
    subst e1
    subst e2
    have g7 := g7 (by decide)
    match Lc, stc, g7, g8 with
    | [v0, v1], [], ⟨hv0, hv1, _⟩, _ =>
      cases hv0
      cases hv1
      exact l1 τ ρ  g1 g2 g3 g4 g5 g6
  · intro ρ τ Lc stc hx g1 g2 g3 g4 g5 g6 g7 g8
    have e0 : ρ 0 = x0 := hx 0 (by decide)
    have e1 : ρ 1 = x1 := hx 1 (by decide)
    have e2 : ρ 2 = x2 := hx 2 (by decide)
    subst e0
    subst e1
    subst e2
    have g7 := g7 (by decide)
    match Lc, stc, g7, g8 with
    | [v0, v1], [], ⟨hv0, hv1, _⟩, _ =>
      cases hv0
      cases hv1
      exact l2 τ ρ  g1 g2 g3 g4 g5 g6
  · intro ρ τ Lc stc hx g1 g2 g3 g4 g5 g6 g7 g8
    have e0 : ρ 0 = x0 := hx 0 (by decide)
    have e1 : ρ 1 = x1 := hx 1 (by decide)
    have e2 : ρ 2 = x2 := hx 2 (by decide)
    subst e0
    subst e1
    subst e2
    have g7 := g7 (by decide)
    match Lc, stc, g7, g8 with
    | [v0, v1], [], ⟨hv0, hv1, _⟩, _ =>
      cases hv0
      cases hv1
      exact l3 τ ρ  g1 g2 g3 g4 g5 g6
  · intro ρ τ Lc stc hx g1 g2 g3 g4 g5 g6 g7 g8
    have e0 : ρ 0 = x0 := hx 0 (by decide)
    have e1 : ρ 1 = x1 := hx 1 (by decide)
    have e2 : ρ 2 = x2 := hx 2 (by decide)
    subst e0
    subst e1
    subst e2
    have g7 := g7 (by decide)
    match Lc, stc, g7, g8 with
    | [v0, v1], [], ⟨hv0, hv1, _⟩, _ =>
      cases hv0
      cases hv1
      exact l4 τ ρ  g1 g2 g3 g4 g5 g6
set_option maxRecDepth 100000 in
theorem mq_s58 {σ : pm_S} {Q : Option Value → pm_S → Prop} (x0 x1 : Int)  (hB : an_GB pm_B σ) (eF : (0 ≤ x0 ∧ x0 ≤ 399) ∧ (0 ≤ x1 ∧ x1 ≤ 255) ∧ True) (eC : (σ.1 93 31).toInt = x0 ∧ True)
    (l0 : ∀ (τ : pm_S) (y : Nat → Int), an_GB pm_B τ → FQ [(93, 31)] σ τ → ((0 ≤ x0 ∧ x0 ≤ 399) ∧ (0 ≤ x1 ∧ x1 ≤ 255) ∧ True) → (True) → (True) → ((τ.1 93 31).toInt = x0 + 1 ∧ True) → Ok 182 14 51 [.ref 93, .int (Int32.ofInt (x1))] [] τ Q)
    : Ok 182 14 58 [.ref 93, .int (Int32.ofInt (x1))] [] σ Q := by
  refine an_seg (B := pm_B) (F := [(93, 31)]) (T := []) (S := []) (fun _ h => absurd h List.not_mem_nil) (k := 182) (d := 13) (cs := [51]) 9 58 2 [(0, 0, 399), (1, 0, 255)] [(93, (1, 0, 31), (0, 0, 0))] [(2, 93, 0), (0, 1, 0)] [] [(51, [(2, 93, 0), (0, 1, 0)], [], [(0, 0, 399), (1, 0, 255)], [], [], [(93, (1, 0, 31), (0, 0, 1))])] (by decide +kernel) (ρ0 := (fun s => [x0, x1].getD s 0)) hB eF eC ⟨rfl, ⟨rfl, trivial⟩⟩ trivial ?_
  refine List.forall_mem_cons.mpr ⟨?_, fun _ h => absurd h List.not_mem_nil⟩
  · intro ρ τ Lc stc hx g1 g2 g3 g4 g5 g6 g7 g8
    have e0 : ρ 0 = x0 := hx 0 (by decide)
    have e1 : ρ 1 = x1 := hx 1 (by decide)
    subst e0
    subst e1
    have g7 := g7 (by decide)
    match Lc, stc, g7, g8 with
    | [v0, v1], [], ⟨hv0, hv1, _⟩, _ =>
      cases hv0
      cases hv1
      exact l0 τ ρ  g1 g2 g3 g4 g5 g6
set_option maxRecDepth 100000 in
theorem mq_s65 {σ : pm_S} {Q : Option Value → pm_S → Prop} (x0 x1 x2 : Int)  (hB : an_GB pm_B σ) (eF : (0 ≤ x0 ∧ x0 ≤ 400) ∧ (0 ≤ x1 ∧ x1 ≤ 255) ∧ (0 ≤ x2 ∧ x2 ≤ 400) ∧ True) (eC : (σ.1 93 31).toInt = x0 ∧ (σ.1 93 32).toInt = x2 ∧ True)
    (l0 : ∀ (τ : pm_S) (y : Nat → Int), an_GB pm_B τ → FQ [] σ τ → ((0 ≤ x0 ∧ x0 ≤ 400) ∧ (0 ≤ x1 ∧ x1 ≤ 255) ∧ (0 ≤ x2 ∧ x2 ≤ 400) ∧ True) → (True) → (True) → ((τ.1 93 31).toInt = x0 ∧ (τ.1 93 32).toInt = x2 ∧ True) → Ok 182 14 71 [.ref 93, .int (Int32.ofInt (x1))] [.int (Int32.ofInt (x0)), .int (Int32.ofInt (x2)), .ref 93, .ref 93] τ Q)
    : Ok 182 14 65 [.ref 93, .int (Int32.ofInt (x1))] [] σ Q := by
  refine an_seg (B := pm_B) (F := []) (T := []) (S := []) (fun _ h => absurd h List.not_mem_nil) (k := 182) (d := 13) (cs := [71]) 8 65 3 [(0, 0, 400), (1, 0, 255), (2, 0, 400)] [(93, (1, 0, 31), (0, 0, 0)), (93, (1, 0, 32), (0, 2, 0))] [(2, 93, 0), (0, 1, 0)] [] [(71, [(2, 93, 0), (0, 1, 0)], [(0, 0, 0), (0, 2, 0), (2, 93, 0), (2, 93, 0)], [(0, 0, 400), (1, 0, 255), (2, 0, 400)], [], [], [(93, (1, 0, 31), (0, 0, 0)), (93, (1, 0, 32), (0, 2, 0))])] (by decide +kernel) (ρ0 := (fun s => [x0, x1, x2].getD s 0)) hB eF eC ⟨rfl, ⟨rfl, trivial⟩⟩ trivial ?_
  refine List.forall_mem_cons.mpr ⟨?_, fun _ h => absurd h List.not_mem_nil⟩
  · intro ρ τ Lc stc hx g1 g2 g3 g4 g5 g6 g7 g8
    have e0 : ρ 0 = x0 := hx 0 (by decide)
    have e1 : ρ 1 = x1 := hx 1 (by decide)
    have e2 : ρ 2 = x2 := hx 2 (by decide)
    subst e0
    subst e1
    subst e2
    have g7 := g7 (by decide)
    match Lc, stc, g7, g8 with
    | [v0, v1], [w0, w1, w2, w3], ⟨hv0, hv1, _⟩, ⟨hw0, hw1, hw2, hw3, _⟩ =>
      cases hv0
      cases hv1
      cases hw0
      cases hw1
      cases hw2
      cases hw3
      exact l0 τ ρ  g1 g2 g3 g4 g5 g6
set_option maxRecDepth 100000 in
theorem mq_s72 {σ : pm_S} {Q : Option Value → pm_S → Prop} (x0 x1 x2 : Int)  (hB : an_GB pm_B σ) (eF : (0 ≤ x0 ∧ x0 ≤ 400) ∧ (0 ≤ x1 ∧ x1 ≤ 255) ∧ ((-1) ≤ x2 ∧ x2 ≤ 14) ∧ True) (eC : (σ.1 93 33).toInt = 1 ∧ True)
    (l0 : ∀ (τ : pm_S) (y : Nat → Int), an_GB pm_B τ → FQ [(93, 33), (93, 34)] σ τ → ((0 ≤ x0 ∧ x0 ≤ 400) ∧ (0 ≤ x1 ∧ x1 ≤ 255) ∧ ((-1) ≤ x2 ∧ x2 ≤ (-1)) ∧ True) → (True) → (True) → ((τ.1 93 33).toInt = 1 ∧ (τ.1 93 34).toInt = x2 ∧ True) → Q none τ)
    (l1 : ∀ (τ : pm_S) (y : Nat → Int), an_GB pm_B τ → FQ [(93, 33), (93, 34)] σ τ → ((0 ≤ x0 ∧ x0 ≤ 400) ∧ (0 ≤ x1 ∧ x1 ≤ 255) ∧ (0 ≤ x2 ∧ x2 ≤ 14) ∧ True) → (True) → (True) → ((τ.1 93 33).toInt = 2 ∧ (τ.1 93 34).toInt = x2 ∧ True) → Q none τ)
    : Ok 182 14 72 [.ref 93, .int (Int32.ofInt (x1))] [.int (Int32.ofInt (x2)), .ref 93] σ Q := by
  refine an_seg (B := pm_B) (F := [(93, 33), (93, 34)]) (T := []) (S := []) (fun _ h => absurd h List.not_mem_nil) (k := 182) (d := 13) (cs := []) 12 72 3 [(0, 0, 400), (1, 0, 255), (2, (-1), 14)] [(93, (1, 0, 33), (1, 0, 1))] [(2, 93, 0), (0, 1, 0)] [(0, 2, 0), (2, 93, 0)] [(9999, [], [], [(0, 0, 400), (1, 0, 255), (2, (-1), (-1))], [], [], [(93, (1, 0, 33), (1, 0, 1)), (93, (1, 0, 34), (0, 2, 0))]),
    (9999, [], [], [(0, 0, 400), (1, 0, 255), (2, 0, 14)], [], [], [(93, (1, 0, 33), (1, 0, 2)), (93, (1, 0, 34), (0, 2, 0))])] (by decide +kernel) (ρ0 := (fun s => [x0, x1, x2].getD s 0)) hB eF eC ⟨rfl, ⟨rfl, trivial⟩⟩ ⟨rfl, ⟨rfl, trivial⟩⟩ ?_
  refine List.forall_mem_cons.mpr ⟨?_, List.forall_mem_cons.mpr ⟨?_, fun _ h => absurd h List.not_mem_nil⟩⟩
  · intro ρ τ Lc stc hx g1 g2 g3 g4 g5 g6 g7 g8
    have e0 : ρ 0 = x0 := hx 0 (by decide)
    have e1 : ρ 1 = x1 := hx 1 (by decide)
    have e2 : ρ 2 = x2 := hx 2 (by decide)
    subst e0
    subst e1
    subst e2
    match stc, g8 with
    | [], _ => exact l0 τ ρ g1 g2 g3 g4 g5 g6
  · intro ρ τ Lc stc hx g1 g2 g3 g4 g5 g6 g7 g8
    have e0 : ρ 0 = x0 := hx 0 (by decide)
    have e1 : ρ 1 = x1 := hx 1 (by decide)
    have e2 : ρ 2 = x2 := hx 2 (by decide)
    subst e0
    subst e1
    subst e2
    match stc, g8 with
    | [], _ => exact l1 τ ρ g1 g2 g3 g4 g5 g6
set_option maxRecDepth 100000 in
theorem mq_s90 {σ : pm_S} {Q : Option Value → pm_S → Prop} (x0 x1 : Int)  (hB : an_GB pm_B σ) (eF : (0 ≤ x0 ∧ x0 ≤ 400) ∧ (0 ≤ x1 ∧ x1 ≤ 255) ∧ True) (eC : (σ.1 93 31).toInt = x0 ∧ True)
    (l0 : ∀ (τ : pm_S) (y : Nat → Int), an_GB pm_B τ → FQ [] σ τ → ((0 ≤ x0 ∧ x0 ≤ 400) ∧ (0 ≤ x1 ∧ x1 ≤ 255) ∧ True) → (True) → (True) → ((τ.1 93 31).toInt = x0 ∧ True) → Ok 182 14 94 [.ref 93, .int (Int32.ofInt (x1))] [.int (Int32.ofInt (x0)), .ref 93, .ref 93] τ Q)
    : Ok 182 14 90 [.ref 93, .int (Int32.ofInt (x1))] [] σ Q := by
  refine an_seg (B := pm_B) (F := []) (T := []) (S := []) (fun _ h => absurd h List.not_mem_nil) (k := 182) (d := 13) (cs := [94]) 6 90 2 [(0, 0, 400), (1, 0, 255)] [(93, (1, 0, 31), (0, 0, 0))] [(2, 93, 0), (0, 1, 0)] [] [(94, [(2, 93, 0), (0, 1, 0)], [(0, 0, 0), (2, 93, 0), (2, 93, 0)], [(0, 0, 400), (1, 0, 255)], [], [], [(93, (1, 0, 31), (0, 0, 0))])] (by decide +kernel) (ρ0 := (fun s => [x0, x1].getD s 0)) hB eF eC ⟨rfl, ⟨rfl, trivial⟩⟩ trivial ?_
  refine List.forall_mem_cons.mpr ⟨?_, fun _ h => absurd h List.not_mem_nil⟩
  · intro ρ τ Lc stc hx g1 g2 g3 g4 g5 g6 g7 g8
    have e0 : ρ 0 = x0 := hx 0 (by decide)
    have e1 : ρ 1 = x1 := hx 1 (by decide)
    subst e0
    subst e1
    have g7 := g7 (by decide)
    match Lc, stc, g7, g8 with
    | [v0, v1], [w0, w1, w2], ⟨hv0, hv1, _⟩, ⟨hw0, hw1, hw2, _⟩ =>
      cases hv0
      cases hv1
      cases hw0
      cases hw1
      cases hw2
      exact l0 τ ρ  g1 g2 g3 g4 g5 g6
set_option maxRecDepth 100000 in
theorem mq_s95 {σ : pm_S} {Q : Option Value → pm_S → Prop} (x0 x1 x2 : Int)  (hB : an_GB pm_B σ) (eF : (0 ≤ x0 ∧ x0 ≤ 400) ∧ (0 ≤ x1 ∧ x1 ≤ 255) ∧ ((-1) ≤ x2 ∧ x2 ≤ 255) ∧ True) (eC : (σ.1 93 31).toInt = x0 ∧ True)
    (l0 : ∀ (τ : pm_S) (y : Nat → Int), an_GB pm_B τ → FQ [] σ τ → ((0 ≤ x0 ∧ x0 ≤ 400) ∧ (0 ≤ x1 ∧ x1 ≤ 255) ∧ ((-1) ≤ x2 ∧ x2 ≤ 47) ∧ True) → (True) → (True) → ((τ.1 93 31).toInt = x0 ∧ True) → Ok 182 14 124 [.ref 93, .int (Int32.ofInt (x1))] [] τ Q)
    (l1 : ∀ (τ : pm_S) (y : Nat → Int), an_GB pm_B τ → FQ [] σ τ → ((0 ≤ x0 ∧ x0 ≤ 400) ∧ (0 ≤ x1 ∧ x1 ≤ 255) ∧ (58 ≤ x2 ∧ x2 ≤ 255) ∧ True) → (True) → (True) → ((τ.1 93 31).toInt = x0 ∧ True) → Ok 182 14 124 [.ref 93, .int (Int32.ofInt (x1))] [] τ Q)
    (l2 : ∀ (τ : pm_S) (y : Nat → Int), an_GB pm_B τ → FQ [] σ τ → ((0 ≤ x0 ∧ x0 ≤ 400) ∧ (0 ≤ x1 ∧ x1 ≤ 255) ∧ (48 ≤ x2 ∧ x2 ≤ 57) ∧ True) → (True) → (True) → ((τ.1 93 31).toInt = x0 ∧ True) → Ok 182 14 97 [.ref 93, .int (Int32.ofInt (x1))] [] τ Q)
    : Ok 182 14 95 [.ref 93, .int (Int32.ofInt (x1))] [.int (Int32.ofInt (x2)), .ref 93] σ Q := by
  refine an_seg (B := pm_B) (F := []) (T := []) (S := []) (fun _ h => absurd h List.not_mem_nil) (k := 182) (d := 13) (cs := [97, 124]) 19 95 3 [(0, 0, 400), (1, 0, 255), (2, (-1), 255)] [(93, (1, 0, 31), (0, 0, 0))] [(2, 93, 0), (0, 1, 0)] [(0, 2, 0), (2, 93, 0)] [(124, [(2, 93, 0), (0, 1, 0)], [], [(0, 0, 400), (1, 0, 255), (2, (-1), 47)], [], [], [(93, (1, 0, 31), (0, 0, 0))]),
    (124, [(2, 93, 0), (0, 1, 0)], [], [(0, 0, 400), (1, 0, 255), (2, 58, 255)], [], [], [(93, (1, 0, 31), (0, 0, 0))]),
    (97, [(2, 93, 0), (0, 1, 0)], [], [(0, 0, 400), (1, 0, 255), (2, 48, 57)], [], [], [(93, (1, 0, 31), (0, 0, 0))])] (by decide +kernel) (ρ0 := (fun s => [x0, x1, x2].getD s 0)) hB eF eC ⟨rfl, ⟨rfl, trivial⟩⟩ ⟨rfl, ⟨rfl, trivial⟩⟩ ?_
  refine List.forall_mem_cons.mpr ⟨?_, List.forall_mem_cons.mpr ⟨?_, List.forall_mem_cons.mpr ⟨?_, fun _ h => absurd h List.not_mem_nil⟩⟩⟩
  · intro ρ τ Lc stc hx g1 g2 g3 g4 g5 g6 g7 g8
    have e0 : ρ 0 = x0 := hx 0 (by decide)
    have e1 : ρ 1 = x1 := hx 1 (by decide)
    have e2 : ρ 2 = x2 := hx 2 (by decide)
    subst e0
    subst e1
    subst e2
    have g7 := g7 (by decide)
    match Lc, stc, g7, g8 with
    | [v0, v1], [], ⟨hv0, hv1, _⟩, _ =>
      cases hv0
      cases hv1
      exact l0 τ ρ  g1 g2 g3 g4 g5 g6
  · intro ρ τ Lc stc hx g1 g2 g3 g4 g5 g6 g7 g8
    have e0 : ρ 0 = x0 := hx 0 (by decide)
    have e1 : ρ 1 = x1 := hx 1 (by decide)
    have e2 : ρ 2 = x2 := hx 2 (by decide)
    subst e0
    subst e1
    subst e2
    have g7 := g7 (by decide)
    match Lc, stc, g7, g8 with
    | [v0, v1], [], ⟨hv0, hv1, _⟩, _ =>
      cases hv0
      cases hv1
      exact l1 τ ρ  g1 g2 g3 g4 g5 g6
  · intro ρ τ Lc stc hx g1 g2 g3 g4 g5 g6 g7 g8
    have e0 : ρ 0 = x0 := hx 0 (by decide)
    have e1 : ρ 1 = x1 := hx 1 (by decide)
    have e2 : ρ 2 = x2 := hx 2 (by decide)
    subst e0
    subst e1
    subst e2
    have g7 := g7 (by decide)
    match Lc, stc, g7, g8 with
    | [v0, v1], [], ⟨hv0, hv1, _⟩, _ =>
      cases hv0
      cases hv1
      exact l2 τ ρ  g1 g2 g3 g4 g5 g6
set_option maxRecDepth 100000 in
theorem mq_s97 {σ : pm_S} {Q : Option Value → pm_S → Prop} (x0 x1 x2 : Int)  (hB : an_GB pm_B σ) (eF : (0 ≤ x0 ∧ x0 ≤ 399) ∧ (0 ≤ x1 ∧ x1 ≤ 255) ∧ (0 ≤ x2 ∧ x2 ≤ 99999) ∧ True) (eC : (σ.1 93 31).toInt = x0 ∧ (σ.1 93 34).toInt = x2 ∧ True)
    (l0 : ∀ (τ : pm_S) (y : Nat → Int), an_GB pm_B τ → FQ [(93, 31), (93, 34)] σ τ → ((0 ≤ x0 ∧ x0 ≤ 399) ∧ (0 ≤ x1 ∧ x1 ≤ 255) ∧ (10000 ≤ x2 ∧ x2 ≤ 99999) ∧ True) → (True) → (True) → ((τ.1 93 31).toInt = x0 + 1 ∧ (τ.1 93 34).toInt = x2 ∧ True) → Ok 182 14 90 [.ref 93, .int (Int32.ofInt (x1))] [] τ Q)
    (l1 : ∀ (τ : pm_S) (y : Nat → Int), an_GB pm_B τ → FQ [(93, 31), (93, 34)] σ τ → ((0 ≤ x0 ∧ x0 ≤ 399) ∧ (0 ≤ x1 ∧ x1 ≤ 255) ∧ (0 ≤ x2 ∧ x2 ≤ 9999) ∧ (0 ≤ y 3 ∧ y 3 ≤ 99990) ∧ True) → (True) → ((an_f 2 (Int32.ofInt (10)) (Int32.ofInt (x2))).toInt = y 3 ∧ True) → ((τ.1 93 31).toInt = x0 ∧ (τ.1 93 34).toInt = x2 ∧ True) → Ok 182 14 109 [.ref 93, .int (Int32.ofInt (x1))] [.int (Int32.ofInt (x0)), .ref 93, .int (Int32.ofInt (y 3)), .ref 93] τ Q)
    : Ok 182 14 97 [.ref 93, .int (Int32.ofInt (x1))] [] σ Q := by
  refine an_seg (B := pm_B) (F := [(93, 31), (93, 34)]) (T := []) (S := []) (fun _ h => absurd h List.not_mem_nil) (k := 182) (d := 13) (cs := [90, 109]) 17 97 3 [(0, 0, 399), (1, 0, 255), (2, 0, 99999)] [(93, (1, 0, 31), (0, 0, 0)), (93, (1, 0, 34), (0, 2, 0))] [(2, 93, 0), (0, 1, 0)] [] [(90, [(2, 93, 0), (0, 1, 0)], [], [(0, 0, 399), (1, 0, 255), (2, 10000, 99999)], [], [], [(93, (1, 0, 31), (0, 0, 1)), (93, (1, 0, 34), (0, 2, 0))]),
    (109, [(2, 93, 0), (0, 1, 0)], [(0, 0, 0), (2, 93, 0), (0, 3, 0), (2, 93, 0)], [(0, 0, 399), (1, 0, 255), (2, 0, 9999), (3, 0, 99990)], [], [(2, (1, 0, 10), (0, 2, 0), 3)], [(93, (1, 0, 31), (0, 0, 0)), (93, (1, 0, 34), (0, 2, 0))])] (by decide +kernel) (ρ0 := (fun s => [x0, x1, x2].getD s 0)) hB eF eC ⟨rfl, ⟨rfl, trivial⟩⟩ trivial ?_
  refine List.forall_mem_cons.mpr ⟨?_, List.forall_mem_cons.mpr ⟨?_, fun _ h => absurd h List.not_mem_nil⟩⟩
  · intro ρ τ Lc stc hx g1 g2 g3 g4 g5 g6 g7 g8
    have e0 : ρ 0 = x0 := hx 0 (by decide)
    have e1 : ρ 1 = x1 := hx 1 (by decide)
    have e2 : ρ 2 = x2 := hx 2 (by decide)
    subst e0
    subst e1
    subst e2
    have g7 := g7 (by decide)
    match Lc, stc, g7, g8 with
    | [v0, v1], [], ⟨hv0, hv1, _⟩, _ =>
      cases hv0
      cases hv1
      exact l0 τ ρ  g1 g2 g3 g4 g5 g6
  · intro ρ τ Lc stc hx g1 g2 g3 g4 g5 g6 g7 g8
    have e0 : ρ 0 = x0 := hx 0 (by decide)
    have e1 : ρ 1 = x1 := hx 1 (by decide)
    have e2 : ρ 2 = x2 := hx 2 (by decide)
    subst e0
    subst e1
    subst e2
    have g7 := g7 (by decide)
    match Lc, stc, g7, g8 with
    | [v0, v1], [w0, w1, w2, w3], ⟨hv0, hv1, _⟩, ⟨hw0, hw1, hw2, hw3, _⟩ =>
      cases hv0
      cases hv1
      cases hw0
      cases hw1
      cases hw2
      cases hw3
      exact l1 τ ρ  g1 g2 g3 g4 g5 g6
set_option maxRecDepth 100000 in
theorem mq_s110 {σ : pm_S} {Q : Option Value → pm_S → Prop} (x0 x1 x2 x3 : Int)  (hB : an_GB pm_B σ) (eF : (0 ≤ x0 ∧ x0 ≤ 399) ∧ (0 ≤ x1 ∧ x1 ≤ 255) ∧ (48 ≤ x2 ∧ x2 ≤ 57) ∧ (0 ≤ x3 ∧ x3 ≤ 99990) ∧ True) (eC : (σ.1 93 31).toInt = x0 ∧ True)
    (l0 : ∀ (τ : pm_S) (y : Nat → Int), an_GB pm_B τ → FQ [(93, 31), (93, 34)] σ τ → ((0 ≤ x0 ∧ x0 ≤ 399) ∧ (0 ≤ x1 ∧ x1 ≤ 255) ∧ (48 ≤ x2 ∧ x2 ≤ 57) ∧ (0 ≤ x3 ∧ x3 ≤ 99990) ∧ (48 ≤ y 4 ∧ y 4 ≤ 100047) ∧ True) → (True) → ((an_f 0 (Int32.ofInt (x3)) (Int32.ofInt (x2))).toInt = y 4 ∧ True) → ((τ.1 93 31).toInt = x0 + 1 ∧ (τ.1 93 34).toInt = y 4 + (-48) ∧ True) → Ok 182 14 90 [.ref 93, .int (Int32.ofInt (x1))] [] τ Q)
    : Ok 182 14 110 [.ref 93, .int (Int32.ofInt (x1))] [.int (Int32.ofInt (x2)), .int (Int32.ofInt (x3)), .ref 93] σ Q := by
  refine an_seg (B := pm_B) (F := [(93, 31), (93, 34)]) (T := []) (S := []) (fun _ h => absurd h List.not_mem_nil) (k := 182) (d := 13) (cs := [90]) 14 110 4 [(0, 0, 399), (1, 0, 255), (2, 48, 57), (3, 0, 99990)] [(93, (1, 0, 31), (0, 0, 0))] [(2, 93, 0), (0, 1, 0)] [(0, 2, 0), (0, 3, 0), (2, 93, 0)] [(90, [(2, 93, 0), (0, 1, 0)], [], [(0, 0, 399), (1, 0, 255), (2, 48, 57), (3, 0, 99990), (4, 48, 100047)], [], [(0, (0, 3, 0), (0, 2, 0), 4)], [(93, (1, 0, 31), (0, 0, 1)), (93, (1, 0, 34), (0, 4, (-48)))])] (by decide +kernel) (ρ0 := (fun s => [x0, x1, x2, x3].getD s 0)) hB eF eC ⟨rfl, ⟨rfl, trivial⟩⟩ ⟨rfl, ⟨rfl, ⟨rfl, trivial⟩⟩⟩ ?_
  refine List.forall_mem_cons.mpr ⟨?_, fun _ h => absurd h List.not_mem_nil⟩
  · intro ρ τ Lc stc hx g1 g2 g3 g4 g5 g6 g7 g8
    have e0 : ρ 0 = x0 := hx 0 (by decide)
    have e1 : ρ 1 = x1 := hx 1 (by decide)
    have e2 : ρ 2 = x2 := hx 2 (by decide)
    have e3 : ρ 3 = x3 := hx 3 (by decide)
    subst e0
    subst e1
    subst e2
    subst e3
    have g7 := g7 (by decide)
    match Lc, stc, g7, g8 with
    | [v0, v1], [], ⟨hv0, hv1, _⟩, _ =>
      cases hv0
      cases hv1
      exact l0 τ ρ  g1 g2 g3 g4 g5 g6
set_option maxRecDepth 100000 in
theorem mq_s124 {σ : pm_S} {Q : Option Value → pm_S → Prop} (x0 x1 x2 : Int)  (hB : an_GB pm_B σ) (eF : (0 ≤ x0 ∧ x0 ≤ 400) ∧ (0 ≤ x1 ∧ x1 ≤ 255) ∧ (0 ≤ x2 ∧ x2 ≤ 400) ∧ True) (eC : (σ.1 93 31).toInt = x0 ∧ (σ.1 93 32).toInt = x2 ∧ (σ.1 93 33).toInt = 1 ∧ True)
    (l0 : ∀ (τ : pm_S) (y : Nat → Int), an_GB pm_B τ → FQ [(93, 33)] σ τ → ((0 ≤ x0 ∧ x0 ≤ 400) ∧ (0 ≤ x1 ∧ x1 ≤ 255) ∧ (0 ≤ x2 ∧ x2 ≤ 400) ∧ (5 ≤ y 3 ∧ y 3 ≤ 400) ∧ True) → (True) → ((an_f 1 (Int32.ofInt (x0)) (Int32.ofInt (x2))).toInt = y 3 ∧ True) → ((τ.1 93 31).toInt = x0 ∧ (τ.1 93 32).toInt = x2 ∧ (τ.1 93 33).toInt = 1 ∧ True) → Q none τ)
    (l1 : ∀ (τ : pm_S) (y : Nat → Int), an_GB pm_B τ → FQ [(93, 33)] σ τ → ((0 ≤ x0 ∧ x0 ≤ 400) ∧ (0 ≤ x1 ∧ x1 ≤ 255) ∧ (0 ≤ x2 ∧ x2 ≤ 400) ∧ ((-400) ≤ y 3 ∧ y 3 ≤ 4) ∧ True) → (True) → ((an_f 1 (Int32.ofInt (x0)) (Int32.ofInt (x2))).toInt = y 3 ∧ True) → ((τ.1 93 31).toInt = x0 ∧ (τ.1 93 32).toInt = x2 ∧ (τ.1 93 33).toInt = 3 ∧ True) → Q none τ)
    : Ok 182 14 124 [.ref 93, .int (Int32.ofInt (x1))] [] σ Q := by
  refine an_seg (B := pm_B) (F := [(93, 33)]) (T := []) (S := []) (fun _ h => absurd h List.not_mem_nil) (k := 182) (d := 13) (cs := []) 14 124 3 [(0, 0, 400), (1, 0, 255), (2, 0, 400)] [(93, (1, 0, 31), (0, 0, 0)), (93, (1, 0, 32), (0, 2, 0)), (93, (1, 0, 33), (1, 0, 1))] [(2, 93, 0), (0, 1, 0)] [] [(9999, [], [], [(0, 0, 400), (1, 0, 255), (2, 0, 400), (3, 5, 400)], [], [(1, (0, 0, 0), (0, 2, 0), 3)], [(93, (1, 0, 31), (0, 0, 0)), (93, (1, 0, 32), (0, 2, 0)), (93, (1, 0, 33), (1, 0, 1))]),
    (9999, [], [], [(0, 0, 400), (1, 0, 255), (2, 0, 400), (3, (-400), 4)], [], [(1, (0, 0, 0), (0, 2, 0), 3)], [(93, (1, 0, 31), (0, 0, 0)), (93, (1, 0, 32), (0, 2, 0)), (93, (1, 0, 33), (1, 0, 3))])] (by decide +kernel) (ρ0 := (fun s => [x0, x1, x2].getD s 0)) hB eF eC ⟨rfl, ⟨rfl, trivial⟩⟩ trivial ?_
  refine List.forall_mem_cons.mpr ⟨?_, List.forall_mem_cons.mpr ⟨?_, fun _ h => absurd h List.not_mem_nil⟩⟩
  · intro ρ τ Lc stc hx g1 g2 g3 g4 g5 g6 g7 g8
    have e0 : ρ 0 = x0 := hx 0 (by decide)
    have e1 : ρ 1 = x1 := hx 1 (by decide)
    have e2 : ρ 2 = x2 := hx 2 (by decide)
    subst e0
    subst e1
    subst e2
    match stc, g8 with
    | [], _ => exact l0 τ ρ g1 g2 g3 g4 g5 g6
  · intro ρ τ Lc stc hx g1 g2 g3 g4 g5 g6 g7 g8
    have e0 : ρ 0 = x0 := hx 0 (by decide)
    have e1 : ρ 1 = x1 := hx 1 (by decide)
    have e2 : ρ 2 = x2 := hx 2 (by decide)
    subst e0
    subst e1
    subst e2
    match stc, g8 with
    | [], _ => exact l1 τ ρ g1 g2 g3 g4 g5 g6
set_option maxRecDepth 100000 in
theorem mq_e0 {σ : pm_S} {Q : Option Value → pm_S → Prop} (x0 x1 x2 : Int)  (hB : an_GB pm_B σ) (eF : (0 ≤ x0 ∧ x0 ≤ 11) ∧ ((-2147483648) ≤ x1 ∧ x1 ≤ 2147483647) ∧ (0 ≤ x2 ∧ x2 ≤ 399) ∧ True) (eC : (σ.1 93 42).toInt = x2 ∧ True)
    (l0 : ∀ (τ : pm_S) (y : Nat → Int), an_GB pm_B τ → FQ [] σ τ → ((0 ≤ x0 ∧ x0 ≤ 11) ∧ ((-2147483648) ≤ x1 ∧ x1 ≤ 2147483647) ∧ (0 ≤ x2 ∧ x2 ≤ 399) ∧ True) → (True) → (True) → ((τ.1 93 42).toInt = x2 ∧ True) → Ok 186 5 7 [.ref 93, .int (Int32.ofInt (x0)), .int (Int32.ofInt (x1))] [.int (Int32.ofInt (x0)), .int (Int32.ofInt (x2 + 400)), .ref 119] τ Q)
    : Ok 186 5 0 [.ref 93, .int (Int32.ofInt (x0)), .int (Int32.ofInt (x1))] [] σ Q := by
  refine an_seg (B := pm_B) (F := []) (T := []) (S := []) (fun _ h => absurd h List.not_mem_nil) (k := 186) (d := 4) (cs := [7]) 9 0 3 [(0, 0, 11), (1, (-2147483648), 2147483647), (2, 0, 399)] [(93, (1, 0, 42), (0, 2, 0))] [(2, 93, 0), (0, 0, 0), (0, 1, 0)] [] [(7, [(2, 93, 0), (0, 0, 0), (0, 1, 0)], [(0, 0, 0), (0, 2, 400), (2, 119, 0)], [(0, 0, 11), (1, (-2147483648), 2147483647), (2, 0, 399)], [], [], [(93, (1, 0, 42), (0, 2, 0))])] (by decide +kernel) (ρ0 := (fun s => [x0, x1, x2].getD s 0)) hB eF eC ⟨rfl, ⟨rfl, ⟨rfl, trivial⟩⟩⟩ trivial ?_
  refine List.forall_mem_cons.mpr ⟨?_, fun _ h => absurd h List.not_mem_nil⟩
  · intro ρ τ Lc stc hx g1 g2 g3 g4 g5 g6 g7 g8
    have e0 : ρ 0 = x0 := hx 0 (by decide)
    have e1 : ρ 1 = x1 := hx 1 (by decide)
    have e2 : ρ 2 = x2 := hx 2 (by decide)
    subst e0
    subst e1
    subst e2
    have g7 := g7 (by decide)
    match Lc, stc, g7, g8 with
    | [v0, v1, v2], [w0, w1, w2], ⟨hv0, hv1, hv2, _⟩, ⟨hw0, hw1, hw2, _⟩ =>
      cases hv0
      cases hv1
      cases hv2
      cases hw0
      cases hw1
      cases hw2
      exact l0 τ ρ  g1 g2 g3 g4 g5 g6
set_option maxRecDepth 100000 in
theorem mq_e8 {σ : pm_S} {Q : Option Value → pm_S → Prop} (x0 x1 x2 : Int)  (hB : an_GB pm_B σ) (eF : (0 ≤ x0 ∧ x0 ≤ 11) ∧ ((-2147483648) ≤ x1 ∧ x1 ≤ 2147483647) ∧ (0 ≤ x2 ∧ x2 ≤ 399) ∧ True) (eC : (σ.1 93 42).toInt = x2 ∧ True)
    (l0 : ∀ (τ : pm_S) (y : Nat → Int), an_GB pm_B τ → FQ [] σ τ → ((0 ≤ x0 ∧ x0 ≤ 11) ∧ ((-2147483648) ≤ x1 ∧ x1 ≤ 2147483647) ∧ (0 ≤ x2 ∧ x2 ≤ 399) ∧ True) → (True) → (True) → ((τ.1 93 42).toInt = x2 ∧ True) → Ok 186 5 15 [.ref 93, .int (Int32.ofInt (x0)), .int (Int32.ofInt (x1))] [.int (Int32.ofInt (x1)), .int (Int32.ofInt (x2 + 400)), .ref 120] τ Q)
    : Ok 186 5 8 [.ref 93, .int (Int32.ofInt (x0)), .int (Int32.ofInt (x1))] [] σ Q := by
  refine an_seg (B := pm_B) (F := []) (T := []) (S := []) (fun _ h => absurd h List.not_mem_nil) (k := 186) (d := 4) (cs := [15]) 9 8 3 [(0, 0, 11), (1, (-2147483648), 2147483647), (2, 0, 399)] [(93, (1, 0, 42), (0, 2, 0))] [(2, 93, 0), (0, 0, 0), (0, 1, 0)] [] [(15, [(2, 93, 0), (0, 0, 0), (0, 1, 0)], [(0, 1, 0), (0, 2, 400), (2, 120, 0)], [(0, 0, 11), (1, (-2147483648), 2147483647), (2, 0, 399)], [], [], [(93, (1, 0, 42), (0, 2, 0))])] (by decide +kernel) (ρ0 := (fun s => [x0, x1, x2].getD s 0)) hB eF eC ⟨rfl, ⟨rfl, ⟨rfl, trivial⟩⟩⟩ trivial ?_
  refine List.forall_mem_cons.mpr ⟨?_, fun _ h => absurd h List.not_mem_nil⟩
  · intro ρ τ Lc stc hx g1 g2 g3 g4 g5 g6 g7 g8
    have e0 : ρ 0 = x0 := hx 0 (by decide)
    have e1 : ρ 1 = x1 := hx 1 (by decide)
    have e2 : ρ 2 = x2 := hx 2 (by decide)
    subst e0
    subst e1
    subst e2
    have g7 := g7 (by decide)
    match Lc, stc, g7, g8 with
    | [v0, v1, v2], [w0, w1, w2], ⟨hv0, hv1, hv2, _⟩, ⟨hw0, hw1, hw2, _⟩ =>
      cases hv0
      cases hv1
      cases hv2
      cases hw0
      cases hw1
      cases hw2
      exact l0 τ ρ  g1 g2 g3 g4 g5 g6
set_option maxRecDepth 100000 in
theorem mq_e16 {σ : pm_S} {Q : Option Value → pm_S → Prop} (x0 x1 x2 : Int)  (hB : an_GB pm_B σ) (eF : (0 ≤ x0 ∧ x0 ≤ 11) ∧ ((-2147483648) ≤ x1 ∧ x1 ≤ 2147483647) ∧ (0 ≤ x2 ∧ x2 ≤ 399) ∧ True) (eC : (σ.1 93 42).toInt = x2 ∧ True)
    (l0 : ∀ (τ : pm_S) (y : Nat → Int), an_GB pm_B τ → FQ [(93, 42)] σ τ → ((0 ≤ x0 ∧ x0 ≤ 11) ∧ ((-2147483648) ≤ x1 ∧ x1 ≤ 2147483647) ∧ (0 ≤ x2 ∧ x2 ≤ 399) ∧ True) → (True) → (True) → ((τ.1 93 42).toInt = x2 + 1 ∧ True) → Q none τ)
    : Ok 186 5 16 [.ref 93, .int (Int32.ofInt (x0)), .int (Int32.ofInt (x1))] [] σ Q := by
  refine an_seg (B := pm_B) (F := [(93, 42)]) (T := []) (S := []) (fun _ h => absurd h List.not_mem_nil) (k := 186) (d := 4) (cs := []) 9 16 3 [(0, 0, 11), (1, (-2147483648), 2147483647), (2, 0, 399)] [(93, (1, 0, 42), (0, 2, 0))] [(2, 93, 0), (0, 0, 0), (0, 1, 0)] [] [(9999, [], [], [(0, 0, 11), (1, (-2147483648), 2147483647), (2, 0, 399)], [], [], [(93, (1, 0, 42), (0, 2, 1))])] (by decide +kernel) (ρ0 := (fun s => [x0, x1, x2].getD s 0)) hB eF eC ⟨rfl, ⟨rfl, ⟨rfl, trivial⟩⟩⟩ trivial ?_
  refine List.forall_mem_cons.mpr ⟨?_, fun _ h => absurd h List.not_mem_nil⟩
  · intro ρ τ Lc stc hx g1 g2 g3 g4 g5 g6 g7 g8
    have e0 : ρ 0 = x0 := hx 0 (by decide)
    have e1 : ρ 1 = x1 := hx 1 (by decide)
    have e2 : ρ 2 = x2 := hx 2 (by decide)
    subst e0
    subst e1
    subst e2
    match stc, g8 with
    | [], _ => exact l0 τ ρ g1 g2 g3 g4 g5 g6
set_option maxRecDepth 100000 in
theorem mq_u0 {σ : pm_S} {Q : Option Value → pm_S → Prop} (x0 x1 x2 : Int) (v1 : Value) (hv1 : v1.category = 1) (hB : an_GB pm_B σ) (eF : (0 ≤ x0 ∧ x0 ≤ 4) ∧ ((-2147483648) ≤ x1 ∧ x1 ≤ 2147483647) ∧ (0 ≤ x2 ∧ x2 ≤ 400) ∧ True) (eC : (σ.1 93 33).toInt = x0 ∧ (σ.1 93 34).toInt = x1 ∧ (σ.1 93 32).toInt = x2 ∧ True)
    (l0 : ∀ (τ : pm_S) (y : Nat → Int), an_GB pm_B τ → FQ [(93, 46), (93, 47)] σ τ → ((3 ≤ x0 ∧ x0 ≤ 3) ∧ ((-2147483648) ≤ x1 ∧ x1 ≤ 2147483647) ∧ (0 ≤ x2 ∧ x2 ≤ 400) ∧ True) → (x0 ≠ 2 ∧ True) → (True) → ((τ.1 93 32).toInt = x2 ∧ (τ.1 93 33).toInt = x0 ∧ (τ.1 93 34).toInt = x1 ∧ True) → Ok 187 17 37 [.ref 93, .int (Int32.ofInt 0)] [.int (Int32.ofInt (x1)), .int (Int32.ofInt 0), .ref 93] τ Q)
    (l1 : ∀ (τ : pm_S) (y : Nat → Int), an_GB pm_B τ → FQ [(93, 46), (93, 47)] σ τ → ((0 ≤ x0 ∧ x0 ≤ 4) ∧ ((-2147483648) ≤ x1 ∧ x1 ≤ 2147483647) ∧ (0 ≤ x2 ∧ x2 ≤ 400) ∧ True) → (x0 ≠ 3 ∧ x0 ≠ 2 ∧ True) → (True) → ((τ.1 93 32).toInt = x2 ∧ (τ.1 93 33).toInt = x0 ∧ (τ.1 93 34).toInt = x1 ∧ (τ.1 93 46).toInt = 1 ∧ (τ.1 93 47).toInt = x2 ∧ True) → Q (some (.int (Int32.ofInt (-1)))) τ)
    (l2 : ∀ (τ : pm_S) (y : Nat → Int), an_GB pm_B τ → FQ [(93, 46), (93, 47)] σ τ → ((2 ≤ x0 ∧ x0 ≤ 2) ∧ ((-2147483648) ≤ x1 ∧ x1 ≤ 5) ∧ (0 ≤ x2 ∧ x2 ≤ 400) ∧ True) → (True) → (True) → ((τ.1 93 32).toInt = x2 ∧ (τ.1 93 33).toInt = x0 ∧ (τ.1 93 34).toInt = x1 ∧ (τ.1 93 46).toInt = 1 ∧ (τ.1 93 47).toInt = x2 ∧ True) → Q (some (.int (Int32.ofInt (-1)))) τ)
    (l3 : ∀ (τ : pm_S) (y : Nat → Int), an_GB pm_B τ → FQ [(93, 46), (93, 47)] σ τ → ((2 ≤ x0 ∧ x0 ≤ 2) ∧ (6 ≤ x1 ∧ x1 ≤ 2147483647) ∧ (0 ≤ x2 ∧ x2 ≤ 400) ∧ True) → (True) → (True) → ((τ.1 93 32).toInt = x2 ∧ (τ.1 93 33).toInt = x0 ∧ (τ.1 93 34).toInt = x1 ∧ True) → Ok 187 17 37 [.ref 93, .int (Int32.ofInt 1)] [.int (Int32.ofInt (x1 + (-6))), .int (Int32.ofInt 1), .ref 93] τ Q)
    : Ok 187 17 0 [.ref 93, v1] [] σ Q := by
  refine an_seg (B := pm_B) (F := [(93, 46), (93, 47)]) (T := []) (S := []) (fun _ h => absurd h List.not_mem_nil) (k := 187) (d := 16) (cs := [37]) 31 0 3 [(0, 0, 4), (1, (-2147483648), 2147483647), (2, 0, 400)] [(93, (1, 0, 33), (0, 0, 0)), (93, (1, 0, 34), (0, 1, 0)), (93, (1, 0, 32), (0, 2, 0))] [(2, 93, 0), (5, 0, 0)] [] [(37, [(2, 93, 0), (1, 0, 0)], [(0, 1, 0), (1, 0, 0), (2, 93, 0)], [(0, 3, 3), (1, (-2147483648), 2147483647), (2, 0, 400)], [(3, 0, 0, 2)], [], [(93, (1, 0, 32), (0, 2, 0)), (93, (1, 0, 33), (0, 0, 0)), (93, (1, 0, 34), (0, 1, 0))]),
    (9999, [], [(1, 0, (-1))], [(0, 0, 4), (1, (-2147483648), 2147483647), (2, 0, 400)], [(3, 0, 0, 3), (3, 0, 0, 2)], [], [(93, (1, 0, 32), (0, 2, 0)), (93, (1, 0, 33), (0, 0, 0)), (93, (1, 0, 34), (0, 1, 0)), (93, (1, 0, 46), (1, 0, 1)), (93, (1, 0, 47), (0, 2, 0))]),
    (9999, [], [(1, 0, (-1))], [(0, 2, 2), (1, (-2147483648), 5), (2, 0, 400)], [], [], [(93, (1, 0, 32), (0, 2, 0)), (93, (1, 0, 33), (0, 0, 0)), (93, (1, 0, 34), (0, 1, 0)), (93, (1, 0, 46), (1, 0, 1)), (93, (1, 0, 47), (0, 2, 0))]),
    (37, [(2, 93, 0), (1, 0, 1)], [(0, 1, (-6)), (1, 0, 1), (2, 93, 0)], [(0, 2, 2), (1, 6, 2147483647), (2, 0, 400)], [], [], [(93, (1, 0, 32), (0, 2, 0)), (93, (1, 0, 33), (0, 0, 0)), (93, (1, 0, 34), (0, 1, 0))])] (by decide +kernel) (ρ0 := (fun s => [x0, x1, x2].getD s 0)) hB eF eC ⟨rfl, ⟨hv1, trivial⟩⟩ trivial ?_
  refine List.forall_mem_cons.mpr ⟨?_, List.forall_mem_cons.mpr ⟨?_, List.forall_mem_cons.mpr ⟨?_, List.forall_mem_cons.mpr ⟨?_, fun _ h => absurd h List.not_mem_nil⟩⟩⟩⟩
  · intro ρ τ Lc stc hx g1 g2 g3 g4 g5 g6 g7 g8
    have e0 : ρ 0 = x0 := hx 0 (by decide)
    have e1 : ρ 1 = x1 := hx 1 (by decide)
    have e2 : ρ 2 = x2 := hx 2 (by decide)
    subst e0
    subst e1
    subst e2
    have g7 := g7 (by decide)
    match Lc, stc, g7, g8 with
    | [v0, v1], [w0, w1, w2], ⟨hv0, hv1, _⟩, ⟨hw0, hw1, hw2, _⟩ =>
      cases hv0
      cases hv1
      cases hw0
      cases hw1
      cases hw2
      exact l0 τ ρ  g1 g2 g3 g4 g5 g6
  · intro ρ τ Lc stc hx g1 g2 g3 g4 g5 g6 g7 g8
    have e0 : ρ 0 = x0 := hx 0 (by decide)
    have e1 : ρ 1 = x1 := hx 1 (by decide)
    have e2 : ρ 2 = x2 := hx 2 (by decide)
    subst e0
    subst e1
    subst e2
    match stc, g8 with
    | [_], ⟨h, _⟩ => cases h; exact l1 τ ρ g1 g2 g3 g4 g5 g6
  · intro ρ τ Lc stc hx g1 g2 g3 g4 g5 g6 g7 g8
    have e0 : ρ 0 = x0 := hx 0 (by decide)
    have e1 : ρ 1 = x1 := hx 1 (by decide)
    have e2 : ρ 2 = x2 := hx 2 (by decide)
    subst e0
    subst e1
    subst e2
    match stc, g8 with
    | [_], ⟨h, _⟩ => cases h; exact l2 τ ρ g1 g2 g3 g4 g5 g6
  · intro ρ τ Lc stc hx g1 g2 g3 g4 g5 g6 g7 g8
    have e0 : ρ 0 = x0 := hx 0 (by decide)
    have e1 : ρ 1 = x1 := hx 1 (by decide)
    have e2 : ρ 2 = x2 := hx 2 (by decide)
    subst e0
    subst e1
    subst e2
    have g7 := g7 (by decide)
    match Lc, stc, g7, g8 with
    | [v0, v1], [w0, w1, w2], ⟨hv0, hv1, _⟩, ⟨hw0, hw1, hw2, _⟩ =>
      cases hv0
      cases hv1
      cases hw0
      cases hw1
      cases hw2
      exact l3 τ ρ  g1 g2 g3 g4 g5 g6
set_option maxRecDepth 100000 in
theorem mq_u38 {σ : pm_S} {Q : Option Value → pm_S → Prop} (v1 : Value) (hv1 : v1.category = 1) (hB : an_GB pm_B σ)
    (l0 : ∀ (τ : pm_S) (y : Nat → Int) (v1 : Value), v1.category = 1 → an_GB pm_B τ → FQ [] σ τ → (True) → (True) → (True) → (True) → Ok 187 17 39 [.ref 93, v1] [.ref 93] τ Q)
    : Ok 187 17 38 [.ref 93, v1] [] σ Q := by
  refine an_seg (B := pm_B) (F := []) (T := []) (S := []) (fun _ h => absurd h List.not_mem_nil) (k := 187) (d := 16) (cs := [39]) 3 38 0 [] [] [(2, 93, 0), (5, 0, 0)] [] [(39, [(2, 93, 0), (5, 0, 0)], [(2, 93, 0)], [], [], [], [])] (by decide +kernel) (ρ0 := (fun s => [].getD s 0)) hB trivial trivial ⟨rfl, ⟨hv1, trivial⟩⟩ trivial ?_
  refine List.forall_mem_cons.mpr ⟨?_, fun _ h => absurd h List.not_mem_nil⟩
  · intro ρ τ Lc stc hx g1 g2 g3 g4 g5 g6 g7 g8
    have g7 := g7 (by decide)
    match Lc, stc, g7, g8 with
    | [v0, v1], [w0], ⟨hv0, hv1, _⟩, ⟨hw0, _⟩ =>
      cases hv0
      cases hw0
      exact l0 τ ρ v1 hv1 g1 g2 g3 g4 g5 g6
set_option maxRecDepth 100000 in
theorem mq_u40 {σ : pm_S} {Q : Option Value → pm_S → Prop} (v1 : Value) (hv1 : v1.category = 1) (hB : an_GB pm_B σ)
    (l0 : ∀ (τ : pm_S) (y : Nat → Int), an_GB pm_B τ → FQ [] σ τ → (True) → (True) → (True) → (True) → Q (some (.int (Int32.ofInt 0))) τ)
    : Ok 187 17 40 [.ref 93, v1] [] σ Q := by
  refine an_seg (B := pm_B) (F := []) (T := []) (S := []) (fun _ h => absurd h List.not_mem_nil) (k := 187) (d := 16) (cs := []) 4 40 0 [] [] [(2, 93, 0), (5, 0, 0)] [] [(9999, [], [(1, 0, 0)], [], [], [], [])] (by decide +kernel) (ρ0 := (fun s => [].getD s 0)) hB trivial trivial ⟨rfl, ⟨hv1, trivial⟩⟩ trivial ?_
  refine List.forall_mem_cons.mpr ⟨?_, fun _ h => absurd h List.not_mem_nil⟩
  · intro ρ τ Lc stc hx g1 g2 g3 g4 g5 g6 g7 g8
    match stc, g8 with
    | [_], ⟨h, _⟩ => cases h; exact l0 τ ρ g1 g2 g3 g4 g5 g6
set_option maxRecDepth 100000 in
theorem mq_p0 {σ : pm_S} {Q : Option Value → pm_S → Prop} (v1 : Value) (hv1 : v1.category = 1) (hB : an_GB pm_B σ)
    (l0 : ∀ (τ : pm_S) (y : Nat → Int) (v1 : Value), v1.category = 1 → an_GB pm_B τ → FQ [] σ τ → (True) → (True) → (True) → (True) → Ok 188 19 1 [.ref 93, v1] [.ref 93] τ Q)
    : Ok 188 19 0 [.ref 93, v1] [] σ Q := by
  refine an_seg (B := pm_B) (F := []) (T := []) (S := []) (fun _ h => absurd h List.not_mem_nil) (k := 188) (d := 18) (cs := [1]) 3 0 0 [] [] [(2, 93, 0), (5, 0, 0)] [] [(1, [(2, 93, 0), (5, 0, 0)], [(2, 93, 0)], [], [], [], [])] (by decide +kernel) (ρ0 := (fun s => [].getD s 0)) hB trivial trivial ⟨rfl, ⟨hv1, trivial⟩⟩ trivial ?_
  refine List.forall_mem_cons.mpr ⟨?_, fun _ h => absurd h List.not_mem_nil⟩
  · intro ρ τ Lc stc hx g1 g2 g3 g4 g5 g6 g7 g8
    have g7 := g7 (by decide)
    match Lc, stc, g7, g8 with
    | [v0, v1], [w0], ⟨hv0, hv1, _⟩, ⟨hw0, _⟩ =>
      cases hv0
      cases hw0
      exact l0 τ ρ v1 hv1 g1 g2 g3 g4 g5 g6
set_option maxRecDepth 100000 in
theorem mq_p2 {σ : pm_S} {Q : Option Value → pm_S → Prop} (x0 : Int) (v1 : Value) (hv1 : v1.category = 1) (hB : an_GB pm_B σ) (eF : ((-1) ≤ x0 ∧ x0 ≤ 0) ∧ True)
    (l0 : ∀ (τ : pm_S) (y : Nat → Int) (v1 : Value), v1.category = 1 → an_GB pm_B τ → FQ [] σ τ → ((0 ≤ x0 ∧ x0 ≤ 0) ∧ True) → (True) → (True) → (True) → Ok 188 19 6 [.ref 93, v1] [] τ Q)
    (l1 : ∀ (τ : pm_S) (y : Nat → Int), an_GB pm_B τ → FQ [] σ τ → (((-1) ≤ x0 ∧ x0 ≤ (-1)) ∧ True) → (True) → (True) → (True) → Q (some (.int (Int32.ofInt (-1)))) τ)
    : Ok 188 19 2 [.ref 93, v1] [.int (Int32.ofInt (x0))] σ Q := by
  refine an_seg (B := pm_B) (F := []) (T := []) (S := []) (fun _ h => absurd h List.not_mem_nil) (k := 188) (d := 18) (cs := [6]) 6 2 1 [(0, (-1), 0)] [] [(2, 93, 0), (5, 0, 0)] [(0, 0, 0)] [(6, [(2, 93, 0), (5, 0, 0)], [], [(0, 0, 0)], [], [], []),
    (9999, [], [(1, 0, (-1))], [(0, (-1), (-1))], [], [], [])] (by decide +kernel) (ρ0 := (fun s => [x0].getD s 0)) hB eF trivial ⟨rfl, ⟨hv1, trivial⟩⟩ ⟨rfl, trivial⟩ ?_
  refine List.forall_mem_cons.mpr ⟨?_, List.forall_mem_cons.mpr ⟨?_, fun _ h => absurd h List.not_mem_nil⟩⟩
  · intro ρ τ Lc stc hx g1 g2 g3 g4 g5 g6 g7 g8
    have e0 : ρ 0 = x0 := hx 0 (by decide)
    subst e0
    have g7 := g7 (by decide)
    match Lc, stc, g7, g8 with
    | [v0, v1], [], ⟨hv0, hv1, _⟩, _ =>
      cases hv0
      exact l0 τ ρ v1 hv1 g1 g2 g3 g4 g5 g6
  · intro ρ τ Lc stc hx g1 g2 g3 g4 g5 g6 g7 g8
    have e0 : ρ 0 = x0 := hx 0 (by decide)
    subst e0
    match stc, g8 with
    | [_], ⟨h, _⟩ => cases h; exact l1 τ ρ g1 g2 g3 g4 g5 g6
set_option maxRecDepth 100000 in
theorem mq_p6 {σ : pm_S} {Q : Option Value → pm_S → Prop} (x0 x1 x2 : Int) (v1 : Value) (hv1 : v1.category = 1) (hB : an_GB pm_B σ) (eF : (0 ≤ x0 ∧ x0 ≤ 4) ∧ ((-2147483648) ≤ x1 ∧ x1 ≤ 2147483647) ∧ (0 ≤ x2 ∧ x2 ≤ 400) ∧ True) (eC : (σ.1 93 33).toInt = x0 ∧ (σ.1 93 34).toInt = x1 ∧ (σ.1 93 32).toInt = x2 ∧ True)
    (l0 : ∀ (τ : pm_S) (y : Nat → Int), an_GB pm_B τ → FQ [] σ τ → ((0 ≤ x0 ∧ x0 ≤ 3) ∧ ((-2147483648) ≤ x1 ∧ x1 ≤ 2147483647) ∧ (0 ≤ x2 ∧ x2 ≤ 400) ∧ True) → (x0 ≠ 4 ∧ True) → (True) → ((τ.1 93 32).toInt = x2 ∧ (τ.1 93 33).toInt = x0 ∧ (τ.1 93 34).toInt = x1 ∧ True) → Q (some (.int (Int32.ofInt 0))) τ)
    (l1 : ∀ (τ : pm_S) (y : Nat → Int), an_GB pm_B τ → FQ [] σ τ → ((4 ≤ x0 ∧ x0 ≤ 4) ∧ ((-2147483648) ≤ x1 ∧ x1 ≤ 2147483647) ∧ (0 ≤ x2 ∧ x2 ≤ 400) ∧ True) → (x1 ≠ 47 ∧ x1 ≠ 42 ∧ True) → (True) → ((τ.1 93 32).toInt = x2 ∧ (τ.1 93 33).toInt = x0 ∧ (τ.1 93 34).toInt = x1 ∧ True) → Q (some (.int (Int32.ofInt 0))) τ)
    (l2 : ∀ (τ : pm_S) (y : Nat → Int), an_GB pm_B τ → FQ [] σ τ → ((4 ≤ x0 ∧ x0 ≤ 4) ∧ (47 ≤ x1 ∧ x1 ≤ 47) ∧ (0 ≤ x2 ∧ x2 ≤ 400) ∧ True) → (x1 ≠ 42 ∧ True) → (True) → ((τ.1 93 32).toInt = x2 ∧ (τ.1 93 33).toInt = x0 ∧ (τ.1 93 34).toInt = x1 ∧ True) → Ok 188 19 19 [.ref 93, .int (Int32.ofInt 0)] [.ref 93] τ Q)
    (l3 : ∀ (τ : pm_S) (y : Nat → Int), an_GB pm_B τ → FQ [] σ τ → ((4 ≤ x0 ∧ x0 ≤ 4) ∧ (42 ≤ x1 ∧ x1 ≤ 42) ∧ (0 ≤ x2 ∧ x2 ≤ 400) ∧ True) → (True) → (True) → ((τ.1 93 32).toInt = x2 ∧ (τ.1 93 33).toInt = x0 ∧ (τ.1 93 34).toInt = x1 ∧ True) → Ok 188 19 19 [.ref 93, .int (Int32.ofInt 1)] [.ref 93] τ Q)
    : Ok 188 19 6 [.ref 93, v1] [] σ Q := by
  refine an_seg (B := pm_B) (F := []) (T := []) (S := []) (fun _ h => absurd h List.not_mem_nil) (k := 188) (d := 18) (cs := [19]) 46 6 3 [(0, 0, 4), (1, (-2147483648), 2147483647), (2, 0, 400)] [(93, (1, 0, 33), (0, 0, 0)), (93, (1, 0, 34), (0, 1, 0)), (93, (1, 0, 32), (0, 2, 0))] [(2, 93, 0), (5, 0, 0)] [] [(9999, [], [(1, 0, 0)], [(0, 0, 3), (1, (-2147483648), 2147483647), (2, 0, 400)], [(3, 0, 0, 4)], [], [(93, (1, 0, 32), (0, 2, 0)), (93, (1, 0, 33), (0, 0, 0)), (93, (1, 0, 34), (0, 1, 0))]),
    (9999, [], [(1, 0, 0)], [(0, 4, 4), (1, (-2147483648), 2147483647), (2, 0, 400)], [(3, 1, 1, 47), (3, 1, 1, 42)], [], [(93, (1, 0, 32), (0, 2, 0)), (93, (1, 0, 33), (0, 0, 0)), (93, (1, 0, 34), (0, 1, 0))]),
    (19, [(2, 93, 0), (1, 0, 0)], [(2, 93, 0)], [(0, 4, 4), (1, 47, 47), (2, 0, 400)], [(3, 1, 1, 42)], [], [(93, (1, 0, 32), (0, 2, 0)), (93, (1, 0, 33), (0, 0, 0)), (93, (1, 0, 34), (0, 1, 0))]),
    (19, [(2, 93, 0), (1, 0, 1)], [(2, 93, 0)], [(0, 4, 4), (1, 42, 42), (2, 0, 400)], [], [], [(93, (1, 0, 32), (0, 2, 0)), (93, (1, 0, 33), (0, 0, 0)), (93, (1, 0, 34), (0, 1, 0))])] (by decide +kernel) (ρ0 := (fun s => [x0, x1, x2].getD s 0)) hB eF eC ⟨rfl, ⟨hv1, trivial⟩⟩ trivial ?_
  refine List.forall_mem_cons.mpr ⟨?_, List.forall_mem_cons.mpr ⟨?_, List.forall_mem_cons.mpr ⟨?_, List.forall_mem_cons.mpr ⟨?_, fun _ h => absurd h List.not_mem_nil⟩⟩⟩⟩
  · intro ρ τ Lc stc hx g1 g2 g3 g4 g5 g6 g7 g8
    have e0 : ρ 0 = x0 := hx 0 (by decide)
    have e1 : ρ 1 = x1 := hx 1 (by decide)
    have e2 : ρ 2 = x2 := hx 2 (by decide)
    subst e0
    subst e1
    subst e2
    match stc, g8 with
    | [_], ⟨h, _⟩ => cases h; exact l0 τ ρ g1 g2 g3 g4 g5 g6
  · intro ρ τ Lc stc hx g1 g2 g3 g4 g5 g6 g7 g8
    have e0 : ρ 0 = x0 := hx 0 (by decide)
    have e1 : ρ 1 = x1 := hx 1 (by decide)
    have e2 : ρ 2 = x2 := hx 2 (by decide)
    subst e0
    subst e1
    subst e2
    match stc, g8 with
    | [_], ⟨h, _⟩ => cases h; exact l1 τ ρ g1 g2 g3 g4 g5 g6
  · intro ρ τ Lc stc hx g1 g2 g3 g4 g5 g6 g7 g8
    have e0 : ρ 0 = x0 := hx 0 (by decide)
    have e1 : ρ 1 = x1 := hx 1 (by decide)
    have e2 : ρ 2 = x2 := hx 2 (by decide)
    subst e0
    subst e1
    subst e2
    have g7 := g7 (by decide)
    match Lc, stc, g7, g8 with
    | [v0, v1], [w0], ⟨hv0, hv1, _⟩, ⟨hw0, _⟩ =>
      cases hv0
      cases hv1
      cases hw0
      exact l2 τ ρ  g1 g2 g3 g4 g5 g6
  · intro ρ τ Lc stc hx g1 g2 g3 g4 g5 g6 g7 g8
    have e0 : ρ 0 = x0 := hx 0 (by decide)
    have e1 : ρ 1 = x1 := hx 1 (by decide)
    have e2 : ρ 2 = x2 := hx 2 (by decide)
    subst e0
    subst e1
    subst e2
    have g7 := g7 (by decide)
    match Lc, stc, g7, g8 with
    | [v0, v1], [w0], ⟨hv0, hv1, _⟩, ⟨hw0, _⟩ =>
      cases hv0
      cases hv1
      cases hw0
      exact l3 τ ρ  g1 g2 g3 g4 g5 g6
set_option maxRecDepth 100000 in
theorem mq_p20 {σ : pm_S} {Q : Option Value → pm_S → Prop} (x0 x1 x2 x3 : Int)  (hB : an_GB pm_B σ) (eF : (0 ≤ x0 ∧ x0 ≤ 4) ∧ ((-2147483648) ≤ x1 ∧ x1 ≤ 2147483647) ∧ (0 ≤ x2 ∧ x2 ≤ 400) ∧ (0 ≤ x3 ∧ x3 ≤ 1) ∧ True) (eC : (σ.1 93 33).toInt = x0 ∧ (σ.1 93 34).toInt = x1 ∧ (σ.1 93 32).toInt = x2 ∧ True)
    (l0 : ∀ (τ : pm_S) (y : Nat → Int), an_GB pm_B τ → FQ [(93, 46), (93, 47)] σ τ → ((0 ≤ x0 ∧ x0 ≤ 4) ∧ ((-2147483648) ≤ x1 ∧ x1 ≤ 2147483647) ∧ (0 ≤ x2 ∧ x2 ≤ 400) ∧ (1 ≤ x3 ∧ x3 ≤ 1) ∧ True) → (True) → (True) → ((τ.1 93 32).toInt = x2 ∧ (τ.1 93 33).toInt = x0 ∧ (τ.1 93 34).toInt = x1 ∧ True) → Ok 188 19 40 [.ref 93, .int (Int32.ofInt (x3))] [.ref 93] τ Q)
    (l1 : ∀ (τ : pm_S) (y : Nat → Int), an_GB pm_B τ → FQ [(93, 46), (93, 47)] σ τ → ((3 ≤ x0 ∧ x0 ≤ 3) ∧ ((-2147483648) ≤ x1 ∧ x1 ≤ 2147483647) ∧ (0 ≤ x2 ∧ x2 ≤ 400) ∧ (0 ≤ x3 ∧ x3 ≤ 0) ∧ True) → (x1 ≠ 0 ∧ True) → (True) → ((τ.1 93 32).toInt = x2 ∧ (τ.1 93 33).toInt = x0 ∧ (τ.1 93 34).toInt = x1 ∧ True) → Ok 188 19 40 [.ref 93, .int (Int32.ofInt (x3))] [.ref 93] τ Q)
    (l2 : ∀ (τ : pm_S) (y : Nat → Int), an_GB pm_B τ → FQ [(93, 46), (93, 47)] σ τ → ((3 ≤ x0 ∧ x0 ≤ 3) ∧ (0 ≤ x1 ∧ x1 ≤ 0) ∧ (0 ≤ x2 ∧ x2 ≤ 400) ∧ (0 ≤ x3 ∧ x3 ≤ 0) ∧ True) → (True) → (True) → ((τ.1 93 32).toInt = x2 ∧ (τ.1 93 33).toInt = x0 ∧ (τ.1 93 34).toInt = x1 ∧ (τ.1 93 46).toInt = 2 ∧ (τ.1 93 47).toInt = x2 ∧ True) → Q (some (.int (Int32.ofInt (-1)))) τ)
    (l3 : ∀ (τ : pm_S) (y : Nat → Int), an_GB pm_B τ → FQ [(93, 46), (93, 47)] σ τ → ((0 ≤ x0 ∧ x0 ≤ 4) ∧ ((-2147483648) ≤ x1 ∧ x1 ≤ 2147483647) ∧ (0 ≤ x2 ∧ x2 ≤ 400) ∧ (0 ≤ x3 ∧ x3 ≤ 0) ∧ True) → (x0 ≠ 3 ∧ True) → (True) → ((τ.1 93 32).toInt = x2 ∧ (τ.1 93 33).toInt = x0 ∧ (τ.1 93 34).toInt = x1 ∧ (τ.1 93 46).toInt = 1 ∧ (τ.1 93 47).toInt = x2 ∧ True) → Q (some (.int (Int32.ofInt (-1)))) τ)
    : Ok 188 19 20 [.ref 93, .int (Int32.ofInt (x3))] [] σ Q := by
  refine an_seg (B := pm_B) (F := [(93, 46), (93, 47)]) (T := []) (S := []) (fun _ h => absurd h List.not_mem_nil) (k := 188) (d := 18) (cs := [40]) 26 20 4 [(0, 0, 4), (1, (-2147483648), 2147483647), (2, 0, 400), (3, 0, 1)] [(93, (1, 0, 33), (0, 0, 0)), (93, (1, 0, 34), (0, 1, 0)), (93, (1, 0, 32), (0, 2, 0))] [(2, 93, 0), (0, 3, 0)] [] [(40, [(2, 93, 0), (0, 3, 0)], [(2, 93, 0)], [(0, 0, 4), (1, (-2147483648), 2147483647), (2, 0, 400), (3, 1, 1)], [], [], [(93, (1, 0, 32), (0, 2, 0)), (93, (1, 0, 33), (0, 0, 0)), (93, (1, 0, 34), (0, 1, 0))]),
    (40, [(2, 93, 0), (0, 3, 0)], [(2, 93, 0)], [(0, 3, 3), (1, (-2147483648), 2147483647), (2, 0, 400), (3, 0, 0)], [(3, 1, 1, 0)], [], [(93, (1, 0, 32), (0, 2, 0)), (93, (1, 0, 33), (0, 0, 0)), (93, (1, 0, 34), (0, 1, 0))]),
    (9999, [], [(1, 0, (-1))], [(0, 3, 3), (1, 0, 0), (2, 0, 400), (3, 0, 0)], [], [], [(93, (1, 0, 32), (0, 2, 0)), (93, (1, 0, 33), (0, 0, 0)), (93, (1, 0, 34), (0, 1, 0)), (93, (1, 0, 46), (1, 0, 2)), (93, (1, 0, 47), (0, 2, 0))]),
    (9999, [], [(1, 0, (-1))], [(0, 0, 4), (1, (-2147483648), 2147483647), (2, 0, 400), (3, 0, 0)], [(3, 0, 0, 3)], [], [(93, (1, 0, 32), (0, 2, 0)), (93, (1, 0, 33), (0, 0, 0)), (93, (1, 0, 34), (0, 1, 0)), (93, (1, 0, 46), (1, 0, 1)), (93, (1, 0, 47), (0, 2, 0))])] (by decide +kernel) (ρ0 := (fun s => [x0, x1, x2, x3].getD s 0)) hB eF eC ⟨rfl, ⟨rfl, trivial⟩⟩ trivial ?_
  refine List.forall_mem_cons.mpr ⟨?_, List.forall_mem_cons.mpr ⟨?_, List.forall_mem_cons.mpr ⟨?_, List.forall_mem_cons.mpr ⟨?_, fun _ h => absurd h List.not_mem_nil⟩⟩⟩⟩
  · intro ρ τ Lc stc hx g1 g2 g3 g4 g5 g6 g7 g8
    have e0 : ρ 0 = x0 := hx 0 (by decide)
    have e1 : ρ 1 = x1 := hx 1 (by decide)
    have e2 : ρ 2 = x2 := hx 2 (by decide)
    have e3 : ρ 3 = x3 := hx 3 (by decide)
    subst e0
    subst e1
    subst e2
    subst e3
    have g7 := g7 (by decide)
    match Lc, stc, g7, g8 with
    | [v0, v1], [w0], ⟨hv0, hv1, _⟩, ⟨hw0, _⟩ =>
      cases hv0
      cases hv1
      cases hw0
      exact l0 τ ρ  g1 g2 g3 g4 g5 g6
  · intro ρ τ Lc stc hx g1 g2 g3 g4 g5 g6 g7 g8
    have e0 : ρ 0 = x0 := hx 0 (by decide)
    have e1 : ρ 1 = x1 := hx 1 (by decide)
    have e2 : ρ 2 = x2 := hx 2 (by decide)
    have e3 : ρ 3 = x3 := hx 3 (by decide)
    subst e0
    subst e1
    subst e2
    subst e3
    have g7 := g7 (by decide)
    match Lc, stc, g7, g8 with
    | [v0, v1], [w0], ⟨hv0, hv1, _⟩, ⟨hw0, _⟩ =>
      cases hv0
      cases hv1
      cases hw0
      exact l1 τ ρ  g1 g2 g3 g4 g5 g6
  · intro ρ τ Lc stc hx g1 g2 g3 g4 g5 g6 g7 g8
    have e0 : ρ 0 = x0 := hx 0 (by decide)
    have e1 : ρ 1 = x1 := hx 1 (by decide)
    have e2 : ρ 2 = x2 := hx 2 (by decide)
    have e3 : ρ 3 = x3 := hx 3 (by decide)
    subst e0
    subst e1
    subst e2
    subst e3
    match stc, g8 with
    | [_], ⟨h, _⟩ => cases h; exact l2 τ ρ g1 g2 g3 g4 g5 g6
  · intro ρ τ Lc stc hx g1 g2 g3 g4 g5 g6 g7 g8
    have e0 : ρ 0 = x0 := hx 0 (by decide)
    have e1 : ρ 1 = x1 := hx 1 (by decide)
    have e2 : ρ 2 = x2 := hx 2 (by decide)
    have e3 : ρ 3 = x3 := hx 3 (by decide)
    subst e0
    subst e1
    subst e2
    subst e3
    match stc, g8 with
    | [_], ⟨h, _⟩ => cases h; exact l3 τ ρ g1 g2 g3 g4 g5 g6
set_option maxRecDepth 100000 in
theorem mq_p41 {σ : pm_S} {Q : Option Value → pm_S → Prop} (x0 x1 : Int)  (hB : an_GB pm_B σ) (eF : ((-1) ≤ x0 ∧ x0 ≤ 0) ∧ (0 ≤ x1 ∧ x1 ≤ 1) ∧ True)
    (l0 : ∀ (τ : pm_S) (y : Nat → Int), an_GB pm_B τ → FQ [] σ τ → ((0 ≤ x0 ∧ x0 ≤ 0) ∧ (0 ≤ x1 ∧ x1 ≤ 0) ∧ True) → (True) → (True) → (True) → Ok 188 19 52 [.ref 93, .int (Int32.ofInt (x1))] [.int (Int32.ofInt 0), .int (Int32.ofInt 5), .ref 93] τ Q)
    (l1 : ∀ (τ : pm_S) (y : Nat → Int), an_GB pm_B τ → FQ [] σ τ → ((0 ≤ x0 ∧ x0 ≤ 0) ∧ (1 ≤ x1 ∧ x1 ≤ 1) ∧ True) → (True) → (True) → (True) → Ok 188 19 52 [.ref 93, .int (Int32.ofInt (x1))] [.int (Int32.ofInt 0), .int (Int32.ofInt 4), .ref 93] τ Q)
    (l2 : ∀ (τ : pm_S) (y : Nat → Int), an_GB pm_B τ → FQ [] σ τ → (((-1) ≤ x0 ∧ x0 ≤ (-1)) ∧ (0 ≤ x1 ∧ x1 ≤ 1) ∧ True) → (True) → (True) → (True) → Q (some (.int (Int32.ofInt (-1)))) τ)
    : Ok 188 19 41 [.ref 93, .int (Int32.ofInt (x1))] [.int (Int32.ofInt (x0))] σ Q := by
  refine an_seg (B := pm_B) (F := []) (T := []) (S := []) (fun _ h => absurd h List.not_mem_nil) (k := 188) (d := 18) (cs := [52]) 10 41 2 [(0, (-1), 0), (1, 0, 1)] [] [(2, 93, 0), (0, 1, 0)] [(0, 0, 0)] [(52, [(2, 93, 0), (0, 1, 0)], [(1, 0, 0), (1, 0, 5), (2, 93, 0)], [(0, 0, 0), (1, 0, 0)], [], [], []),
    (52, [(2, 93, 0), (0, 1, 0)], [(1, 0, 0), (1, 0, 4), (2, 93, 0)], [(0, 0, 0), (1, 1, 1)], [], [], []),
    (9999, [], [(1, 0, (-1))], [(0, (-1), (-1)), (1, 0, 1)], [], [], [])] (by decide +kernel) (ρ0 := (fun s => [x0, x1].getD s 0)) hB eF trivial ⟨rfl, ⟨rfl, trivial⟩⟩ ⟨rfl, trivial⟩ ?_
  refine List.forall_mem_cons.mpr ⟨?_, List.forall_mem_cons.mpr ⟨?_, List.forall_mem_cons.mpr ⟨?_, fun _ h => absurd h List.not_mem_nil⟩⟩⟩
  · intro ρ τ Lc stc hx g1 g2 g3 g4 g5 g6 g7 g8
    have e0 : ρ 0 = x0 := hx 0 (by decide)
    have e1 : ρ 1 = x1 := hx 1 (by decide)
    subst e0
    subst e1
    have g7 := g7 (by decide)
    match Lc, stc, g7, g8 with
    | [v0, v1], [w0, w1, w2], ⟨hv0, hv1, _⟩, ⟨hw0, hw1, hw2, _⟩ =>
      cases hv0
      cases hv1
      cases hw0
      cases hw1
      cases hw2
      exact l0 τ ρ  g1 g2 g3 g4 g5 g6
  · intro ρ τ Lc stc hx g1 g2 g3 g4 g5 g6 g7 g8
    have e0 : ρ 0 = x0 := hx 0 (by decide)
    have e1 : ρ 1 = x1 := hx 1 (by decide)
    subst e0
    subst e1
    have g7 := g7 (by decide)
    match Lc, stc, g7, g8 with
    | [v0, v1], [w0, w1, w2], ⟨hv0, hv1, _⟩, ⟨hw0, hw1, hw2, _⟩ =>
      cases hv0
      cases hv1
      cases hw0
      cases hw1
      cases hw2
      exact l1 τ ρ  g1 g2 g3 g4 g5 g6
  · intro ρ τ Lc stc hx g1 g2 g3 g4 g5 g6 g7 g8
    have e0 : ρ 0 = x0 := hx 0 (by decide)
    have e1 : ρ 1 = x1 := hx 1 (by decide)
    subst e0
    subst e1
    match stc, g8 with
    | [_], ⟨h, _⟩ => cases h; exact l2 τ ρ g1 g2 g3 g4 g5 g6
set_option maxRecDepth 100000 in
theorem mq_p53 {σ : pm_S} {Q : Option Value → pm_S → Prop} (v1 : Value) (hv1 : v1.category = 1) (hB : an_GB pm_B σ)
    (l0 : ∀ (τ : pm_S) (y : Nat → Int) (v1 : Value), v1.category = 1 → an_GB pm_B τ → FQ [] σ τ → (True) → (True) → (True) → (True) → Ok 188 19 6 [.ref 93, v1] [] τ Q)
    : Ok 188 19 53 [.ref 93, v1] [] σ Q := by
  refine an_seg (B := pm_B) (F := []) (T := []) (S := []) (fun _ h => absurd h List.not_mem_nil) (k := 188) (d := 18) (cs := [6]) 3 53 0 [] [] [(2, 93, 0), (5, 0, 0)] [] [(6, [(2, 93, 0), (5, 0, 0)], [], [], [], [], [])] (by decide +kernel) (ρ0 := (fun s => [].getD s 0)) hB trivial trivial ⟨rfl, ⟨hv1, trivial⟩⟩ trivial ?_
  refine List.forall_mem_cons.mpr ⟨?_, fun _ h => absurd h List.not_mem_nil⟩
  · intro ρ τ Lc stc hx g1 g2 g3 g4 g5 g6 g7 g8
    have g7 := g7 (by decide)
    match Lc, stc, g7, g8 with
    | [v0, v1], [], ⟨hv0, hv1, _⟩, _ =>
      cases hv0
      exact l0 τ ρ v1 hv1 g1 g2 g3 g4 g5 g6
set_option maxRecDepth 100000 in
theorem mq_a0 {σ : pm_S} {Q : Option Value → pm_S → Prop} (v1 : Value) (hv1 : v1.category = 1) (hB : an_GB pm_B σ)
    (l0 : ∀ (τ : pm_S) (y : Nat → Int) (v1 : Value), v1.category = 1 → an_GB pm_B τ → FQ [] σ τ → (True) → (True) → (True) → (True) → Ok 189 21 1 [.ref 93, v1] [.ref 93] τ Q)
    : Ok 189 21 0 [.ref 93, v1] [] σ Q := by
  refine an_seg (B := pm_B) (F := []) (T := []) (S := []) (fun _ h => absurd h List.not_mem_nil) (k := 189) (d := 20) (cs := [1]) 3 0 0 [] [] [(2, 93, 0), (5, 0, 0)] [] [(1, [(2, 93, 0), (5, 0, 0)], [(2, 93, 0)], [], [], [], [])] (by decide +kernel) (ρ0 := (fun s => [].getD s 0)) hB trivial trivial ⟨rfl, ⟨hv1, trivial⟩⟩ trivial ?_
  refine List.forall_mem_cons.mpr ⟨?_, fun _ h => absurd h List.not_mem_nil⟩
  · intro ρ τ Lc stc hx g1 g2 g3 g4 g5 g6 g7 g8
    have g7 := g7 (by decide)
    match Lc, stc, g7, g8 with
    | [v0, v1], [w0], ⟨hv0, hv1, _⟩, ⟨hw0, _⟩ =>
      cases hv0
      cases hw0
      exact l0 τ ρ v1 hv1 g1 g2 g3 g4 g5 g6
set_option maxRecDepth 100000 in
theorem mq_a2 {σ : pm_S} {Q : Option Value → pm_S → Prop} (x0 : Int) (v1 : Value) (hv1 : v1.category = 1) (hB : an_GB pm_B σ) (eF : ((-1) ≤ x0 ∧ x0 ≤ 0) ∧ True)
    (l0 : ∀ (τ : pm_S) (y : Nat → Int) (v1 : Value), v1.category = 1 → an_GB pm_B τ → FQ [] σ τ → ((0 ≤ x0 ∧ x0 ≤ 0) ∧ True) → (True) → (True) → (True) → Ok 189 21 6 [.ref 93, v1] [] τ Q)
    (l1 : ∀ (τ : pm_S) (y : Nat → Int), an_GB pm_B τ → FQ [] σ τ → (((-1) ≤ x0 ∧ x0 ≤ (-1)) ∧ True) → (True) → (True) → (True) → Q (some (.int (Int32.ofInt (-1)))) τ)
    : Ok 189 21 2 [.ref 93, v1] [.int (Int32.ofInt (x0))] σ Q := by
  refine an_seg (B := pm_B) (F := []) (T := []) (S := []) (fun _ h => absurd h List.not_mem_nil) (k := 189) (d := 20) (cs := [6]) 6 2 1 [(0, (-1), 0)] [] [(2, 93, 0), (5, 0, 0)] [(0, 0, 0)] [(6, [(2, 93, 0), (5, 0, 0)], [], [(0, 0, 0)], [], [], []),
    (9999, [], [(1, 0, (-1))], [(0, (-1), (-1))], [], [], [])] (by decide +kernel) (ρ0 := (fun s => [x0].getD s 0)) hB eF trivial ⟨rfl, ⟨hv1, trivial⟩⟩ ⟨rfl, trivial⟩ ?_
  refine List.forall_mem_cons.mpr ⟨?_, List.forall_mem_cons.mpr ⟨?_, fun _ h => absurd h List.not_mem_nil⟩⟩
  · intro ρ τ Lc stc hx g1 g2 g3 g4 g5 g6 g7 g8
    have e0 : ρ 0 = x0 := hx 0 (by decide)
    subst e0
    have g7 := g7 (by decide)
    match Lc, stc, g7, g8 with
    | [v0, v1], [], ⟨hv0, hv1, _⟩, _ =>
      cases hv0
      exact l0 τ ρ v1 hv1 g1 g2 g3 g4 g5 g6
  · intro ρ τ Lc stc hx g1 g2 g3 g4 g5 g6 g7 g8
    have e0 : ρ 0 = x0 := hx 0 (by decide)
    subst e0
    match stc, g8 with
    | [_], ⟨h, _⟩ => cases h; exact l1 τ ρ g1 g2 g3 g4 g5 g6
set_option maxRecDepth 100000 in
theorem mq_a6 {σ : pm_S} {Q : Option Value → pm_S → Prop} (x0 x1 x2 : Int) (v1 : Value) (hv1 : v1.category = 1) (hB : an_GB pm_B σ) (eF : (0 ≤ x0 ∧ x0 ≤ 4) ∧ ((-2147483648) ≤ x1 ∧ x1 ≤ 2147483647) ∧ (0 ≤ x2 ∧ x2 ≤ 400) ∧ True) (eC : (σ.1 93 33).toInt = x0 ∧ (σ.1 93 34).toInt = x1 ∧ (σ.1 93 32).toInt = x2 ∧ True)
    (l0 : ∀ (τ : pm_S) (y : Nat → Int), an_GB pm_B τ → FQ [] σ τ → ((0 ≤ x0 ∧ x0 ≤ 3) ∧ ((-2147483648) ≤ x1 ∧ x1 ≤ 2147483647) ∧ (0 ≤ x2 ∧ x2 ≤ 400) ∧ True) → (x0 ≠ 4 ∧ True) → (True) → ((τ.1 93 32).toInt = x2 ∧ (τ.1 93 33).toInt = x0 ∧ (τ.1 93 34).toInt = x1 ∧ True) → Q (some (.int (Int32.ofInt 0))) τ)
    (l1 : ∀ (τ : pm_S) (y : Nat → Int), an_GB pm_B τ → FQ [] σ τ → ((4 ≤ x0 ∧ x0 ≤ 4) ∧ ((-2147483648) ≤ x1 ∧ x1 ≤ 2147483647) ∧ (0 ≤ x2 ∧ x2 ≤ 400) ∧ True) → (x1 ≠ 45 ∧ x1 ≠ 43 ∧ True) → (True) → ((τ.1 93 32).toInt = x2 ∧ (τ.1 93 33).toInt = x0 ∧ (τ.1 93 34).toInt = x1 ∧ True) → Q (some (.int (Int32.ofInt 0))) τ)
    (l2 : ∀ (τ : pm_S) (y : Nat → Int), an_GB pm_B τ → FQ [] σ τ → ((4 ≤ x0 ∧ x0 ≤ 4) ∧ (45 ≤ x1 ∧ x1 ≤ 45) ∧ (0 ≤ x2 ∧ x2 ≤ 400) ∧ True) → (x1 ≠ 43 ∧ True) → (True) → ((τ.1 93 32).toInt = x2 ∧ (τ.1 93 33).toInt = x0 ∧ (τ.1 93 34).toInt = x1 ∧ True) → Ok 189 21 23 [.ref 93, .int (Int32.ofInt 3)] [.ref 93] τ Q)
    (l3 : ∀ (τ : pm_S) (y : Nat → Int), an_GB pm_B τ → FQ [] σ τ → ((4 ≤ x0 ∧ x0 ≤ 4) ∧ (43 ≤ x1 ∧ x1 ≤ 43) ∧ (0 ≤ x2 ∧ x2 ≤ 400) ∧ True) → (True) → (True) → ((τ.1 93 32).toInt = x2 ∧ (τ.1 93 33).toInt = x0 ∧ (τ.1 93 34).toInt = x1 ∧ True) → Ok 189 21 23 [.ref 93, .int (Int32.ofInt 2)] [.ref 93] τ Q)
    : Ok 189 21 6 [.ref 93, v1] [] σ Q := by
  refine an_seg (B := pm_B) (F := []) (T := []) (S := []) (fun _ h => absurd h List.not_mem_nil) (k := 189) (d := 20) (cs := [23]) 38 6 3 [(0, 0, 4), (1, (-2147483648), 2147483647), (2, 0, 400)] [(93, (1, 0, 33), (0, 0, 0)), (93, (1, 0, 34), (0, 1, 0)), (93, (1, 0, 32), (0, 2, 0))] [(2, 93, 0), (5, 0, 0)] [] [(9999, [], [(1, 0, 0)], [(0, 0, 3), (1, (-2147483648), 2147483647), (2, 0, 400)], [(3, 0, 0, 4)], [], [(93, (1, 0, 32), (0, 2, 0)), (93, (1, 0, 33), (0, 0, 0)), (93, (1, 0, 34), (0, 1, 0))]),
    (9999, [], [(1, 0, 0)], [(0, 4, 4), (1, (-2147483648), 2147483647), (2, 0, 400)], [(3, 1, 1, 45), (3, 1, 1, 43)], [], [(93, (1, 0, 32), (0, 2, 0)), (93, (1, 0, 33), (0, 0, 0)), (93, (1, 0, 34), (0, 1, 0))]),
    (23, [(2, 93, 0), (1, 0, 3)], [(2, 93, 0)], [(0, 4, 4), (1, 45, 45), (2, 0, 400)], [(3, 1, 1, 43)], [], [(93, (1, 0, 32), (0, 2, 0)), (93, (1, 0, 33), (0, 0, 0)), (93, (1, 0, 34), (0, 1, 0))]),
    (23, [(2, 93, 0), (1, 0, 2)], [(2, 93, 0)], [(0, 4, 4), (1, 43, 43), (2, 0, 400)], [], [], [(93, (1, 0, 32), (0, 2, 0)), (93, (1, 0, 33), (0, 0, 0)), (93, (1, 0, 34), (0, 1, 0))])] (by decide +kernel) (ρ0 := (fun s => [x0, x1, x2].getD s 0)) hB eF eC ⟨rfl, ⟨hv1, trivial⟩⟩ trivial ?_
  refine List.forall_mem_cons.mpr ⟨?_, List.forall_mem_cons.mpr ⟨?_, List.forall_mem_cons.mpr ⟨?_, List.forall_mem_cons.mpr ⟨?_, fun _ h => absurd h List.not_mem_nil⟩⟩⟩⟩
  · intro ρ τ Lc stc hx g1 g2 g3 g4 g5 g6 g7 g8
    have e0 : ρ 0 = x0 := hx 0 (by decide)
    have e1 : ρ 1 = x1 := hx 1 (by decide)
    have e2 : ρ 2 = x2 := hx 2 (by decide)
    subst e0
    subst e1
    subst e2
    match stc, g8 with
    | [_], ⟨h, _⟩ => cases h; exact l0 τ ρ g1 g2 g3 g4 g5 g6
  · intro ρ τ Lc stc hx g1 g2 g3 g4 g5 g6 g7 g8
    have e0 : ρ 0 = x0 := hx 0 (by decide)
    have e1 : ρ 1 = x1 := hx 1 (by decide)
    have e2 : ρ 2 = x2 := hx 2 (by decide)
    subst e0
    subst e1
    subst e2
    match stc, g8 with
    | [_], ⟨h, _⟩ => cases h; exact l1 τ ρ g1 g2 g3 g4 g5 g6
  · intro ρ τ Lc stc hx g1 g2 g3 g4 g5 g6 g7 g8
    have e0 : ρ 0 = x0 := hx 0 (by decide)
    have e1 : ρ 1 = x1 := hx 1 (by decide)
    have e2 : ρ 2 = x2 := hx 2 (by decide)
    subst e0
    subst e1
    subst e2
    have g7 := g7 (by decide)
    match Lc, stc, g7, g8 with
    | [v0, v1], [w0], ⟨hv0, hv1, _⟩, ⟨hw0, _⟩ =>
      cases hv0
      cases hv1
      cases hw0
      exact l2 τ ρ  g1 g2 g3 g4 g5 g6
  · intro ρ τ Lc stc hx g1 g2 g3 g4 g5 g6 g7 g8
    have e0 : ρ 0 = x0 := hx 0 (by decide)
    have e1 : ρ 1 = x1 := hx 1 (by decide)
    have e2 : ρ 2 = x2 := hx 2 (by decide)
    subst e0
    subst e1
    subst e2
    have g7 := g7 (by decide)
    match Lc, stc, g7, g8 with
    | [v0, v1], [w0], ⟨hv0, hv1, _⟩, ⟨hw0, _⟩ =>
      cases hv0
      cases hv1
      cases hw0
      exact l3 τ ρ  g1 g2 g3 g4 g5 g6
set_option maxRecDepth 100000 in
theorem mq_a24 {σ : pm_S} {Q : Option Value → pm_S → Prop} (x0 : Int)  (hB : an_GB pm_B σ) (eF : (2 ≤ x0 ∧ x0 ≤ 3) ∧ True)
    (l0 : ∀ (τ : pm_S) (y : Nat → Int), an_GB pm_B τ → FQ [] σ τ → ((2 ≤ x0 ∧ x0 ≤ 3) ∧ True) → (True) → (True) → (True) → Ok 189 21 25 [.ref 93, .int (Int32.ofInt (x0))] [.ref 93] τ Q)
    : Ok 189 21 24 [.ref 93, .int (Int32.ofInt (x0))] [] σ Q := by
  refine an_seg (B := pm_B) (F := []) (T := []) (S := []) (fun _ h => absurd h List.not_mem_nil) (k := 189) (d := 20) (cs := [25]) 3 24 1 [(0, 2, 3)] [] [(2, 93, 0), (0, 0, 0)] [] [(25, [(2, 93, 0), (0, 0, 0)], [(2, 93, 0)], [(0, 2, 3)], [], [], [])] (by decide +kernel) (ρ0 := (fun s => [x0].getD s 0)) hB eF trivial ⟨rfl, ⟨rfl, trivial⟩⟩ trivial ?_
  refine List.forall_mem_cons.mpr ⟨?_, fun _ h => absurd h List.not_mem_nil⟩
  · intro ρ τ Lc stc hx g1 g2 g3 g4 g5 g6 g7 g8
    have e0 : ρ 0 = x0 := hx 0 (by decide)
    subst e0
    have g7 := g7 (by decide)
    match Lc, stc, g7, g8 with
    | [v0, v1], [w0], ⟨hv0, hv1, _⟩, ⟨hw0, _⟩ =>
      cases hv0
      cases hv1
      cases hw0
      exact l0 τ ρ  g1 g2 g3 g4 g5 g6
set_option maxRecDepth 100000 in
theorem mq_a26 {σ : pm_S} {Q : Option Value → pm_S → Prop} (x0 x1 : Int)  (hB : an_GB pm_B σ) (eF : ((-1) ≤ x0 ∧ x0 ≤ 0) ∧ (2 ≤ x1 ∧ x1 ≤ 3) ∧ True)
    (l0 : ∀ (τ : pm_S) (y : Nat → Int), an_GB pm_B τ → FQ [] σ τ → ((0 ≤ x0 ∧ x0 ≤ 0) ∧ (2 ≤ x1 ∧ x1 ≤ 3) ∧ True) → (True) → (True) → (True) → Ok 189 21 33 [.ref 93, .int (Int32.ofInt (x1))] [.int (Int32.ofInt 0), .int (Int32.ofInt (x1)), .ref 93] τ Q)
    (l1 : ∀ (τ : pm_S) (y : Nat → Int), an_GB pm_B τ → FQ [] σ τ → (((-1) ≤ x0 ∧ x0 ≤ (-1)) ∧ (2 ≤ x1 ∧ x1 ≤ 3) ∧ True) → (True) → (True) → (True) → Q (some (.int (Int32.ofInt (-1)))) τ)
    : Ok 189 21 26 [.ref 93, .int (Int32.ofInt (x1))] [.int (Int32.ofInt (x0))] σ Q := by
  refine an_seg (B := pm_B) (F := []) (T := []) (S := []) (fun _ h => absurd h List.not_mem_nil) (k := 189) (d := 20) (cs := [33]) 7 26 2 [(0, (-1), 0), (1, 2, 3)] [] [(2, 93, 0), (0, 1, 0)] [(0, 0, 0)] [(33, [(2, 93, 0), (0, 1, 0)], [(1, 0, 0), (0, 1, 0), (2, 93, 0)], [(0, 0, 0), (1, 2, 3)], [], [], []),
    (9999, [], [(1, 0, (-1))], [(0, (-1), (-1)), (1, 2, 3)], [], [], [])] (by decide +kernel) (ρ0 := (fun s => [x0, x1].getD s 0)) hB eF trivial ⟨rfl, ⟨rfl, trivial⟩⟩ ⟨rfl, trivial⟩ ?_
  refine List.forall_mem_cons.mpr ⟨?_, List.forall_mem_cons.mpr ⟨?_, fun _ h => absurd h List.not_mem_nil⟩⟩
  · intro ρ τ Lc stc hx g1 g2 g3 g4 g5 g6 g7 g8
    have e0 : ρ 0 = x0 := hx 0 (by decide)
    have e1 : ρ 1 = x1 := hx 1 (by decide)
    subst e0
    subst e1
    have g7 := g7 (by decide)
    match Lc, stc, g7, g8 with
    | [v0, v1], [w0, w1, w2], ⟨hv0, hv1, _⟩, ⟨hw0, hw1, hw2, _⟩ =>
      cases hv0
      cases hv1
      cases hw0
      cases hw1
      cases hw2
      exact l0 τ ρ  g1 g2 g3 g4 g5 g6
  · intro ρ τ Lc stc hx g1 g2 g3 g4 g5 g6 g7 g8
    have e0 : ρ 0 = x0 := hx 0 (by decide)
    have e1 : ρ 1 = x1 := hx 1 (by decide)
    subst e0
    subst e1
    match stc, g8 with
    | [_], ⟨h, _⟩ => cases h; exact l1 τ ρ g1 g2 g3 g4 g5 g6
set_option maxRecDepth 100000 in
theorem mq_a34 {σ : pm_S} {Q : Option Value → pm_S → Prop} (v1 : Value) (hv1 : v1.category = 1) (hB : an_GB pm_B σ)
    (l0 : ∀ (τ : pm_S) (y : Nat → Int) (v1 : Value), v1.category = 1 → an_GB pm_B τ → FQ [] σ τ → (True) → (True) → (True) → (True) → Ok 189 21 6 [.ref 93, v1] [] τ Q)
    : Ok 189 21 34 [.ref 93, v1] [] σ Q := by
  refine an_seg (B := pm_B) (F := []) (T := []) (S := []) (fun _ h => absurd h List.not_mem_nil) (k := 189) (d := 20) (cs := [6]) 3 34 0 [] [] [(2, 93, 0), (5, 0, 0)] [] [(6, [(2, 93, 0), (5, 0, 0)], [], [], [], [], [])] (by decide +kernel) (ρ0 := (fun s => [].getD s 0)) hB trivial trivial ⟨rfl, ⟨hv1, trivial⟩⟩ trivial ?_
  refine List.forall_mem_cons.mpr ⟨?_, fun _ h => absurd h List.not_mem_nil⟩
  · intro ρ τ Lc stc hx g1 g2 g3 g4 g5 g6 g7 g8
    have g7 := g7 (by decide)
    match Lc, stc, g7, g8 with
    | [v0, v1], [], ⟨hv0, hv1, _⟩, _ =>
      cases hv0
      exact l0 τ ρ v1 hv1 g1 g2 g3 g4 g5 g6
set_option maxRecDepth 100000 in
theorem mq_c0 {σ : pm_S} {Q : Option Value → pm_S → Prop} (v1 : Value) (hv1 : v1.category = 1) (hB : an_GB pm_B σ)
    (l0 : ∀ (τ : pm_S) (y : Nat → Int) (v1 : Value), v1.category = 1 → an_GB pm_B τ → FQ [] σ τ → (True) → (True) → (True) → (True) → Ok 190 23 1 [.ref 93, v1] [.ref 93] τ Q)
    : Ok 190 23 0 [.ref 93, v1] [] σ Q := by
  refine an_seg (B := pm_B) (F := []) (T := []) (S := []) (fun _ h => absurd h List.not_mem_nil) (k := 190) (d := 22) (cs := [1]) 3 0 0 [] [] [(2, 93, 0), (5, 0, 0)] [] [(1, [(2, 93, 0), (5, 0, 0)], [(2, 93, 0)], [], [], [], [])] (by decide +kernel) (ρ0 := (fun s => [].getD s 0)) hB trivial trivial ⟨rfl, ⟨hv1, trivial⟩⟩ trivial ?_
  refine List.forall_mem_cons.mpr ⟨?_, fun _ h => absurd h List.not_mem_nil⟩
  · intro ρ τ Lc stc hx g1 g2 g3 g4 g5 g6 g7 g8
    have g7 := g7 (by decide)
    match Lc, stc, g7, g8 with
    | [v0, v1], [w0], ⟨hv0, hv1, _⟩, ⟨hw0, _⟩ =>
      cases hv0
      cases hw0
      exact l0 τ ρ v1 hv1 g1 g2 g3 g4 g5 g6
set_option maxRecDepth 100000 in
theorem mq_c2 {σ : pm_S} {Q : Option Value → pm_S → Prop} (x0 : Int) (v1 : Value) (hv1 : v1.category = 1) (hB : an_GB pm_B σ) (eF : ((-1) ≤ x0 ∧ x0 ≤ 0) ∧ True)
    (l0 : ∀ (τ : pm_S) (y : Nat → Int) (v1 : Value), v1.category = 1 → an_GB pm_B τ → FQ [] σ τ → ((0 ≤ x0 ∧ x0 ≤ 0) ∧ True) → (True) → (True) → (True) → Ok 190 23 6 [.ref 93, v1] [] τ Q)
    (l1 : ∀ (τ : pm_S) (y : Nat → Int), an_GB pm_B τ → FQ [] σ τ → (((-1) ≤ x0 ∧ x0 ≤ (-1)) ∧ True) → (True) → (True) → (True) → Q (some (.int (Int32.ofInt (-1)))) τ)
    : Ok 190 23 2 [.ref 93, v1] [.int (Int32.ofInt (x0))] σ Q := by
  refine an_seg (B := pm_B) (F := []) (T := []) (S := []) (fun _ h => absurd h List.not_mem_nil) (k := 190) (d := 22) (cs := [6]) 6 2 1 [(0, (-1), 0)] [] [(2, 93, 0), (5, 0, 0)] [(0, 0, 0)] [(6, [(2, 93, 0), (5, 0, 0)], [], [(0, 0, 0)], [], [], []),
    (9999, [], [(1, 0, (-1))], [(0, (-1), (-1))], [], [], [])] (by decide +kernel) (ρ0 := (fun s => [x0].getD s 0)) hB eF trivial ⟨rfl, ⟨hv1, trivial⟩⟩ ⟨rfl, trivial⟩ ?_
  refine List.forall_mem_cons.mpr ⟨?_, List.forall_mem_cons.mpr ⟨?_, fun _ h => absurd h List.not_mem_nil⟩⟩
  · intro ρ τ Lc stc hx g1 g2 g3 g4 g5 g6 g7 g8
    have e0 : ρ 0 = x0 := hx 0 (by decide)
    subst e0
    have g7 := g7 (by decide)
    match Lc, stc, g7, g8 with
    | [v0, v1], [], ⟨hv0, hv1, _⟩, _ =>
      cases hv0
      exact l0 τ ρ v1 hv1 g1 g2 g3 g4 g5 g6
  · intro ρ τ Lc stc hx g1 g2 g3 g4 g5 g6 g7 g8
    have e0 : ρ 0 = x0 := hx 0 (by decide)
    subst e0
    match stc, g8 with
    | [_], ⟨h, _⟩ => cases h; exact l1 τ ρ g1 g2 g3 g4 g5 g6
set_option maxRecDepth 100000 in
theorem mq_c6 {σ : pm_S} {Q : Option Value → pm_S → Prop} (x0 x1 x2 : Int) (v1 : Value) (hv1 : v1.category = 1) (hB : an_GB pm_B σ) (eF : (0 ≤ x0 ∧ x0 ≤ 4) ∧ ((-2147483648) ≤ x1 ∧ x1 ≤ 2147483647) ∧ (0 ≤ x2 ∧ x2 ≤ 400) ∧ True) (eC : (σ.1 93 33).toInt = x0 ∧ (σ.1 93 34).toInt = x1 ∧ (σ.1 93 32).toInt = x2 ∧ True)
    (l0 : ∀ (τ : pm_S) (y : Nat → Int), an_GB pm_B τ → FQ [(93, 46), (93, 47)] σ τ → ((0 ≤ x0 ∧ x0 ≤ 3) ∧ ((-2147483648) ≤ x1 ∧ x1 ≤ 2147483647) ∧ (0 ≤ x2 ∧ x2 ≤ 400) ∧ True) → (x0 ≠ 4 ∧ x0 ≠ 4 ∧ True) → (True) → ((τ.1 93 32).toInt = x2 ∧ (τ.1 93 33).toInt = x0 ∧ (τ.1 93 34).toInt = x1 ∧ (τ.1 93 46).toInt = 1 ∧ (τ.1 93 47).toInt = x2 ∧ True) → Q (some (.int (Int32.ofInt (-1)))) τ)
    (l1 : ∀ (τ : pm_S) (y : Nat → Int), an_GB pm_B τ → FQ [(93, 46), (93, 47)] σ τ → ((4 ≤ x0 ∧ x0 ≤ 4) ∧ ((-2147483648) ≤ x1 ∧ x1 ≤ 2147483647) ∧ (0 ≤ x2 ∧ x2 ≤ 400) ∧ True) → (x1 ≠ 62 ∧ x1 ≠ 61 ∧ x1 ≠ 60 ∧ True) → (True) → ((τ.1 93 32).toInt = x2 ∧ (τ.1 93 33).toInt = x0 ∧ (τ.1 93 34).toInt = x1 ∧ (τ.1 93 46).toInt = 1 ∧ (τ.1 93 47).toInt = x2 ∧ True) → Q (some (.int (Int32.ofInt (-1)))) τ)
    (l2 : ∀ (τ : pm_S) (y : Nat → Int), an_GB pm_B τ → FQ [(93, 46), (93, 47)] σ τ → ((4 ≤ x0 ∧ x0 ≤ 4) ∧ (62 ≤ x1 ∧ x1 ≤ 62) ∧ (0 ≤ x2 ∧ x2 ≤ 400) ∧ True) → (x1 ≠ 61 ∧ x1 ≠ 60 ∧ True) → (True) → ((τ.1 93 32).toInt = x2 ∧ (τ.1 93 33).toInt = x0 ∧ (τ.1 93 34).toInt = x1 ∧ True) → Ok 190 23 37 [.ref 93, .int (Int32.ofInt 8)] [.ref 93] τ Q)
    (l3 : ∀ (τ : pm_S) (y : Nat → Int), an_GB pm_B τ → FQ [(93, 46), (93, 47)] σ τ → ((4 ≤ x0 ∧ x0 ≤ 4) ∧ (61 ≤ x1 ∧ x1 ≤ 61) ∧ (0 ≤ x2 ∧ x2 ≤ 400) ∧ True) → (x1 ≠ 60 ∧ True) → (True) → ((τ.1 93 32).toInt = x2 ∧ (τ.1 93 33).toInt = x0 ∧ (τ.1 93 34).toInt = x1 ∧ True) → Ok 190 23 37 [.ref 93, .int (Int32.ofInt 7)] [.ref 93] τ Q)
    (l4 : ∀ (τ : pm_S) (y : Nat → Int), an_GB pm_B τ → FQ [(93, 46), (93, 47)] σ τ → ((4 ≤ x0 ∧ x0 ≤ 4) ∧ (60 ≤ x1 ∧ x1 ≤ 60) ∧ (0 ≤ x2 ∧ x2 ≤ 400) ∧ True) → (True) → (True) → ((τ.1 93 32).toInt = x2 ∧ (τ.1 93 33).toInt = x0 ∧ (τ.1 93 34).toInt = x1 ∧ True) → Ok 190 23 37 [.ref 93, .int (Int32.ofInt 6)] [.ref 93] τ Q)
    : Ok 190 23 6 [.ref 93, v1] [] σ Q := by
  refine an_seg (B := pm_B) (F := [(93, 46), (93, 47)]) (T := []) (S := []) (fun _ h => absurd h List.not_mem_nil) (k := 190) (d := 22) (cs := [37]) 57 6 3 [(0, 0, 4), (1, (-2147483648), 2147483647), (2, 0, 400)] [(93, (1, 0, 33), (0, 0, 0)), (93, (1, 0, 34), (0, 1, 0)), (93, (1, 0, 32), (0, 2, 0))] [(2, 93, 0), (5, 0, 0)] [] [(9999, [], [(1, 0, (-1))], [(0, 0, 3), (1, (-2147483648), 2147483647), (2, 0, 400)], [(3, 0, 0, 4), (3, 0, 0, 4)], [], [(93, (1, 0, 32), (0, 2, 0)), (93, (1, 0, 33), (0, 0, 0)), (93, (1, 0, 34), (0, 1, 0)), (93, (1, 0, 46), (1, 0, 1)), (93, (1, 0, 47), (0, 2, 0))]),
    (9999, [], [(1, 0, (-1))], [(0, 4, 4), (1, (-2147483648), 2147483647), (2, 0, 400)], [(3, 1, 1, 62), (3, 1, 1, 61), (3, 1, 1, 60)], [], [(93, (1, 0, 32), (0, 2, 0)), (93, (1, 0, 33), (0, 0, 0)), (93, (1, 0, 34), (0, 1, 0)), (93, (1, 0, 46), (1, 0, 1)), (93, (1, 0, 47), (0, 2, 0))]),
    (37, [(2, 93, 0), (1, 0, 8)], [(2, 93, 0)], [(0, 4, 4), (1, 62, 62), (2, 0, 400)], [(3, 1, 1, 61), (3, 1, 1, 60)], [], [(93, (1, 0, 32), (0, 2, 0)), (93, (1, 0, 33), (0, 0, 0)), (93, (1, 0, 34), (0, 1, 0))]),
    (37, [(2, 93, 0), (1, 0, 7)], [(2, 93, 0)], [(0, 4, 4), (1, 61, 61), (2, 0, 400)], [(3, 1, 1, 60)], [], [(93, (1, 0, 32), (0, 2, 0)), (93, (1, 0, 33), (0, 0, 0)), (93, (1, 0, 34), (0, 1, 0))]),
    (37, [(2, 93, 0), (1, 0, 6)], [(2, 93, 0)], [(0, 4, 4), (1, 60, 60), (2, 0, 400)], [], [], [(93, (1, 0, 32), (0, 2, 0)), (93, (1, 0, 33), (0, 0, 0)), (93, (1, 0, 34), (0, 1, 0))])] (by decide +kernel) (ρ0 := (fun s => [x0, x1, x2].getD s 0)) hB eF eC ⟨rfl, ⟨hv1, trivial⟩⟩ trivial ?_
  refine List.forall_mem_cons.mpr ⟨?_, List.forall_mem_cons.mpr ⟨?_, List.forall_mem_cons.mpr ⟨?_, List.forall_mem_cons.mpr ⟨?_, List.forall_mem_cons.mpr ⟨?_, fun _ h => absurd h List.not_mem_nil⟩⟩⟩⟩⟩
  · intro ρ τ Lc stc hx g1 g2 g3 g4 g5 g6 g7 g8
    have e0 : ρ 0 = x0 := hx 0 (by decide)
    have e1 : ρ 1 = x1 := hx 1 (by decide)
    have e2 : ρ 2 = x2 := hx 2 (by decide)
    subst e0
    subst e1
    subst e2
    match stc, g8 with
    | [_], ⟨h, _⟩ => cases h; exact l0 τ ρ g1 g2 g3 g4 g5 g6
  · intro ρ τ Lc stc hx g1 g2 g3 g4 g5 g6 g7 g8
    have e0 : ρ 0 = x0 := hx 0 (by decide)
    have e1 : ρ 1 = x1 := hx 1 (by decide)
    have e2 : ρ 2 = x2 := hx 2 (by decide)
    subst e0
    subst e1
    subst e2
    match stc, g8 with
    | [_], ⟨h, _⟩ => cases h; exact l1 τ ρ g1 g2 g3 g4 g5 g6
  · intro ρ τ Lc stc hx g1 g2 g3 g4 g5 g6 g7 g8
    have e0 : ρ 0 = x0 := hx 0 (by decide)
    have e1 : ρ 1 = x1 := hx 1 (by decide)
    have e2 : ρ 2 = x2 := hx 2 (by decide)
    subst e0
    subst e1
    subst e2
    have g7 := g7 (by decide)
    match Lc, stc, g7, g8 with
    | [v0, v1], [w0], ⟨hv0, hv1, _⟩, ⟨hw0, _⟩ =>
      cases hv0
      cases hv1
      cases hw0
      exact l2 τ ρ  g1 g2 g3 g4 g5 g6
  · intro ρ τ Lc stc hx g1 g2 g3 g4 g5 g6 g7 g8
    have e0 : ρ 0 = x0 := hx 0 (by decide)
    have e1 : ρ 1 = x1 := hx 1 (by decide)
    have e2 : ρ 2 = x2 := hx 2 (by decide)
    subst e0
    subst e1
    subst e2
    have g7 := g7 (by decide)
    match Lc, stc, g7, g8 with
    | [v0, v1], [w0], ⟨hv0, hv1, _⟩, ⟨hw0, _⟩ =>
      cases hv0
      cases hv1
      cases hw0
      exact l3 τ ρ  g1 g2 g3 g4 g5 g6
  · intro ρ τ Lc stc hx g1 g2 g3 g4 g5 g6 g7 g8
    have e0 : ρ 0 = x0 := hx 0 (by decide)
    have e1 : ρ 1 = x1 := hx 1 (by decide)
    have e2 : ρ 2 = x2 := hx 2 (by decide)
    subst e0
    subst e1
    subst e2
    have g7 := g7 (by decide)
    match Lc, stc, g7, g8 with
    | [v0, v1], [w0], ⟨hv0, hv1, _⟩, ⟨hw0, _⟩ =>
      cases hv0
      cases hv1
      cases hw0
      exact l4 τ ρ  g1 g2 g3 g4 g5 g6
set_option maxRecDepth 100000 in
theorem mq_c38 {σ : pm_S} {Q : Option Value → pm_S → Prop} (x0 : Int)  (hB : an_GB pm_B σ) (eF : (6 ≤ x0 ∧ x0 ≤ 8) ∧ True)
    (l0 : ∀ (τ : pm_S) (y : Nat → Int), an_GB pm_B τ → FQ [] σ τ → ((6 ≤ x0 ∧ x0 ≤ 8) ∧ True) → (True) → (True) → (True) → Ok 190 23 39 [.ref 93, .int (Int32.ofInt (x0))] [.ref 93] τ Q)
    : Ok 190 23 38 [.ref 93, .int (Int32.ofInt (x0))] [] σ Q := by
  refine an_seg (B := pm_B) (F := []) (T := []) (S := []) (fun _ h => absurd h List.not_mem_nil) (k := 190) (d := 22) (cs := [39]) 3 38 1 [(0, 6, 8)] [] [(2, 93, 0), (0, 0, 0)] [] [(39, [(2, 93, 0), (0, 0, 0)], [(2, 93, 0)], [(0, 6, 8)], [], [], [])] (by decide +kernel) (ρ0 := (fun s => [x0].getD s 0)) hB eF trivial ⟨rfl, ⟨rfl, trivial⟩⟩ trivial ?_
  refine List.forall_mem_cons.mpr ⟨?_, fun _ h => absurd h List.not_mem_nil⟩
  · intro ρ τ Lc stc hx g1 g2 g3 g4 g5 g6 g7 g8
    have e0 : ρ 0 = x0 := hx 0 (by decide)
    subst e0
    have g7 := g7 (by decide)
    match Lc, stc, g7, g8 with
    | [v0, v1], [w0], ⟨hv0, hv1, _⟩, ⟨hw0, _⟩ =>
      cases hv0
      cases hv1
      cases hw0
      exact l0 τ ρ  g1 g2 g3 g4 g5 g6
set_option maxRecDepth 100000 in
theorem mq_c40 {σ : pm_S} {Q : Option Value → pm_S → Prop} (x0 x1 : Int)  (hB : an_GB pm_B σ) (eF : ((-1) ≤ x0 ∧ x0 ≤ 0) ∧ (6 ≤ x1 ∧ x1 ≤ 8) ∧ True)
    (l0 : ∀ (τ : pm_S) (y : Nat → Int), an_GB pm_B τ → FQ [] σ τ → ((0 ≤ x0 ∧ x0 ≤ 0) ∧ (6 ≤ x1 ∧ x1 ≤ 8) ∧ True) → (True) → (True) → (True) → Ok 190 23 47 [.ref 93, .int (Int32.ofInt (x1))] [.int (Int32.ofInt 0), .int (Int32.ofInt (x1)), .ref 93] τ Q)
    (l1 : ∀ (τ : pm_S) (y : Nat → Int), an_GB pm_B τ → FQ [] σ τ → (((-1) ≤ x0 ∧ x0 ≤ (-1)) ∧ (6 ≤ x1 ∧ x1 ≤ 8) ∧ True) → (True) → (True) → (True) → Q (some (.int (Int32.ofInt (-1)))) τ)
    : Ok 190 23 40 [.ref 93, .int (Int32.ofInt (x1))] [.int (Int32.ofInt (x0))] σ Q := by
  refine an_seg (B := pm_B) (F := []) (T := []) (S := []) (fun _ h => absurd h List.not_mem_nil) (k := 190) (d := 22) (cs := [47]) 7 40 2 [(0, (-1), 0), (1, 6, 8)] [] [(2, 93, 0), (0, 1, 0)] [(0, 0, 0)] [(47, [(2, 93, 0), (0, 1, 0)], [(1, 0, 0), (0, 1, 0), (2, 93, 0)], [(0, 0, 0), (1, 6, 8)], [], [], []),
    (9999, [], [(1, 0, (-1))], [(0, (-1), (-1)), (1, 6, 8)], [], [], [])] (by decide +kernel) (ρ0 := (fun s => [x0, x1].getD s 0)) hB eF trivial ⟨rfl, ⟨rfl, trivial⟩⟩ ⟨rfl, trivial⟩ ?_
  refine List.forall_mem_cons.mpr ⟨?_, List.forall_mem_cons.mpr ⟨?_, fun _ h => absurd h List.not_mem_nil⟩⟩
  · intro ρ τ Lc stc hx g1 g2 g3 g4 g5 g6 g7 g8
    have e0 : ρ 0 = x0 := hx 0 (by decide)
    have e1 : ρ 1 = x1 := hx 1 (by decide)
    subst e0
    subst e1
    have g7 := g7 (by decide)
    match Lc, stc, g7, g8 with
    | [v0, v1], [w0, w1, w2], ⟨hv0, hv1, _⟩, ⟨hw0, hw1, hw2, _⟩ =>
      cases hv0
      cases hv1
      cases hw0
      cases hw1
      cases hw2
      exact l0 τ ρ  g1 g2 g3 g4 g5 g6
  · intro ρ τ Lc stc hx g1 g2 g3 g4 g5 g6 g7 g8
    have e0 : ρ 0 = x0 := hx 0 (by decide)
    have e1 : ρ 1 = x1 := hx 1 (by decide)
    subst e0
    subst e1
    match stc, g8 with
    | [_], ⟨h, _⟩ => cases h; exact l1 τ ρ g1 g2 g3 g4 g5 g6
set_option maxRecDepth 100000 in
theorem mq_c48 {σ : pm_S} {Q : Option Value → pm_S → Prop} (v1 : Value) (hv1 : v1.category = 1) (hB : an_GB pm_B σ)
    (l0 : ∀ (τ : pm_S) (y : Nat → Int), an_GB pm_B τ → FQ [] σ τ → (True) → (True) → (True) → (True) → Q (some (.int (Int32.ofInt 0))) τ)
    : Ok 190 23 48 [.ref 93, v1] [] σ Q := by
  refine an_seg (B := pm_B) (F := []) (T := []) (S := []) (fun _ h => absurd h List.not_mem_nil) (k := 190) (d := 22) (cs := []) 4 48 0 [] [] [(2, 93, 0), (5, 0, 0)] [] [(9999, [], [(1, 0, 0)], [], [], [], [])] (by decide +kernel) (ρ0 := (fun s => [].getD s 0)) hB trivial trivial ⟨rfl, ⟨hv1, trivial⟩⟩ trivial ?_
  refine List.forall_mem_cons.mpr ⟨?_, fun _ h => absurd h List.not_mem_nil⟩
  · intro ρ τ Lc stc hx g1 g2 g3 g4 g5 g6 g7 g8
    match stc, g8 with
    | [_], ⟨h, _⟩ => cases h; exact l0 τ ρ g1 g2 g3 g4 g5 g6
set_option maxRecDepth 100000 in
theorem mq_w0 {σ : pm_S} {Q : Option Value → pm_S → Prop} (x0 x1 : Int)  (hB : an_GB pm_B σ) (eF : (9 ≤ x0 ∧ x0 ≤ 12) ∧ (0 ≤ x1 ∧ x1 ≤ 39) ∧ True) (eC : (σ.1 93 45).toInt = x1 ∧ True)
    (l0 : ∀ (τ : pm_S) (y : Nat → Int), an_GB pm_B τ → FQ [] σ τ → ((9 ≤ x0 ∧ x0 ≤ 12) ∧ (0 ≤ x1 ∧ x1 ≤ 39) ∧ True) → (True) → (True) → ((τ.1 93 45).toInt = x1 ∧ True) → Ok 191 5 5 [.ref 93, .int (Int32.ofInt (x0))] [.int (Int32.ofInt (x0)), .int (Int32.ofInt (x1)), .ref 121] τ Q)
    : Ok 191 5 0 [.ref 93, .int (Int32.ofInt (x0))] [] σ Q := by
  refine an_seg (B := pm_B) (F := []) (T := []) (S := []) (fun _ h => absurd h List.not_mem_nil) (k := 191) (d := 4) (cs := [5]) 7 0 2 [(0, 9, 12), (1, 0, 39)] [(93, (1, 0, 45), (0, 1, 0))] [(2, 93, 0), (0, 0, 0)] [] [(5, [(2, 93, 0), (0, 0, 0)], [(0, 0, 0), (0, 1, 0), (2, 121, 0)], [(0, 9, 12), (1, 0, 39)], [], [], [(93, (1, 0, 45), (0, 1, 0))])] (by decide +kernel) (ρ0 := (fun s => [x0, x1].getD s 0)) hB eF eC ⟨rfl, ⟨rfl, trivial⟩⟩ trivial ?_
  refine List.forall_mem_cons.mpr ⟨?_, fun _ h => absurd h List.not_mem_nil⟩
  · intro ρ τ Lc stc hx g1 g2 g3 g4 g5 g6 g7 g8
    have e0 : ρ 0 = x0 := hx 0 (by decide)
    have e1 : ρ 1 = x1 := hx 1 (by decide)
    subst e0
    subst e1
    have g7 := g7 (by decide)
    match Lc, stc, g7, g8 with
    | [v0, v1], [w0, w1, w2], ⟨hv0, hv1, _⟩, ⟨hw0, hw1, hw2, _⟩ =>
      cases hv0
      cases hv1
      cases hw0
      cases hw1
      cases hw2
      exact l0 τ ρ  g1 g2 g3 g4 g5 g6
set_option maxRecDepth 100000 in
theorem mq_w6 {σ : pm_S} {Q : Option Value → pm_S → Prop} (x0 x1 : Int)  (hB : an_GB pm_B σ) (eF : (9 ≤ x0 ∧ x0 ≤ 12) ∧ (0 ≤ x1 ∧ x1 ≤ 39) ∧ True) (eC : (σ.1 93 45).toInt = x1 ∧ True)
    (l0 : ∀ (τ : pm_S) (y : Nat → Int), an_GB pm_B τ → FQ [(93, 45)] σ τ → ((9 ≤ x0 ∧ x0 ≤ 12) ∧ (0 ≤ x1 ∧ x1 ≤ 39) ∧ True) → (True) → (True) → ((τ.1 93 45).toInt = x1 + 1 ∧ True) → Q none τ)
    : Ok 191 5 6 [.ref 93, .int (Int32.ofInt (x0))] [] σ Q := by
  refine an_seg (B := pm_B) (F := [(93, 45)]) (T := []) (S := []) (fun _ h => absurd h List.not_mem_nil) (k := 191) (d := 4) (cs := []) 9 6 2 [(0, 9, 12), (1, 0, 39)] [(93, (1, 0, 45), (0, 1, 0))] [(2, 93, 0), (0, 0, 0)] [] [(9999, [], [], [(0, 9, 12), (1, 0, 39)], [], [], [(93, (1, 0, 45), (0, 1, 1))])] (by decide +kernel) (ρ0 := (fun s => [x0, x1].getD s 0)) hB eF eC ⟨rfl, ⟨rfl, trivial⟩⟩ trivial ?_
  refine List.forall_mem_cons.mpr ⟨?_, fun _ h => absurd h List.not_mem_nil⟩
  · intro ρ τ Lc stc hx g1 g2 g3 g4 g5 g6 g7 g8
    have e0 : ρ 0 = x0 := hx 0 (by decide)
    have e1 : ρ 1 = x1 := hx 1 (by decide)
    subst e0
    subst e1
    match stc, g8 with
    | [], _ => exact l0 τ ρ g1 g2 g3 g4 g5 g6
set_option maxRecDepth 100000 in
theorem mq_t0 {σ : pm_S} {Q : Option Value → pm_S → Prop} (x0 x1 : Int)  (hB : an_GB pm_B σ) (eF : (9 ≤ x0 ∧ x0 ≤ 11) ∧ (0 ≤ x1 ∧ x1 ≤ 40) ∧ True) (eC : (σ.1 93 45).toInt = x1 ∧ True)
    (l0 : ∀ (τ : pm_S) (y : Nat → Int), an_GB pm_B τ → FQ [] σ τ → ((9 ≤ x0 ∧ x0 ≤ 11) ∧ (0 ≤ x1 ∧ x1 ≤ 0) ∧ True) → (True) → (True) → ((τ.1 93 45).toInt = x1 ∧ True) → Q none τ)
    (l1 : ∀ (τ : pm_S) (y : Nat → Int), an_GB pm_B τ → FQ [] σ τ → ((9 ≤ x0 ∧ x0 ≤ 11) ∧ (1 ≤ x1 ∧ x1 ≤ 40) ∧ True) → (True) → (True) → ((τ.1 93 45).toInt = x1 ∧ True) → Ok 192 8 9 [.ref 93, .int (Int32.ofInt (x0))] [.int (Int32.ofInt (x1 + (-1))), .ref 121] τ Q)
    : Ok 192 8 0 [.ref 93, .int (Int32.ofInt (x0))] [] σ Q := by
  refine an_seg (B := pm_B) (F := []) (T := []) (S := []) (fun _ h => absurd h List.not_mem_nil) (k := 192) (d := 7) (cs := [9]) 11 0 2 [(0, 9, 11), (1, 0, 40)] [(93, (1, 0, 45), (0, 1, 0))] [(2, 93, 0), (0, 0, 0)] [] [(9999, [], [], [(0, 9, 11), (1, 0, 0)], [], [], [(93, (1, 0, 45), (0, 1, 0))]),
    (9, [(2, 93, 0), (0, 0, 0)], [(0, 1, (-1)), (2, 121, 0)], [(0, 9, 11), (1, 1, 40)], [], [], [(93, (1, 0, 45), (0, 1, 0))])] (by decide +kernel) (ρ0 := (fun s => [x0, x1].getD s 0)) hB eF eC ⟨rfl, ⟨rfl, trivial⟩⟩ trivial ?_
  refine List.forall_mem_cons.mpr ⟨?_, List.forall_mem_cons.mpr ⟨?_, fun _ h => absurd h List.not_mem_nil⟩⟩
  · intro ρ τ Lc stc hx g1 g2 g3 g4 g5 g6 g7 g8
    have e0 : ρ 0 = x0 := hx 0 (by decide)
    have e1 : ρ 1 = x1 := hx 1 (by decide)
    subst e0
    subst e1
    match stc, g8 with
    | [], _ => exact l0 τ ρ g1 g2 g3 g4 g5 g6
  · intro ρ τ Lc stc hx g1 g2 g3 g4 g5 g6 g7 g8
    have e0 : ρ 0 = x0 := hx 0 (by decide)
    have e1 : ρ 1 = x1 := hx 1 (by decide)
    subst e0
    subst e1
    have g7 := g7 (by decide)
    match Lc, stc, g7, g8 with
    | [v0, v1], [w0, w1], ⟨hv0, hv1, _⟩, ⟨hw0, hw1, _⟩ =>
      cases hv0
      cases hv1
      cases hw0
      cases hw1
      exact l1 τ ρ  g1 g2 g3 g4 g5 g6
set_option maxRecDepth 100000 in
theorem mq_t10 {σ : pm_S} {Q : Option Value → pm_S → Prop} (x0 x1 : Int)  (hB : an_GB pm_B σ) (eF : (9 ≤ x0 ∧ x0 ≤ 11) ∧ ((-2147483648) ≤ x1 ∧ x1 ≤ 2147483647) ∧ True)
    (l0 : ∀ (τ : pm_S) (y : Nat → Int), an_GB pm_B τ → FQ [] σ τ → ((9 ≤ x0 ∧ x0 ≤ 11) ∧ ((-2147483648) ≤ x1 ∧ x1 ≤ 2147483647) ∧ True) → (True) → (True) → (True) → Ok 192 8 11 [.ref 93, .int (Int32.ofInt (x0))] [.int (Int32.ofInt (x0)), .int (Int32.ofInt (x1))] τ Q)
    : Ok 192 8 10 [.ref 93, .int (Int32.ofInt (x0))] [.int (Int32.ofInt (x1))] σ Q := by
  refine an_seg (B := pm_B) (F := []) (T := []) (S := []) (fun _ h => absurd h List.not_mem_nil) (k := 192) (d := 7) (cs := [11]) 3 10 2 [(0, 9, 11), (1, (-2147483648), 2147483647)] [] [(2, 93, 0), (0, 0, 0)] [(0, 1, 0)] [(11, [(2, 93, 0), (0, 0, 0)], [(0, 0, 0), (0, 1, 0)], [(0, 9, 11), (1, (-2147483648), 2147483647)], [], [], [])] (by decide +kernel) (ρ0 := (fun s => [x0, x1].getD s 0)) hB eF trivial ⟨rfl, ⟨rfl, trivial⟩⟩ ⟨rfl, trivial⟩ ?_
  refine List.forall_mem_cons.mpr ⟨?_, fun _ h => absurd h List.not_mem_nil⟩
  · intro ρ τ Lc stc hx g1 g2 g3 g4 g5 g6 g7 g8
    have e0 : ρ 0 = x0 := hx 0 (by decide)
    have e1 : ρ 1 = x1 := hx 1 (by decide)
    subst e0
    subst e1
    have g7 := g7 (by decide)
    match Lc, stc, g7, g8 with
    | [v0, v1], [w0, w1], ⟨hv0, hv1, _⟩, ⟨hw0, hw1, _⟩ =>
      cases hv0
      cases hv1
      cases hw0
      cases hw1
      exact l0 τ ρ  g1 g2 g3 g4 g5 g6
set_option maxRecDepth 100000 in
theorem mq_t12 {σ : pm_S} {Q : Option Value → pm_S → Prop} (x0 x1 : Int)  (hB : an_GB pm_B σ) (eF : (9 ≤ x0 ∧ x0 ≤ 11) ∧ (1 ≤ x1 ∧ x1 ≤ 40) ∧ True) (eC : (σ.1 93 45).toInt = x1 ∧ True)
    (l0 : ∀ (τ : pm_S) (y : Nat → Int), an_GB pm_B τ → FQ [(93, 45)] σ τ → ((9 ≤ x0 ∧ x0 ≤ 11) ∧ (1 ≤ x1 ∧ x1 ≤ 40) ∧ True) → (True) → (True) → ((τ.1 93 45).toInt = x1 + (-1) ∧ True) → Ok 192 8 21 [.ref 93, .int (Int32.ofInt (x0))] [.int (Int32.ofInt 0), .int (Int32.ofInt (x0)), .ref 93] τ Q)
    : Ok 192 8 12 [.ref 93, .int (Int32.ofInt (x0))] [] σ Q := by
  refine an_seg (B := pm_B) (F := [(93, 45)]) (T := []) (S := []) (fun _ h => absurd h List.not_mem_nil) (k := 192) (d := 7) (cs := [21]) 11 12 2 [(0, 9, 11), (1, 1, 40)] [(93, (1, 0, 45), (0, 1, 0))] [(2, 93, 0), (0, 0, 0)] [] [(21, [(2, 93, 0), (0, 0, 0)], [(1, 0, 0), (0, 0, 0), (2, 93, 0)], [(0, 9, 11), (1, 1, 40)], [], [], [(93, (1, 0, 45), (0, 1, (-1)))])] (by decide +kernel) (ρ0 := (fun s => [x0, x1].getD s 0)) hB eF eC ⟨rfl, ⟨rfl, trivial⟩⟩ trivial ?_
  refine List.forall_mem_cons.mpr ⟨?_, fun _ h => absurd h List.not_mem_nil⟩
  · intro ρ τ Lc stc hx g1 g2 g3 g4 g5 g6 g7 g8
    have e0 : ρ 0 = x0 := hx 0 (by decide)
    have e1 : ρ 1 = x1 := hx 1 (by decide)
    subst e0
    subst e1
    have g7 := g7 (by decide)
    match Lc, stc, g7, g8 with
    | [v0, v1], [w0, w1, w2], ⟨hv0, hv1, _⟩, ⟨hw0, hw1, hw2, _⟩ =>
      cases hv0
      cases hv1
      cases hw0
      cases hw1
      cases hw2
      exact l0 τ ρ  g1 g2 g3 g4 g5 g6
set_option maxRecDepth 100000 in
theorem mq_t22n {σ : pm_S} {Q : Option Value → pm_S → Prop} (x0 x1 : Int)  (hB : an_GB pm_B σ) (eF : (9 ≤ x0 ∧ x0 ≤ 9) ∧ (1 ≤ x1 ∧ x1 ≤ 8) ∧ True) (eC : (σ.1 93 43).toInt = x1 ∧ True)
    (l0 : ∀ (τ : pm_S) (y : Nat → Int), an_GB pm_B τ → FQ [(93, 43)] σ τ → ((9 ≤ x0 ∧ x0 ≤ 9) ∧ (1 ≤ x1 ∧ x1 ≤ 8) ∧ True) → (True) → (True) → ((τ.1 93 43).toInt = x1 + (-1) ∧ True) → Ok 192 8 0 [.ref 93, .int (Int32.ofInt (x0))] [] τ Q)
    : Ok 192 8 22 [.ref 93, .int (Int32.ofInt (x0))] [] σ Q := by
  refine an_seg (B := pm_B) (F := [(93, 43)]) (T := []) (S := []) (fun _ h => absurd h List.not_mem_nil) (k := 192) (d := 7) (cs := [0]) 12 22 2 [(0, 9, 9), (1, 1, 8)] [(93, (1, 0, 43), (0, 1, 0))] [(2, 93, 0), (0, 0, 0)] [] [(0, [(2, 93, 0), (0, 0, 0)], [], [(0, 9, 9), (1, 1, 8)], [], [], [(93, (1, 0, 43), (0, 1, (-1)))])] (by decide +kernel) (ρ0 := (fun s => [x0, x1].getD s 0)) hB eF eC ⟨rfl, ⟨rfl, trivial⟩⟩ trivial ?_
  refine List.forall_mem_cons.mpr ⟨?_, fun _ h => absurd h List.not_mem_nil⟩
  · intro ρ τ Lc stc hx g1 g2 g3 g4 g5 g6 g7 g8
    have e0 : ρ 0 = x0 := hx 0 (by decide)
    have e1 : ρ 1 = x1 := hx 1 (by decide)
    subst e0
    subst e1
    have g7 := g7 (by decide)
    match Lc, stc, g7, g8 with
    | [v0, v1], [], ⟨hv0, hv1, _⟩, _ =>
      cases hv0
      cases hv1
      exact l0 τ ρ  g1 g2 g3 g4 g5 g6
set_option maxRecDepth 100000 in
theorem mq_t22o {σ : pm_S} {Q : Option Value → pm_S → Prop} (x0 : Int)  (hB : an_GB pm_B σ) (eF : (10 ≤ x0 ∧ x0 ≤ 11) ∧ True)
    (l0 : ∀ (τ : pm_S) (y : Nat → Int), an_GB pm_B τ → FQ [] σ τ → ((10 ≤ x0 ∧ x0 ≤ 11) ∧ True) → (x0 ≠ 9 ∧ True) → (True) → (True) → Ok 192 8 0 [.ref 93, .int (Int32.ofInt (x0))] [] τ Q)
    : Ok 192 8 22 [.ref 93, .int (Int32.ofInt (x0))] [] σ Q := by
  refine an_seg (B := pm_B) (F := []) (T := []) (S := []) (fun _ h => absurd h List.not_mem_nil) (k := 192) (d := 7) (cs := [0]) 5 22 1 [(0, 10, 11)] [] [(2, 93, 0), (0, 0, 0)] [] [(0, [(2, 93, 0), (0, 0, 0)], [], [(0, 10, 11)], [(3, 0, 0, 9)], [], [])] (by decide +kernel) (ρ0 := (fun s => [x0].getD s 0)) hB eF trivial ⟨rfl, ⟨rfl, trivial⟩⟩ trivial ?_
  refine List.forall_mem_cons.mpr ⟨?_, fun _ h => absurd h List.not_mem_nil⟩
  · intro ρ τ Lc stc hx g1 g2 g3 g4 g5 g6 g7 g8
    have e0 : ρ 0 = x0 := hx 0 (by decide)
    subst e0
    have g7 := g7 (by decide)
    match Lc, stc, g7, g8 with
    | [v0, v1], [], ⟨hv0, hv1, _⟩, _ =>
      cases hv0
      cases hv1
      exact l0 τ ρ  g1 g2 g3 g4 g5 g6
set_option maxRecDepth 100000 in
theorem mq_t32 {σ : pm_S} {Q : Option Value → pm_S → Prop} (x0 : Int)  (hB : an_GB pm_B σ) (eF : (9 ≤ x0 ∧ x0 ≤ 11) ∧ True)
    (l0 : ∀ (τ : pm_S) (y : Nat → Int), an_GB pm_B τ → FQ [] σ τ → ((9 ≤ x0 ∧ x0 ≤ 11) ∧ True) → (True) → (True) → (True) → Q none τ)
    : Ok 192 8 32 [.ref 93, .int (Int32.ofInt (x0))] [] σ Q := by
  refine an_seg (B := pm_B) (F := []) (T := []) (S := []) (fun _ h => absurd h List.not_mem_nil) (k := 192) (d := 7) (cs := []) 3 32 1 [(0, 9, 11)] [] [(2, 93, 0), (0, 0, 0)] [] [(9999, [], [], [(0, 9, 11)], [], [], [])] (by decide +kernel) (ρ0 := (fun s => [x0].getD s 0)) hB eF trivial ⟨rfl, ⟨rfl, trivial⟩⟩ trivial ?_
  refine List.forall_mem_cons.mpr ⟨?_, fun _ h => absurd h List.not_mem_nil⟩
  · intro ρ τ Lc stc hx g1 g2 g3 g4 g5 g6 g7 g8
    have e0 : ρ 0 = x0 := hx 0 (by decide)
    subst e0
    match stc, g8 with
    | [], _ => exact l0 τ ρ g1 g2 g3 g4 g5 g6
set_option maxRecDepth 100000 in
theorem mq_y0 {σ : pm_S} {Q : Option Value → pm_S → Prop} (v1 : Value) (v2 : Value) (v3 : Value) (hv1 : v1.category = 1) (hv2 : v2.category = 1) (hv3 : v3.category = 1) (hB : an_GB pm_B σ)
    (l0 : ∀ (τ : pm_S) (y : Nat → Int) (v3 : Value), v3.category = 1 → an_GB pm_B τ → FQ [(93, 45)] σ τ → (True) → (True) → (True) → ((τ.1 93 45).toInt = 0 ∧ True) → Ok 193 27 7 [.ref 93, .int (Int32.ofInt 0), .int (Int32.ofInt 1), v3] [] τ Q)
    : Ok 193 27 0 [.ref 93, v1, v2, v3] [] σ Q := by
  refine an_seg (B := pm_B) (F := [(93, 45)]) (T := []) (S := []) (fun _ h => absurd h List.not_mem_nil) (k := 193) (d := 26) (cs := [7]) 9 0 0 [] [] [(2, 93, 0), (5, 0, 0), (5, 0, 0), (5, 0, 0)] [] [(7, [(2, 93, 0), (1, 0, 0), (1, 0, 1), (5, 0, 0)], [], [], [], [], [(93, (1, 0, 45), (1, 0, 0))])] (by decide +kernel) (ρ0 := (fun s => [].getD s 0)) hB trivial trivial ⟨rfl, ⟨hv1, ⟨hv2, ⟨hv3, trivial⟩⟩⟩⟩ trivial ?_
  refine List.forall_mem_cons.mpr ⟨?_, fun _ h => absurd h List.not_mem_nil⟩
  · intro ρ τ Lc stc hx g1 g2 g3 g4 g5 g6 g7 g8
    have g7 := g7 (by decide)
    match Lc, stc, g7, g8 with
    | [v0, v1, v2, v3], [], ⟨hv0, hv1, hv2, hv3, _⟩, _ =>
      cases hv0
      cases hv1
      cases hv2
      exact l0 τ ρ v3 hv3 g1 g2 g3 g4 g5 g6
set_option maxRecDepth 100000 in
theorem mq_y7 {σ : pm_S} {Q : Option Value → pm_S → Prop} (x0 x1 x2 x3 x4 : Int) (v3 : Value) (hv3 : v3.category = 1) (hB : an_GB pm_B σ) (eF : (0 ≤ x0 ∧ x0 ≤ 4) ∧ ((-2147483648) ≤ x1 ∧ x1 ≤ 2147483647) ∧ (0 ≤ x2 ∧ x2 ≤ 400) ∧ (0 ≤ x3 ∧ x3 ≤ 8) ∧ (0 ≤ x4 ∧ x4 ≤ 8) ∧ True) (eC : (σ.1 93 33).toInt = x0 ∧ (σ.1 93 34).toInt = x1 ∧ (σ.1 93 32).toInt = x2 ∧ (σ.1 93 43).toInt = x3 ∧ True)
    (l0 : ∀ (τ : pm_S) (y : Nat → Int), an_GB pm_B τ → FQ [(93, 43), (93, 46), (93, 47)] σ τ → ((0 ≤ x0 ∧ x0 ≤ 3) ∧ ((-2147483648) ≤ x1 ∧ x1 ≤ 2147483647) ∧ (0 ≤ x2 ∧ x2 ≤ 400) ∧ (0 ≤ x3 ∧ x3 ≤ 8) ∧ (0 ≤ x4 ∧ x4 ≤ 8) ∧ True) → (x0 ≠ 2 ∧ True) → (True) → ((τ.1 93 32).toInt = x2 ∧ (τ.1 93 33).toInt = x0 ∧ (τ.1 93 34).toInt = x1 ∧ (τ.1 93 43).toInt = x3 ∧ True) → Ok 193 27 50 [.ref 93, .int (Int32.ofInt (x4)), .int (Int32.ofInt 1), .int (Int32.ofInt 0)] [.ref 93] τ Q)
    (l1 : ∀ (τ : pm_S) (y : Nat → Int), an_GB pm_B τ → FQ [(93, 43), (93, 46), (93, 47)] σ τ → ((4 ≤ x0 ∧ x0 ≤ 4) ∧ ((-2147483648) ≤ x1 ∧ x1 ≤ 2147483647) ∧ (0 ≤ x2 ∧ x2 ≤ 400) ∧ (0 ≤ x3 ∧ x3 ≤ 8) ∧ (0 ≤ x4 ∧ x4 ≤ 8) ∧ True) → (x1 ≠ 40 ∧ x0 ≠ 2 ∧ True) → (True) → ((τ.1 93 32).toInt = x2 ∧ (τ.1 93 33).toInt = x0 ∧ (τ.1 93 34).toInt = x1 ∧ (τ.1 93 43).toInt = x3 ∧ True) → Ok 193 27 50 [.ref 93, .int (Int32.ofInt (x4)), .int (Int32.ofInt 1), .int (Int32.ofInt 0)] [.ref 93] τ Q)
    (l2 : ∀ (τ : pm_S) (y : Nat → Int), an_GB pm_B τ → FQ [(93, 43), (93, 46), (93, 47)] σ τ → ((4 ≤ x0 ∧ x0 ≤ 4) ∧ (40 ≤ x1 ∧ x1 ≤ 40) ∧ (0 ≤ x2 ∧ x2 ≤ 400) ∧ (0 ≤ x3 ∧ x3 ≤ 7) ∧ (0 ≤ x4 ∧ x4 ≤ 8) ∧ True) → (x0 ≠ 2 ∧ True) → (True) → ((τ.1 93 32).toInt = x2 ∧ (τ.1 93 33).toInt = x0 ∧ (τ.1 93 34).toInt = x1 ∧ (τ.1 93 43).toInt = x3 + 1 ∧ True) → Ok 193 27 45 [.ref 93, .int (Int32.ofInt (x4 + 1)), .int (Int32.ofInt 1), .int (Int32.ofInt 0)] [.int (Int32.ofInt 12), .ref 93] τ Q)
    (l3 : ∀ (τ : pm_S) (y : Nat → Int), an_GB pm_B τ → FQ [(93, 43), (93, 46), (93, 47)] σ τ → ((4 ≤ x0 ∧ x0 ≤ 4) ∧ (40 ≤ x1 ∧ x1 ≤ 40) ∧ (0 ≤ x2 ∧ x2 ≤ 400) ∧ (8 ≤ x3 ∧ x3 ≤ 8) ∧ (0 ≤ x4 ∧ x4 ≤ 8) ∧ True) → (x0 ≠ 2 ∧ True) → (True) → ((τ.1 93 32).toInt = x2 ∧ (τ.1 93 33).toInt = x0 ∧ (τ.1 93 34).toInt = x1 ∧ (τ.1 93 43).toInt = x3 ∧ (τ.1 93 46).toInt = 3 ∧ (τ.1 93 47).toInt = x2 ∧ True) → Q (some (.int (Int32.ofInt (-1)))) τ)
    (l4 : ∀ (τ : pm_S) (y : Nat → Int), an_GB pm_B τ → FQ [(93, 43), (93, 46), (93, 47)] σ τ → ((2 ≤ x0 ∧ x0 ≤ 2) ∧ ((-2147483648) ≤ x1 ∧ x1 ≤ 2147483647) ∧ (0 ≤ x2 ∧ x2 ≤ 400) ∧ (0 ≤ x3 ∧ x3 ≤ 8) ∧ (0 ≤ x4 ∧ x4 ≤ 8) ∧ True) → (x1 ≠ 5 ∧ True) → (True) → ((τ.1 93 32).toInt = x2 ∧ (τ.1 93 33).toInt = x0 ∧ (τ.1 93 34).toInt = x1 ∧ (τ.1 93 43).toInt = x3 ∧ True) → Ok 193 27 50 [.ref 93, .int (Int32.ofInt (x4)), .int (Int32.ofInt 1), .int (Int32.ofInt 0)] [.ref 93] τ Q)
    (l5 : ∀ (τ : pm_S) (y : Nat → Int), an_GB pm_B τ → FQ [(93, 43), (93, 46), (93, 47)] σ τ → ((2 ≤ x0 ∧ x0 ≤ 2) ∧ (5 ≤ x1 ∧ x1 ≤ 5) ∧ (0 ≤ x2 ∧ x2 ≤ 400) ∧ (0 ≤ x3 ∧ x3 ≤ 7) ∧ (0 ≤ x4 ∧ x4 ≤ 8) ∧ True) → (True) → (True) → ((τ.1 93 32).toInt = x2 ∧ (τ.1 93 33).toInt = x0 ∧ (τ.1 93 34).toInt = x1 ∧ (τ.1 93 43).toInt = x3 + 1 ∧ True) → Ok 193 27 45 [.ref 93, .int (Int32.ofInt (x4)), .int (Int32.ofInt 1), .int (Int32.ofInt 1)] [.int (Int32.ofInt 9), .ref 93] τ Q)
    (l6 : ∀ (τ : pm_S) (y : Nat → Int), an_GB pm_B τ → FQ [(93, 43), (93, 46), (93, 47)] σ τ → ((2 ≤ x0 ∧ x0 ≤ 2) ∧ (5 ≤ x1 ∧ x1 ≤ 5) ∧ (0 ≤ x2 ∧ x2 ≤ 400) ∧ (8 ≤ x3 ∧ x3 ≤ 8) ∧ (0 ≤ x4 ∧ x4 ≤ 8) ∧ True) → (True) → (True) → ((τ.1 93 32).toInt = x2 ∧ (τ.1 93 33).toInt = x0 ∧ (τ.1 93 34).toInt = x1 ∧ (τ.1 93 43).toInt = x3 ∧ (τ.1 93 46).toInt = 3 ∧ (τ.1 93 47).toInt = x2 ∧ True) → Q (some (.int (Int32.ofInt (-1)))) τ)
    : Ok 193 27 7 [.ref 93, .int (Int32.ofInt (x4)), .int (Int32.ofInt 1), v3] [] σ Q := by
  refine an_seg (B := pm_B) (F := [(93, 43), (93, 46), (93, 47)]) (T := []) (S := []) (fun _ h => absurd h List.not_mem_nil) (k := 193) (d := 26) (cs := [45, 50]) 51 7 5 [(0, 0, 4), (1, (-2147483648), 2147483647), (2, 0, 400), (3, 0, 8), (4, 0, 8)] [(93, (1, 0, 33), (0, 0, 0)), (93, (1, 0, 34), (0, 1, 0)), (93, (1, 0, 32), (0, 2, 0)), (93, (1, 0, 43), (0, 3, 0))] [(2, 93, 0), (0, 4, 0), (1, 0, 1), (5, 0, 0)] [] [(50, [(2, 93, 0), (0, 4, 0), (1, 0, 1), (1, 0, 0)], [(2, 93, 0)], [(0, 0, 3), (1, (-2147483648), 2147483647), (2, 0, 400), (3, 0, 8), (4, 0, 8)], [(3, 0, 0, 2)], [], [(93, (1, 0, 32), (0, 2, 0)), (93, (1, 0, 33), (0, 0, 0)), (93, (1, 0, 34), (0, 1, 0)), (93, (1, 0, 43), (0, 3, 0))]),
    (50, [(2, 93, 0), (0, 4, 0), (1, 0, 1), (1, 0, 0)], [(2, 93, 0)], [(0, 4, 4), (1, (-2147483648), 2147483647), (2, 0, 400), (3, 0, 8), (4, 0, 8)], [(3, 1, 1, 40), (3, 0, 0, 2)], [], [(93, (1, 0, 32), (0, 2, 0)), (93, (1, 0, 33), (0, 0, 0)), (93, (1, 0, 34), (0, 1, 0)), (93, (1, 0, 43), (0, 3, 0))]),
    (45, [(2, 93, 0), (0, 4, 1), (1, 0, 1), (1, 0, 0)], [(1, 0, 12), (2, 93, 0)], [(0, 4, 4), (1, 40, 40), (2, 0, 400), (3, 0, 7), (4, 0, 8)], [(3, 0, 0, 2)], [], [(93, (1, 0, 32), (0, 2, 0)), (93, (1, 0, 33), (0, 0, 0)), (93, (1, 0, 34), (0, 1, 0)), (93, (1, 0, 43), (0, 3, 1))]),
    (9999, [], [(1, 0, (-1))], [(0, 4, 4), (1, 40, 40), (2, 0, 400), (3, 8, 8), (4, 0, 8)], [(3, 0, 0, 2)], [], [(93, (1, 0, 32), (0, 2, 0)), (93, (1, 0, 33), (0, 0, 0)), (93, (1, 0, 34), (0, 1, 0)), (93, (1, 0, 43), (0, 3, 0)), (93, (1, 0, 46), (1, 0, 3)), (93, (1, 0, 47), (0, 2, 0))]),
    (50, [(2, 93, 0), (0, 4, 0), (1, 0, 1), (1, 0, 0)], [(2, 93, 0)], [(0, 2, 2), (1, (-2147483648), 2147483647), (2, 0, 400), (3, 0, 8), (4, 0, 8)], [(3, 1, 1, 5)], [], [(93, (1, 0, 32), (0, 2, 0)), (93, (1, 0, 33), (0, 0, 0)), (93, (1, 0, 34), (0, 1, 0)), (93, (1, 0, 43), (0, 3, 0))]),
    (45, [(2, 93, 0), (0, 4, 0), (1, 0, 1), (1, 0, 1)], [(1, 0, 9), (2, 93, 0)], [(0, 2, 2), (1, 5, 5), (2, 0, 400), (3, 0, 7), (4, 0, 8)], [], [], [(93, (1, 0, 32), (0, 2, 0)), (93, (1, 0, 33), (0, 0, 0)), (93, (1, 0, 34), (0, 1, 0)), (93, (1, 0, 43), (0, 3, 1))]),
    (9999, [], [(1, 0, (-1))], [(0, 2, 2), (1, 5, 5), (2, 0, 400), (3, 8, 8), (4, 0, 8)], [], [], [(93, (1, 0, 32), (0, 2, 0)), (93, (1, 0, 33), (0, 0, 0)), (93, (1, 0, 34), (0, 1, 0)), (93, (1, 0, 43), (0, 3, 0)), (93, (1, 0, 46), (1, 0, 3)), (93, (1, 0, 47), (0, 2, 0))])] (by decide +kernel) (ρ0 := (fun s => [x0, x1, x2, x3, x4].getD s 0)) hB eF eC ⟨rfl, ⟨rfl, ⟨rfl, ⟨hv3, trivial⟩⟩⟩⟩ trivial ?_
  refine List.forall_mem_cons.mpr ⟨?_, List.forall_mem_cons.mpr ⟨?_, List.forall_mem_cons.mpr ⟨?_, List.forall_mem_cons.mpr ⟨?_, List.forall_mem_cons.mpr ⟨?_, List.forall_mem_cons.mpr ⟨?_, List.forall_mem_cons.mpr ⟨?_, fun _ h => absurd h List.not_mem_nil⟩⟩⟩⟩⟩⟩⟩
  · intro ρ τ Lc stc hx g1 g2 g3 g4 g5 g6 g7 g8
    have e0 : ρ 0 = x0 := hx 0 (by decide)
    have e1 : ρ 1 = x1 := hx 1 (by decide)
    have e2 : ρ 2 = x2 := hx 2 (by decide)
    have e3 : ρ 3 = x3 := hx 3 (by decide)
    have e4 : ρ 4 = x4 := hx 4 (by decide)
    subst e0
    subst e1
    subst e2
    subst e3
    subst e4
    have g7 := g7 (by decide)
    match Lc, stc, g7, g8 with
    | [v0, v1, v2, v3], [w0], ⟨hv0, hv1, hv2, hv3, _⟩, ⟨hw0, _⟩ =>
      cases hv0
      cases hv1
      cases hv2
      cases hv3
      cases hw0
      exact l0 τ ρ  g1 g2 g3 g4 g5 g6
  · intro ρ τ Lc stc hx g1 g2 g3 g4 g5 g6 g7 g8
    have e0 : ρ 0 = x0 := hx 0 (by decide)
    have e1 : ρ 1 = x1 := hx 1 (by decide)
    have e2 : ρ 2 = x2 := hx 2 (by decide)
    have e3 : ρ 3 = x3 := hx 3 (by decide)
    have e4 : ρ 4 = x4 := hx 4 (by decide)
    subst e0
    subst e1
    subst e2
    subst e3
    subst e4
    have g7 := g7 (by decide)
    match Lc, stc, g7, g8 with
    | [v0, v1, v2, v3], [w0], ⟨hv0, hv1, hv2, hv3, _⟩, ⟨hw0, _⟩ =>
      cases hv0
      cases hv1
      cases hv2
      cases hv3
      cases hw0
      exact l1 τ ρ  g1 g2 g3 g4 g5 g6
  · intro ρ τ Lc stc hx g1 g2 g3 g4 g5 g6 g7 g8
    have e0 : ρ 0 = x0 := hx 0 (by decide)
    have e1 : ρ 1 = x1 := hx 1 (by decide)
    have e2 : ρ 2 = x2 := hx 2 (by decide)
    have e3 : ρ 3 = x3 := hx 3 (by decide)
    have e4 : ρ 4 = x4 := hx 4 (by decide)
    subst e0
    subst e1
    subst e2
    subst e3
    subst e4
    have g7 := g7 (by decide)
    match Lc, stc, g7, g8 with
    | [v0, v1, v2, v3], [w0, w1], ⟨hv0, hv1, hv2, hv3, _⟩, ⟨hw0, hw1, _⟩ =>
      cases hv0
      cases hv1
      cases hv2
      cases hv3
      cases hw0
      cases hw1
      exact l2 τ ρ  g1 g2 g3 g4 g5 g6
  · intro ρ τ Lc stc hx g1 g2 g3 g4 g5 g6 g7 g8
    have e0 : ρ 0 = x0 := hx 0 (by decide)
    have e1 : ρ 1 = x1 := hx 1 (by decide)
    have e2 : ρ 2 = x2 := hx 2 (by decide)
    have e3 : ρ 3 = x3 := hx 3 (by decide)
    have e4 : ρ 4 = x4 := hx 4 (by decide)
    subst e0
    subst e1
    subst e2
    subst e3
    subst e4
    match stc, g8 with
    | [_], ⟨h, _⟩ => cases h; exact l3 τ ρ g1 g2 g3 g4 g5 g6
  · intro ρ τ Lc stc hx g1 g2 g3 g4 g5 g6 g7 g8
    have e0 : ρ 0 = x0 := hx 0 (by decide)
    have e1 : ρ 1 = x1 := hx 1 (by decide)
    have e2 : ρ 2 = x2 := hx 2 (by decide)
    have e3 : ρ 3 = x3 := hx 3 (by decide)
    have e4 : ρ 4 = x4 := hx 4 (by decide)
    subst e0
    subst e1
    subst e2
    subst e3
    subst e4
    have g7 := g7 (by decide)
    match Lc, stc, g7, g8 with
    | [v0, v1, v2, v3], [w0], ⟨hv0, hv1, hv2, hv3, _⟩, ⟨hw0, _⟩ =>
      cases hv0
      cases hv1
      cases hv2
      cases hv3
      cases hw0
      exact l4 τ ρ  g1 g2 g3 g4 g5 g6
  · intro ρ τ Lc stc hx g1 g2 g3 g4 g5 g6 g7 g8
    have e0 : ρ 0 = x0 := hx 0 (by decide)
    have e1 : ρ 1 = x1 := hx 1 (by decide)
    have e2 : ρ 2 = x2 := hx 2 (by decide)
    have e3 : ρ 3 = x3 := hx 3 (by decide)
    have e4 : ρ 4 = x4 := hx 4 (by decide)
    subst e0
    subst e1
    subst e2
    subst e3
    subst e4
    have g7 := g7 (by decide)
    match Lc, stc, g7, g8 with
    | [v0, v1, v2, v3], [w0, w1], ⟨hv0, hv1, hv2, hv3, _⟩, ⟨hw0, hw1, _⟩ =>
      cases hv0
      cases hv1
      cases hv2
      cases hv3
      cases hw0
      cases hw1
      exact l5 τ ρ  g1 g2 g3 g4 g5 g6
  · intro ρ τ Lc stc hx g1 g2 g3 g4 g5 g6 g7 g8
    have e0 : ρ 0 = x0 := hx 0 (by decide)
    have e1 : ρ 1 = x1 := hx 1 (by decide)
    have e2 : ρ 2 = x2 := hx 2 (by decide)
    have e3 : ρ 3 = x3 := hx 3 (by decide)
    have e4 : ρ 4 = x4 := hx 4 (by decide)
    subst e0
    subst e1
    subst e2
    subst e3
    subst e4
    match stc, g8 with
    | [_], ⟨h, _⟩ => cases h; exact l6 τ ρ g1 g2 g3 g4 g5 g6
set_option maxRecDepth 100000 in
theorem mq_y46 {σ : pm_S} {Q : Option Value → pm_S → Prop} (x0 : Int) (v3 : Value) (hv3 : v3.category = 1) (hB : an_GB pm_B σ) (eF : (0 ≤ x0 ∧ x0 ≤ 9) ∧ True)
    (l0 : ∀ (τ : pm_S) (y : Nat → Int) (v3 : Value), v3.category = 1 → an_GB pm_B τ → FQ [] σ τ → ((0 ≤ x0 ∧ x0 ≤ 9) ∧ True) → (True) → (True) → (True) → Ok 193 27 47 [.ref 93, .int (Int32.ofInt (x0)), .int (Int32.ofInt 1), v3] [.ref 93] τ Q)
    : Ok 193 27 46 [.ref 93, .int (Int32.ofInt (x0)), .int (Int32.ofInt 1), v3] [] σ Q := by
  refine an_seg (B := pm_B) (F := []) (T := []) (S := []) (fun _ h => absurd h List.not_mem_nil) (k := 193) (d := 26) (cs := [47]) 3 46 1 [(0, 0, 9)] [] [(2, 93, 0), (0, 0, 0), (1, 0, 1), (5, 0, 0)] [] [(47, [(2, 93, 0), (0, 0, 0), (1, 0, 1), (5, 0, 0)], [(2, 93, 0)], [(0, 0, 9)], [], [], [])] (by decide +kernel) (ρ0 := (fun s => [x0].getD s 0)) hB eF trivial ⟨rfl, ⟨rfl, ⟨rfl, ⟨hv3, trivial⟩⟩⟩⟩ trivial ?_
  refine List.forall_mem_cons.mpr ⟨?_, fun _ h => absurd h List.not_mem_nil⟩
  · intro ρ τ Lc stc hx g1 g2 g3 g4 g5 g6 g7 g8
    have e0 : ρ 0 = x0 := hx 0 (by decide)
    subst e0
    have g7 := g7 (by decide)
    match Lc, stc, g7, g8 with
    | [v0, v1, v2, v3], [w0], ⟨hv0, hv1, hv2, hv3, _⟩, ⟨hw0, _⟩ =>
      cases hv0
      cases hv1
      cases hv2
      cases hw0
      exact l0 τ ρ v3 hv3 g1 g2 g3 g4 g5 g6
set_option maxRecDepth 100000 in
theorem mq_y48 {σ : pm_S} {Q : Option Value → pm_S → Prop} (x0 : Int) (v3 : Value) (hv3 : v3.category = 1) (hB : an_GB pm_B σ) (eF : (0 ≤ x0 ∧ x0 ≤ 9) ∧ True)
    (l0 : ∀ (τ : pm_S) (y : Nat → Int) (v3 : Value), v3.category = 1 → an_GB pm_B τ → FQ [] σ τ → ((0 ≤ x0 ∧ x0 ≤ 9) ∧ True) → (True) → (True) → (True) → Ok 193 27 7 [.ref 93, .int (Int32.ofInt (x0)), .int (Int32.ofInt 1), v3] [] τ Q)
    : Ok 193 27 48 [.ref 93, .int (Int32.ofInt (x0)), .int (Int32.ofInt 1), v3] [] σ Q := by
  refine an_seg (B := pm_B) (F := []) (T := []) (S := []) (fun _ h => absurd h List.not_mem_nil) (k := 193) (d := 26) (cs := [7]) 3 48 1 [(0, 0, 9)] [] [(2, 93, 0), (0, 0, 0), (1, 0, 1), (5, 0, 0)] [] [(7, [(2, 93, 0), (0, 0, 0), (1, 0, 1), (5, 0, 0)], [], [(0, 0, 9)], [], [], [])] (by decide +kernel) (ρ0 := (fun s => [x0].getD s 0)) hB eF trivial ⟨rfl, ⟨rfl, ⟨rfl, ⟨hv3, trivial⟩⟩⟩⟩ trivial ?_
  refine List.forall_mem_cons.mpr ⟨?_, fun _ h => absurd h List.not_mem_nil⟩
  · intro ρ τ Lc stc hx g1 g2 g3 g4 g5 g6 g7 g8
    have e0 : ρ 0 = x0 := hx 0 (by decide)
    subst e0
    have g7 := g7 (by decide)
    match Lc, stc, g7, g8 with
    | [v0, v1, v2, v3], [], ⟨hv0, hv1, hv2, hv3, _⟩, _ =>
      cases hv0
      cases hv1
      cases hv2
      exact l0 τ ρ v3 hv3 g1 g2 g3 g4 g5 g6
set_option maxRecDepth 100000 in
theorem mq_y51 {σ : pm_S} {Q : Option Value → pm_S → Prop} (x0 x1 : Int) (v3 : Value) (hv3 : v3.category = 1) (hB : an_GB pm_B σ) (eF : ((-1) ≤ x0 ∧ x0 ≤ 0) ∧ (0 ≤ x1 ∧ x1 ≤ 8) ∧ True)
    (l0 : ∀ (τ : pm_S) (y : Nat → Int) (v3 : Value), v3.category = 1 → an_GB pm_B τ → FQ [] σ τ → ((0 ≤ x0 ∧ x0 ≤ 0) ∧ (0 ≤ x1 ∧ x1 ≤ 8) ∧ True) → (True) → (True) → (True) → Ok 193 27 57 [.ref 93, .int (Int32.ofInt (x1)), .int (Int32.ofInt 1), v3] [.int (Int32.ofInt 9), .ref 93] τ Q)
    (l1 : ∀ (τ : pm_S) (y : Nat → Int), an_GB pm_B τ → FQ [] σ τ → (((-1) ≤ x0 ∧ x0 ≤ (-1)) ∧ (0 ≤ x1 ∧ x1 ≤ 8) ∧ True) → (True) → (True) → (True) → Q (some (.int (Int32.ofInt (-1)))) τ)
    : Ok 193 27 51 [.ref 93, .int (Int32.ofInt (x1)), .int (Int32.ofInt 1), v3] [.int (Int32.ofInt (x0))] σ Q := by
  refine an_seg (B := pm_B) (F := []) (T := []) (S := []) (fun _ h => absurd h List.not_mem_nil) (k := 193) (d := 26) (cs := [57]) 6 51 2 [(0, (-1), 0), (1, 0, 8)] [] [(2, 93, 0), (0, 1, 0), (1, 0, 1), (5, 0, 0)] [(0, 0, 0)] [(57, [(2, 93, 0), (0, 1, 0), (1, 0, 1), (5, 0, 0)], [(1, 0, 9), (2, 93, 0)], [(0, 0, 0), (1, 0, 8)], [], [], []),
    (9999, [], [(1, 0, (-1))], [(0, (-1), (-1)), (1, 0, 8)], [], [], [])] (by decide +kernel) (ρ0 := (fun s => [x0, x1].getD s 0)) hB eF trivial ⟨rfl, ⟨rfl, ⟨rfl, ⟨hv3, trivial⟩⟩⟩⟩ ⟨rfl, trivial⟩ ?_
  refine List.forall_mem_cons.mpr ⟨?_, List.forall_mem_cons.mpr ⟨?_, fun _ h => absurd h List.not_mem_nil⟩⟩
  · intro ρ τ Lc stc hx g1 g2 g3 g4 g5 g6 g7 g8
    have e0 : ρ 0 = x0 := hx 0 (by decide)
    have e1 : ρ 1 = x1 := hx 1 (by decide)
    subst e0
    subst e1
    have g7 := g7 (by decide)
    match Lc, stc, g7, g8 with
    | [v0, v1, v2, v3], [w0, w1], ⟨hv0, hv1, hv2, hv3, _⟩, ⟨hw0, hw1, _⟩ =>
      cases hv0
      cases hv1
      cases hv2
      cases hw0
      cases hw1
      exact l0 τ ρ v3 hv3 g1 g2 g3 g4 g5 g6
  · intro ρ τ Lc stc hx g1 g2 g3 g4 g5 g6 g7 g8
    have e0 : ρ 0 = x0 := hx 0 (by decide)
    have e1 : ρ 1 = x1 := hx 1 (by decide)
    subst e0
    subst e1
    match stc, g8 with
    | [_], ⟨h, _⟩ => cases h; exact l1 τ ρ g1 g2 g3 g4 g5 g6
set_option maxRecDepth 100000 in
theorem mq_y58 {σ : pm_S} {Q : Option Value → pm_S → Prop} (x0 : Int) (v2 : Value) (v3 : Value) (hv2 : v2.category = 1) (hv3 : v3.category = 1) (hB : an_GB pm_B σ) (eF : (0 ≤ x0 ∧ x0 ≤ 8) ∧ True)
    (l0 : ∀ (τ : pm_S) (y : Nat → Int) (v3 : Value), v3.category = 1 → an_GB pm_B τ → FQ [] σ τ → ((0 ≤ x0 ∧ x0 ≤ 8) ∧ True) → (True) → (True) → (True) → Ok 193 27 7 [.ref 93, .int (Int32.ofInt (x0)), .int (Int32.ofInt 0), v3] [] τ Q)
    : Ok 193 27 58 [.ref 93, .int (Int32.ofInt (x0)), v2, v3] [] σ Q := by
  refine an_seg (B := pm_B) (F := []) (T := []) (S := []) (fun _ h => absurd h List.not_mem_nil) (k := 193) (d := 26) (cs := [7]) 5 58 1 [(0, 0, 8)] [] [(2, 93, 0), (0, 0, 0), (5, 0, 0), (5, 0, 0)] [] [(7, [(2, 93, 0), (0, 0, 0), (1, 0, 0), (5, 0, 0)], [], [(0, 0, 8)], [], [], [])] (by decide +kernel) (ρ0 := (fun s => [x0].getD s 0)) hB eF trivial ⟨rfl, ⟨rfl, ⟨hv2, ⟨hv3, trivial⟩⟩⟩⟩ trivial ?_
  refine List.forall_mem_cons.mpr ⟨?_, fun _ h => absurd h List.not_mem_nil⟩
  · intro ρ τ Lc stc hx g1 g2 g3 g4 g5 g6 g7 g8
    have e0 : ρ 0 = x0 := hx 0 (by decide)
    subst e0
    have g7 := g7 (by decide)
    match Lc, stc, g7, g8 with
    | [v0, v1, v2, v3], [], ⟨hv0, hv1, hv2, hv3, _⟩, _ =>
      cases hv0
      cases hv1
      cases hv2
      exact l0 τ ρ v3 hv3 g1 g2 g3 g4 g5 g6
set_option maxRecDepth 100000 in
theorem mq_y7b {σ : pm_S} {Q : Option Value → pm_S → Prop} (x0 x1 x2 x3 : Int) (v3 : Value) (hv3 : v3.category = 1) (hB : an_GB pm_B σ) (eF : (0 ≤ x0 ∧ x0 ≤ 4) ∧ ((-2147483648) ≤ x1 ∧ x1 ≤ 2147483647) ∧ (0 ≤ x2 ∧ x2 ≤ 400) ∧ (0 ≤ x3 ∧ x3 ≤ 8) ∧ True) (eC : (σ.1 93 33).toInt = x0 ∧ (σ.1 93 34).toInt = x1 ∧ (σ.1 93 32).toInt = x2 ∧ True)
    (l0 : ∀ (τ : pm_S) (y : Nat → Int) (v3 : Value), v3.category = 1 → an_GB pm_B τ → FQ [] σ τ → ((0 ≤ x0 ∧ x0 ≤ 4) ∧ ((-2147483648) ≤ x1 ∧ x1 ≤ 2147483647) ∧ (0 ≤ x2 ∧ x2 ≤ 400) ∧ (0 ≤ x3 ∧ x3 ≤ 8) ∧ True) → (x0 ≠ 2 ∧ x0 ≠ 2 ∧ True) → (True) → ((τ.1 93 32).toInt = x2 ∧ (τ.1 93 33).toInt = x0 ∧ (τ.1 93 34).toInt = x1 ∧ True) → Ok 193 27 96 [.ref 93, .int (Int32.ofInt (x3)), .int (Int32.ofInt 0), v3] [.int (Int32.ofInt 10), .ref 93] τ Q)
    (l1 : ∀ (τ : pm_S) (y : Nat → Int) (v3 : Value), v3.category = 1 → an_GB pm_B τ → FQ [] σ τ → ((2 ≤ x0 ∧ x0 ≤ 2) ∧ ((-2147483648) ≤ x1 ∧ x1 ≤ 2147483647) ∧ (0 ≤ x2 ∧ x2 ≤ 400) ∧ (0 ≤ x3 ∧ x3 ≤ 8) ∧ True) → (x1 ≠ 3 ∧ x1 ≠ 4 ∧ True) → (True) → ((τ.1 93 32).toInt = x2 ∧ (τ.1 93 33).toInt = x0 ∧ (τ.1 93 34).toInt = x1 ∧ True) → Ok 193 27 96 [.ref 93, .int (Int32.ofInt (x3)), .int (Int32.ofInt 0), v3] [.int (Int32.ofInt 10), .ref 93] τ Q)
    (l2 : ∀ (τ : pm_S) (y : Nat → Int) (v3 : Value), v3.category = 1 → an_GB pm_B τ → FQ [] σ τ → ((2 ≤ x0 ∧ x0 ≤ 2) ∧ (3 ≤ x1 ∧ x1 ≤ 3) ∧ (0 ≤ x2 ∧ x2 ≤ 400) ∧ (0 ≤ x3 ∧ x3 ≤ 8) ∧ True) → (x1 ≠ 4 ∧ True) → (True) → ((τ.1 93 32).toInt = x2 ∧ (τ.1 93 33).toInt = x0 ∧ (τ.1 93 34).toInt = x1 ∧ True) → Ok 193 27 82 [.ref 93, .int (Int32.ofInt (x3)), .int (Int32.ofInt 0), v3] [.int (Int32.ofInt 10), .ref 93] τ Q)
    (l3 : ∀ (τ : pm_S) (y : Nat → Int) (v3 : Value), v3.category = 1 → an_GB pm_B τ → FQ [] σ τ → ((2 ≤ x0 ∧ x0 ≤ 2) ∧ (4 ≤ x1 ∧ x1 ≤ 4) ∧ (0 ≤ x2 ∧ x2 ≤ 400) ∧ (0 ≤ x3 ∧ x3 ≤ 8) ∧ True) → (True) → (True) → ((τ.1 93 32).toInt = x2 ∧ (τ.1 93 33).toInt = x0 ∧ (τ.1 93 34).toInt = x1 ∧ True) → Ok 193 27 67 [.ref 93, .int (Int32.ofInt (x3)), .int (Int32.ofInt 0), v3] [.int (Int32.ofInt 10), .ref 93] τ Q)
    : Ok 193 27 7 [.ref 93, .int (Int32.ofInt (x3)), .int (Int32.ofInt 0), v3] [] σ Q := by
  refine an_seg (B := pm_B) (F := []) (T := []) (S := []) (fun _ h => absurd h List.not_mem_nil) (k := 193) (d := 26) (cs := [67, 82, 96]) 35 7 4 [(0, 0, 4), (1, (-2147483648), 2147483647), (2, 0, 400), (3, 0, 8)] [(93, (1, 0, 33), (0, 0, 0)), (93, (1, 0, 34), (0, 1, 0)), (93, (1, 0, 32), (0, 2, 0))] [(2, 93, 0), (0, 3, 0), (1, 0, 0), (5, 0, 0)] [] [(96, [(2, 93, 0), (0, 3, 0), (1, 0, 0), (5, 0, 0)], [(1, 0, 10), (2, 93, 0)], [(0, 0, 4), (1, (-2147483648), 2147483647), (2, 0, 400), (3, 0, 8)], [(3, 0, 0, 2), (3, 0, 0, 2)], [], [(93, (1, 0, 32), (0, 2, 0)), (93, (1, 0, 33), (0, 0, 0)), (93, (1, 0, 34), (0, 1, 0))]),
    (96, [(2, 93, 0), (0, 3, 0), (1, 0, 0), (5, 0, 0)], [(1, 0, 10), (2, 93, 0)], [(0, 2, 2), (1, (-2147483648), 2147483647), (2, 0, 400), (3, 0, 8)], [(3, 1, 1, 3), (3, 1, 1, 4)], [], [(93, (1, 0, 32), (0, 2, 0)), (93, (1, 0, 33), (0, 0, 0)), (93, (1, 0, 34), (0, 1, 0))]),
    (82, [(2, 93, 0), (0, 3, 0), (1, 0, 0), (5, 0, 0)], [(1, 0, 10), (2, 93, 0)], [(0, 2, 2), (1, 3, 3), (2, 0, 400), (3, 0, 8)], [(3, 1, 1, 4)], [], [(93, (1, 0, 32), (0, 2, 0)), (93, (1, 0, 33), (0, 0, 0)), (93, (1, 0, 34), (0, 1, 0))]),
    (67, [(2, 93, 0), (0, 3, 0), (1, 0, 0), (5, 0, 0)], [(1, 0, 10), (2, 93, 0)], [(0, 2, 2), (1, 4, 4), (2, 0, 400), (3, 0, 8)], [], [], [(93, (1, 0, 32), (0, 2, 0)), (93, (1, 0, 33), (0, 0, 0)), (93, (1, 0, 34), (0, 1, 0))])] (by decide +kernel) (ρ0 := (fun s => [x0, x1, x2, x3].getD s 0)) hB eF eC ⟨rfl, ⟨rfl, ⟨rfl, ⟨hv3, trivial⟩⟩⟩⟩ trivial ?_
  refine List.forall_mem_cons.mpr ⟨?_, List.forall_mem_cons.mpr ⟨?_, List.forall_mem_cons.mpr ⟨?_, List.forall_mem_cons.mpr ⟨?_, fun _ h => absurd h List.not_mem_nil⟩⟩⟩⟩
  · intro ρ τ Lc stc hx g1 g2 g3 g4 g5 g6 g7 g8
    have e0 : ρ 0 = x0 := hx 0 (by decide)
    have e1 : ρ 1 = x1 := hx 1 (by decide)
    have e2 : ρ 2 = x2 := hx 2 (by decide)
    have e3 : ρ 3 = x3 := hx 3 (by decide)
    subst e0
    subst e1
    subst e2
    subst e3
    have g7 := g7 (by decide)
    match Lc, stc, g7, g8 with
    | [v0, v1, v2, v3], [w0, w1], ⟨hv0, hv1, hv2, hv3, _⟩, ⟨hw0, hw1, _⟩ =>
      cases hv0
      cases hv1
      cases hv2
      cases hw0
      cases hw1
      exact l0 τ ρ v3 hv3 g1 g2 g3 g4 g5 g6
  · intro ρ τ Lc stc hx g1 g2 g3 g4 g5 g6 g7 g8
    have e0 : ρ 0 = x0 := hx 0 (by decide)
    have e1 : ρ 1 = x1 := hx 1 (by decide)
    have e2 : ρ 2 = x2 := hx 2 (by decide)
    have e3 : ρ 3 = x3 := hx 3 (by decide)
    subst e0
    subst e1
    subst e2
    subst e3
    have g7 := g7 (by decide)
    match Lc, stc, g7, g8 with
    | [v0, v1, v2, v3], [w0, w1], ⟨hv0, hv1, hv2, hv3, _⟩, ⟨hw0, hw1, _⟩ =>
      cases hv0
      cases hv1
      cases hv2
      cases hw0
      cases hw1
      exact l1 τ ρ v3 hv3 g1 g2 g3 g4 g5 g6
  · intro ρ τ Lc stc hx g1 g2 g3 g4 g5 g6 g7 g8
    have e0 : ρ 0 = x0 := hx 0 (by decide)
    have e1 : ρ 1 = x1 := hx 1 (by decide)
    have e2 : ρ 2 = x2 := hx 2 (by decide)
    have e3 : ρ 3 = x3 := hx 3 (by decide)
    subst e0
    subst e1
    subst e2
    subst e3
    have g7 := g7 (by decide)
    match Lc, stc, g7, g8 with
    | [v0, v1, v2, v3], [w0, w1], ⟨hv0, hv1, hv2, hv3, _⟩, ⟨hw0, hw1, _⟩ =>
      cases hv0
      cases hv1
      cases hv2
      cases hw0
      cases hw1
      exact l2 τ ρ v3 hv3 g1 g2 g3 g4 g5 g6
  · intro ρ τ Lc stc hx g1 g2 g3 g4 g5 g6 g7 g8
    have e0 : ρ 0 = x0 := hx 0 (by decide)
    have e1 : ρ 1 = x1 := hx 1 (by decide)
    have e2 : ρ 2 = x2 := hx 2 (by decide)
    have e3 : ρ 3 = x3 := hx 3 (by decide)
    subst e0
    subst e1
    subst e2
    subst e3
    have g7 := g7 (by decide)
    match Lc, stc, g7, g8 with
    | [v0, v1, v2, v3], [w0, w1], ⟨hv0, hv1, hv2, hv3, _⟩, ⟨hw0, hw1, _⟩ =>
      cases hv0
      cases hv1
      cases hv2
      cases hw0
      cases hw1
      exact l3 τ ρ v3 hv3 g1 g2 g3 g4 g5 g6
set_option maxRecDepth 100000 in
theorem mq_y68 {σ : pm_S} {Q : Option Value → pm_S → Prop} (x0 : Int) (v3 : Value) (hv3 : v3.category = 1) (hB : an_GB pm_B σ) (eF : (0 ≤ x0 ∧ x0 ≤ 8) ∧ True)
    (l0 : ∀ (τ : pm_S) (y : Nat → Int) (v3 : Value), v3.category = 1 → an_GB pm_B τ → FQ [] σ τ → ((0 ≤ x0 ∧ x0 ≤ 8) ∧ True) → (True) → (True) → (True) → Ok 193 27 70 [.ref 93, .int (Int32.ofInt (x0)), .int (Int32.ofInt 0), v3] [.int (Int32.ofInt 10), .ref 93] τ Q)
    : Ok 193 27 68 [.ref 93, .int (Int32.ofInt (x0)), .int (Int32.ofInt 0), v3] [] σ Q := by
  refine an_seg (B := pm_B) (F := []) (T := []) (S := []) (fun _ h => absurd h List.not_mem_nil) (k := 193) (d := 26) (cs := [70]) 4 68 1 [(0, 0, 8)] [] [(2, 93, 0), (0, 0, 0), (1, 0, 0), (5, 0, 0)] [] [(70, [(2, 93, 0), (0, 0, 0), (1, 0, 0), (5, 0, 0)], [(1, 0, 10), (2, 93, 0)], [(0, 0, 8)], [], [], [])] (by decide +kernel) (ρ0 := (fun s => [x0].getD s 0)) hB eF trivial ⟨rfl, ⟨rfl, ⟨rfl, ⟨hv3, trivial⟩⟩⟩⟩ trivial ?_
  refine List.forall_mem_cons.mpr ⟨?_, fun _ h => absurd h List.not_mem_nil⟩
  · intro ρ τ Lc stc hx g1 g2 g3 g4 g5 g6 g7 g8
    have e0 : ρ 0 = x0 := hx 0 (by decide)
    subst e0
    have g7 := g7 (by decide)
    match Lc, stc, g7, g8 with
    | [v0, v1, v2, v3], [w0, w1], ⟨hv0, hv1, hv2, hv3, _⟩, ⟨hw0, hw1, _⟩ =>
      cases hv0
      cases hv1
      cases hv2
      cases hw0
      cases hw1
      exact l0 τ ρ v3 hv3 g1 g2 g3 g4 g5 g6
set_option maxRecDepth 100000 in
theorem mq_y71 {σ : pm_S} {Q : Option Value → pm_S → Prop} (x0 : Int) (v3 : Value) (hv3 : v3.category = 1) (hB : an_GB pm_B σ) (eF : (0 ≤ x0 ∧ x0 ≤ 8) ∧ True)
    (l0 : ∀ (τ : pm_S) (y : Nat → Int) (v3 : Value), v3.category = 1 → an_GB pm_B τ → FQ [] σ τ → ((0 ≤ x0 ∧ x0 ≤ 8) ∧ True) → (True) → (True) → (True) → Ok 193 27 72 [.ref 93, .int (Int32.ofInt (x0)), .int (Int32.ofInt 0), v3] [.ref 93] τ Q)
    : Ok 193 27 71 [.ref 93, .int (Int32.ofInt (x0)), .int (Int32.ofInt 0), v3] [] σ Q := by
  refine an_seg (B := pm_B) (F := []) (T := []) (S := []) (fun _ h => absurd h List.not_mem_nil) (k := 193) (d := 26) (cs := [72]) 3 71 1 [(0, 0, 8)] [] [(2, 93, 0), (0, 0, 0), (1, 0, 0), (5, 0, 0)] [] [(72, [(2, 93, 0), (0, 0, 0), (1, 0, 0), (5, 0, 0)], [(2, 93, 0)], [(0, 0, 8)], [], [], [])] (by decide +kernel) (ρ0 := (fun s => [x0].getD s 0)) hB eF trivial ⟨rfl, ⟨rfl, ⟨rfl, ⟨hv3, trivial⟩⟩⟩⟩ trivial ?_
  refine List.forall_mem_cons.mpr ⟨?_, fun _ h => absurd h List.not_mem_nil⟩
  · intro ρ τ Lc stc hx g1 g2 g3 g4 g5 g6 g7 g8
    have e0 : ρ 0 = x0 := hx 0 (by decide)
    subst e0
    have g7 := g7 (by decide)
    match Lc, stc, g7, g8 with
    | [v0, v1, v2, v3], [w0], ⟨hv0, hv1, hv2, hv3, _⟩, ⟨hw0, _⟩ =>
      cases hv0
      cases hv1
      cases hv2
      cases hw0
      exact l0 τ ρ v3 hv3 g1 g2 g3 g4 g5 g6
set_option maxRecDepth 100000 in
theorem mq_y73 {σ : pm_S} {Q : Option Value → pm_S → Prop} (x0 : Int) (v2 : Value) (v3 : Value) (hv2 : v2.category = 1) (hv3 : v3.category = 1) (hB : an_GB pm_B σ) (eF : (0 ≤ x0 ∧ x0 ≤ 8) ∧ True)
    (l0 : ∀ (τ : pm_S) (y : Nat → Int) (v3 : Value), v3.category = 1 → an_GB pm_B τ → FQ [] σ τ → ((0 ≤ x0 ∧ x0 ≤ 8) ∧ True) → (True) → (True) → (True) → Ok 193 27 7 [.ref 93, .int (Int32.ofInt (x0)), .int (Int32.ofInt 1), v3] [] τ Q)
    : Ok 193 27 73 [.ref 93, .int (Int32.ofInt (x0)), v2, v3] [] σ Q := by
  refine an_seg (B := pm_B) (F := []) (T := []) (S := []) (fun _ h => absurd h List.not_mem_nil) (k := 193) (d := 26) (cs := [7]) 5 73 1 [(0, 0, 8)] [] [(2, 93, 0), (0, 0, 0), (5, 0, 0), (5, 0, 0)] [] [(7, [(2, 93, 0), (0, 0, 0), (1, 0, 1), (5, 0, 0)], [], [(0, 0, 8)], [], [], [])] (by decide +kernel) (ρ0 := (fun s => [x0].getD s 0)) hB eF trivial ⟨rfl, ⟨rfl, ⟨hv2, ⟨hv3, trivial⟩⟩⟩⟩ trivial ?_
  refine List.forall_mem_cons.mpr ⟨?_, fun _ h => absurd h List.not_mem_nil⟩
  · intro ρ τ Lc stc hx g1 g2 g3 g4 g5 g6 g7 g8
    have e0 : ρ 0 = x0 := hx 0 (by decide)
    subst e0
    have g7 := g7 (by decide)
    match Lc, stc, g7, g8 with
    | [v0, v1, v2, v3], [], ⟨hv0, hv1, hv2, hv3, _⟩, _ =>
      cases hv0
      cases hv1
      cases hv2
      exact l0 τ ρ v3 hv3 g1 g2 g3 g4 g5 g6
set_option maxRecDepth 100000 in
theorem mq_y83 {σ : pm_S} {Q : Option Value → pm_S → Prop} (x0 : Int) (v3 : Value) (hv3 : v3.category = 1) (hB : an_GB pm_B σ) (eF : (0 ≤ x0 ∧ x0 ≤ 8) ∧ True)
    (l0 : ∀ (τ : pm_S) (y : Nat → Int) (v3 : Value), v3.category = 1 → an_GB pm_B τ → FQ [] σ τ → ((0 ≤ x0 ∧ x0 ≤ 8) ∧ True) → (True) → (True) → (True) → Ok 193 27 85 [.ref 93, .int (Int32.ofInt (x0)), .int (Int32.ofInt 0), v3] [.int (Int32.ofInt 11), .ref 93] τ Q)
    : Ok 193 27 83 [.ref 93, .int (Int32.ofInt (x0)), .int (Int32.ofInt 0), v3] [] σ Q := by
  refine an_seg (B := pm_B) (F := []) (T := []) (S := []) (fun _ h => absurd h List.not_mem_nil) (k := 193) (d := 26) (cs := [85]) 4 83 1 [(0, 0, 8)] [] [(2, 93, 0), (0, 0, 0), (1, 0, 0), (5, 0, 0)] [] [(85, [(2, 93, 0), (0, 0, 0), (1, 0, 0), (5, 0, 0)], [(1, 0, 11), (2, 93, 0)], [(0, 0, 8)], [], [], [])] (by decide +kernel) (ρ0 := (fun s => [x0].getD s 0)) hB eF trivial ⟨rfl, ⟨rfl, ⟨rfl, ⟨hv3, trivial⟩⟩⟩⟩ trivial ?_
  refine List.forall_mem_cons.mpr ⟨?_, fun _ h => absurd h List.not_mem_nil⟩
  · intro ρ τ Lc stc hx g1 g2 g3 g4 g5 g6 g7 g8
    have e0 : ρ 0 = x0 := hx 0 (by decide)
    subst e0
    have g7 := g7 (by decide)
    match Lc, stc, g7, g8 with
    | [v0, v1, v2, v3], [w0, w1], ⟨hv0, hv1, hv2, hv3, _⟩, ⟨hw0, hw1, _⟩ =>
      cases hv0
      cases hv1
      cases hv2
      cases hw0
      cases hw1
      exact l0 τ ρ v3 hv3 g1 g2 g3 g4 g5 g6
set_option maxRecDepth 100000 in
theorem mq_y86 {σ : pm_S} {Q : Option Value → pm_S → Prop} (x0 : Int) (v3 : Value) (hv3 : v3.category = 1) (hB : an_GB pm_B σ) (eF : (0 ≤ x0 ∧ x0 ≤ 8) ∧ True)
    (l0 : ∀ (τ : pm_S) (y : Nat → Int) (v3 : Value), v3.category = 1 → an_GB pm_B τ → FQ [] σ τ → ((0 ≤ x0 ∧ x0 ≤ 8) ∧ True) → (True) → (True) → (True) → Ok 193 27 88 [.ref 93, .int (Int32.ofInt (x0)), .int (Int32.ofInt 0), v3] [.int (Int32.ofInt 11), .ref 93] τ Q)
    : Ok 193 27 86 [.ref 93, .int (Int32.ofInt (x0)), .int (Int32.ofInt 0), v3] [] σ Q := by
  refine an_seg (B := pm_B) (F := []) (T := []) (S := []) (fun _ h => absurd h List.not_mem_nil) (k := 193) (d := 26) (cs := [88]) 4 86 1 [(0, 0, 8)] [] [(2, 93, 0), (0, 0, 0), (1, 0, 0), (5, 0, 0)] [] [(88, [(2, 93, 0), (0, 0, 0), (1, 0, 0), (5, 0, 0)], [(1, 0, 11), (2, 93, 0)], [(0, 0, 8)], [], [], [])] (by decide +kernel) (ρ0 := (fun s => [x0].getD s 0)) hB eF trivial ⟨rfl, ⟨rfl, ⟨rfl, ⟨hv3, trivial⟩⟩⟩⟩ trivial ?_
  refine List.forall_mem_cons.mpr ⟨?_, fun _ h => absurd h List.not_mem_nil⟩
  · intro ρ τ Lc stc hx g1 g2 g3 g4 g5 g6 g7 g8
    have e0 : ρ 0 = x0 := hx 0 (by decide)
    subst e0
    have g7 := g7 (by decide)
    match Lc, stc, g7, g8 with
    | [v0, v1, v2, v3], [w0, w1], ⟨hv0, hv1, hv2, hv3, _⟩, ⟨hw0, hw1, _⟩ =>
      cases hv0
      cases hv1
      cases hv2
      cases hw0
      cases hw1
      exact l0 τ ρ v3 hv3 g1 g2 g3 g4 g5 g6
set_option maxRecDepth 100000 in
theorem mq_y89 {σ : pm_S} {Q : Option Value → pm_S → Prop} (x0 : Int) (v3 : Value) (hv3 : v3.category = 1) (hB : an_GB pm_B σ) (eF : (0 ≤ x0 ∧ x0 ≤ 8) ∧ True)
    (l0 : ∀ (τ : pm_S) (y : Nat → Int) (v3 : Value), v3.category = 1 → an_GB pm_B τ → FQ [] σ τ → ((0 ≤ x0 ∧ x0 ≤ 8) ∧ True) → (True) → (True) → (True) → Ok 193 27 90 [.ref 93, .int (Int32.ofInt (x0)), .int (Int32.ofInt 0), v3] [.ref 93] τ Q)
    : Ok 193 27 89 [.ref 93, .int (Int32.ofInt (x0)), .int (Int32.ofInt 0), v3] [] σ Q := by
  refine an_seg (B := pm_B) (F := []) (T := []) (S := []) (fun _ h => absurd h List.not_mem_nil) (k := 193) (d := 26) (cs := [90]) 3 89 1 [(0, 0, 8)] [] [(2, 93, 0), (0, 0, 0), (1, 0, 0), (5, 0, 0)] [] [(90, [(2, 93, 0), (0, 0, 0), (1, 0, 0), (5, 0, 0)], [(2, 93, 0)], [(0, 0, 8)], [], [], [])] (by decide +kernel) (ρ0 := (fun s => [x0].getD s 0)) hB eF trivial ⟨rfl, ⟨rfl, ⟨rfl, ⟨hv3, trivial⟩⟩⟩⟩ trivial ?_
  refine List.forall_mem_cons.mpr ⟨?_, fun _ h => absurd h List.not_mem_nil⟩
  · intro ρ τ Lc stc hx g1 g2 g3 g4 g5 g6 g7 g8
    have e0 : ρ 0 = x0 := hx 0 (by decide)
    subst e0
    have g7 := g7 (by decide)
    match Lc, stc, g7, g8 with
    | [v0, v1, v2, v3], [w0], ⟨hv0, hv1, hv2, hv3, _⟩, ⟨hw0, _⟩ =>
      cases hv0
      cases hv1
      cases hv2
      cases hw0
      exact l0 τ ρ v3 hv3 g1 g2 g3 g4 g5 g6
set_option maxRecDepth 100000 in
theorem mq_y91 {σ : pm_S} {Q : Option Value → pm_S → Prop} (x0 : Int) (v2 : Value) (v3 : Value) (hv2 : v2.category = 1) (hv3 : v3.category = 1) (hB : an_GB pm_B σ) (eF : (0 ≤ x0 ∧ x0 ≤ 8) ∧ True)
    (l0 : ∀ (τ : pm_S) (y : Nat → Int) (v3 : Value), v3.category = 1 → an_GB pm_B τ → FQ [] σ τ → ((0 ≤ x0 ∧ x0 ≤ 8) ∧ True) → (True) → (True) → (True) → Ok 193 27 7 [.ref 93, .int (Int32.ofInt (x0)), .int (Int32.ofInt 1), v3] [] τ Q)
    : Ok 193 27 91 [.ref 93, .int (Int32.ofInt (x0)), v2, v3] [] σ Q := by
  refine an_seg (B := pm_B) (F := []) (T := []) (S := []) (fun _ h => absurd h List.not_mem_nil) (k := 193) (d := 26) (cs := [7]) 5 91 1 [(0, 0, 8)] [] [(2, 93, 0), (0, 0, 0), (5, 0, 0), (5, 0, 0)] [] [(7, [(2, 93, 0), (0, 0, 0), (1, 0, 1), (5, 0, 0)], [], [(0, 0, 8)], [], [], [])] (by decide +kernel) (ρ0 := (fun s => [x0].getD s 0)) hB eF trivial ⟨rfl, ⟨rfl, ⟨hv2, ⟨hv3, trivial⟩⟩⟩⟩ trivial ?_
  refine List.forall_mem_cons.mpr ⟨?_, fun _ h => absurd h List.not_mem_nil⟩
  · intro ρ τ Lc stc hx g1 g2 g3 g4 g5 g6 g7 g8
    have e0 : ρ 0 = x0 := hx 0 (by decide)
    subst e0
    have g7 := g7 (by decide)
    match Lc, stc, g7, g8 with
    | [v0, v1, v2, v3], [], ⟨hv0, hv1, hv2, hv3, _⟩, _ =>
      cases hv0
      cases hv1
      cases hv2
      exact l0 τ ρ v3 hv3 g1 g2 g3 g4 g5 g6
set_option maxRecDepth 100000 in
theorem mq_y97 {σ : pm_S} {Q : Option Value → pm_S → Prop} (x0 : Int) (v3 : Value) (hv3 : v3.category = 1) (hB : an_GB pm_B σ) (eF : (0 ≤ x0 ∧ x0 ≤ 8) ∧ True)
    (l0 : ∀ (τ : pm_S) (y : Nat → Int) (v3 : Value), v3.category = 1 → an_GB pm_B τ → FQ [] σ τ → ((0 ≤ x0 ∧ x0 ≤ 8) ∧ True) → (True) → (True) → (True) → Ok 193 27 99 [.ref 93, .int (Int32.ofInt (x0)), .int (Int32.ofInt 0), v3] [.int (Int32.ofInt 11), .ref 93] τ Q)
    : Ok 193 27 97 [.ref 93, .int (Int32.ofInt (x0)), .int (Int32.ofInt 0), v3] [] σ Q := by
  refine an_seg (B := pm_B) (F := []) (T := []) (S := []) (fun _ h => absurd h List.not_mem_nil) (k := 193) (d := 26) (cs := [99]) 4 97 1 [(0, 0, 8)] [] [(2, 93, 0), (0, 0, 0), (1, 0, 0), (5, 0, 0)] [] [(99, [(2, 93, 0), (0, 0, 0), (1, 0, 0), (5, 0, 0)], [(1, 0, 11), (2, 93, 0)], [(0, 0, 8)], [], [], [])] (by decide +kernel) (ρ0 := (fun s => [x0].getD s 0)) hB eF trivial ⟨rfl, ⟨rfl, ⟨rfl, ⟨hv3, trivial⟩⟩⟩⟩ trivial ?_
  refine List.forall_mem_cons.mpr ⟨?_, fun _ h => absurd h List.not_mem_nil⟩
  · intro ρ τ Lc stc hx g1 g2 g3 g4 g5 g6 g7 g8
    have e0 : ρ 0 = x0 := hx 0 (by decide)
    subst e0
    have g7 := g7 (by decide)
    match Lc, stc, g7, g8 with
    | [v0, v1, v2, v3], [w0, w1], ⟨hv0, hv1, hv2, hv3, _⟩, ⟨hw0, hw1, _⟩ =>
      cases hv0
      cases hv1
      cases hv2
      cases hw0
      cases hw1
      exact l0 τ ρ v3 hv3 g1 g2 g3 g4 g5 g6
set_option maxRecDepth 100000 in
theorem mq_y100 {σ : pm_S} {Q : Option Value → pm_S → Prop} (x0 x1 x2 x3 : Int) (v3 : Value) (hv3 : v3.category = 1) (hB : an_GB pm_B σ) (eF : (0 ≤ x0 ∧ x0 ≤ 4) ∧ ((-2147483648) ≤ x1 ∧ x1 ≤ 2147483647) ∧ (0 ≤ x2 ∧ x2 ≤ 400) ∧ (0 ≤ x3 ∧ x3 ≤ 8) ∧ True) (eC : (σ.1 93 33).toInt = x0 ∧ (σ.1 93 34).toInt = x1 ∧ (σ.1 93 32).toInt = x2 ∧ True)
    (l0 : ∀ (τ : pm_S) (y : Nat → Int), an_GB pm_B τ → FQ [(93, 46), (93, 47)] σ τ → ((0 ≤ x0 ∧ x0 ≤ 3) ∧ ((-2147483648) ≤ x1 ∧ x1 ≤ 2147483647) ∧ (0 ≤ x2 ∧ x2 ≤ 400) ∧ (1 ≤ x3 ∧ x3 ≤ 8) ∧ True) → (True) → (True) → ((τ.1 93 32).toInt = x2 ∧ (τ.1 93 33).toInt = x0 ∧ (τ.1 93 34).toInt = x1 ∧ (τ.1 93 46).toInt = 1 ∧ (τ.1 93 47).toInt = x2 ∧ True) → Q (some (.int (Int32.ofInt (-1)))) τ)
    (l1 : ∀ (τ : pm_S) (y : Nat → Int), an_GB pm_B τ → FQ [(93, 46), (93, 47)] σ τ → ((4 ≤ x0 ∧ x0 ≤ 4) ∧ ((-2147483648) ≤ x1 ∧ x1 ≤ 2147483647) ∧ (0 ≤ x2 ∧ x2 ≤ 400) ∧ (1 ≤ x3 ∧ x3 ≤ 8) ∧ True) → (x1 ≠ 41 ∧ True) → (True) → ((τ.1 93 32).toInt = x2 ∧ (τ.1 93 33).toInt = x0 ∧ (τ.1 93 34).toInt = x1 ∧ (τ.1 93 46).toInt = 1 ∧ (τ.1 93 47).toInt = x2 ∧ True) → Q (some (.int (Int32.ofInt (-1)))) τ)
    (l2 : ∀ (τ : pm_S) (y : Nat → Int) (v3 : Value), v3.category = 1 → an_GB pm_B τ → FQ [(93, 46), (93, 47)] σ τ → ((4 ≤ x0 ∧ x0 ≤ 4) ∧ (41 ≤ x1 ∧ x1 ≤ 41) ∧ (0 ≤ x2 ∧ x2 ≤ 400) ∧ (1 ≤ x3 ∧ x3 ≤ 8) ∧ True) → (True) → (True) → ((τ.1 93 32).toInt = x2 ∧ (τ.1 93 33).toInt = x0 ∧ (τ.1 93 34).toInt = x1 ∧ True) → Ok 193 27 112 [.ref 93, .int (Int32.ofInt (x3)), .int (Int32.ofInt 0), v3] [] τ Q)
    (l3 : ∀ (τ : pm_S) (y : Nat → Int), an_GB pm_B τ → FQ [(93, 46), (93, 47)] σ τ → ((0 ≤ x0 ∧ x0 ≤ 4) ∧ ((-2147483648) ≤ x1 ∧ x1 ≤ 2147483647) ∧ (0 ≤ x2 ∧ x2 ≤ 400) ∧ (0 ≤ x3 ∧ x3 ≤ 0) ∧ True) → (True) → (True) → ((τ.1 93 32).toInt = x2 ∧ (τ.1 93 33).toInt = x0 ∧ (τ.1 93 34).toInt = x1 ∧ True) → Q (some (.int (Int32.ofInt 0))) τ)
    : Ok 193 27 100 [.ref 93, .int (Int32.ofInt (x3)), .int (Int32.ofInt 0), v3] [] σ Q := by
  refine an_seg (B := pm_B) (F := [(93, 46), (93, 47)]) (T := []) (S := []) (fun _ h => absurd h List.not_mem_nil) (k := 193) (d := 26) (cs := [112]) 31 100 4 [(0, 0, 4), (1, (-2147483648), 2147483647), (2, 0, 400), (3, 0, 8)] [(93, (1, 0, 33), (0, 0, 0)), (93, (1, 0, 34), (0, 1, 0)), (93, (1, 0, 32), (0, 2, 0))] [(2, 93, 0), (0, 3, 0), (1, 0, 0), (5, 0, 0)] [] [(9999, [], [(1, 0, (-1))], [(0, 0, 3), (1, (-2147483648), 2147483647), (2, 0, 400), (3, 1, 8)], [], [], [(93, (1, 0, 32), (0, 2, 0)), (93, (1, 0, 33), (0, 0, 0)), (93, (1, 0, 34), (0, 1, 0)), (93, (1, 0, 46), (1, 0, 1)), (93, (1, 0, 47), (0, 2, 0))]),
    (9999, [], [(1, 0, (-1))], [(0, 4, 4), (1, (-2147483648), 2147483647), (2, 0, 400), (3, 1, 8)], [(3, 1, 1, 41)], [], [(93, (1, 0, 32), (0, 2, 0)), (93, (1, 0, 33), (0, 0, 0)), (93, (1, 0, 34), (0, 1, 0)), (93, (1, 0, 46), (1, 0, 1)), (93, (1, 0, 47), (0, 2, 0))]),
    (112, [(2, 93, 0), (0, 3, 0), (1, 0, 0), (5, 0, 0)], [], [(0, 4, 4), (1, 41, 41), (2, 0, 400), (3, 1, 8)], [], [], [(93, (1, 0, 32), (0, 2, 0)), (93, (1, 0, 33), (0, 0, 0)), (93, (1, 0, 34), (0, 1, 0))]),
    (9999, [], [(1, 0, 0)], [(0, 0, 4), (1, (-2147483648), 2147483647), (2, 0, 400), (3, 0, 0)], [], [], [(93, (1, 0, 32), (0, 2, 0)), (93, (1, 0, 33), (0, 0, 0)), (93, (1, 0, 34), (0, 1, 0))])] (by decide +kernel) (ρ0 := (fun s => [x0, x1, x2, x3].getD s 0)) hB eF eC ⟨rfl, ⟨rfl, ⟨rfl, ⟨hv3, trivial⟩⟩⟩⟩ trivial ?_
  refine List.forall_mem_cons.mpr ⟨?_, List.forall_mem_cons.mpr ⟨?_, List.forall_mem_cons.mpr ⟨?_, List.forall_mem_cons.mpr ⟨?_, fun _ h => absurd h List.not_mem_nil⟩⟩⟩⟩
  · intro ρ τ Lc stc hx g1 g2 g3 g4 g5 g6 g7 g8
    have e0 : ρ 0 = x0 := hx 0 (by decide)
    have e1 : ρ 1 = x1 := hx 1 (by decide)
    have e2 : ρ 2 = x2 := hx 2 (by decide)
    have e3 : ρ 3 = x3 := hx 3 (by decide)
    subst e0
    subst e1
    subst e2
    subst e3
    match stc, g8 with
    | [_], ⟨h, _⟩ => cases h; exact l0 τ ρ g1 g2 g3 g4 g5 g6
  · intro ρ τ Lc stc hx g1 g2 g3 g4 g5 g6 g7 g8
    have e0 : ρ 0 = x0 := hx 0 (by decide)
    have e1 : ρ 1 = x1 := hx 1 (by decide)
    have e2 : ρ 2 = x2 := hx 2 (by decide)
    have e3 : ρ 3 = x3 := hx 3 (by decide)
    subst e0
    subst e1
    subst e2
    subst e3
    match stc, g8 with
    | [_], ⟨h, _⟩ => cases h; exact l1 τ ρ g1 g2 g3 g4 g5 g6
  · intro ρ τ Lc stc hx g1 g2 g3 g4 g5 g6 g7 g8
    have e0 : ρ 0 = x0 := hx 0 (by decide)
    have e1 : ρ 1 = x1 := hx 1 (by decide)
    have e2 : ρ 2 = x2 := hx 2 (by decide)
    have e3 : ρ 3 = x3 := hx 3 (by decide)
    subst e0
    subst e1
    subst e2
    subst e3
    have g7 := g7 (by decide)
    match Lc, stc, g7, g8 with
    | [v0, v1, v2, v3], [], ⟨hv0, hv1, hv2, hv3, _⟩, _ =>
      cases hv0
      cases hv1
      cases hv2
      exact l2 τ ρ v3 hv3 g1 g2 g3 g4 g5 g6
  · intro ρ τ Lc stc hx g1 g2 g3 g4 g5 g6 g7 g8
    have e0 : ρ 0 = x0 := hx 0 (by decide)
    have e1 : ρ 1 = x1 := hx 1 (by decide)
    have e2 : ρ 2 = x2 := hx 2 (by decide)
    have e3 : ρ 3 = x3 := hx 3 (by decide)
    subst e0
    subst e1
    subst e2
    subst e3
    match stc, g8 with
    | [_], ⟨h, _⟩ => cases h; exact l3 τ ρ g1 g2 g3 g4 g5 g6
set_option maxRecDepth 100000 in
theorem mq_y112 {σ : pm_S} {Q : Option Value → pm_S → Prop} (x0 x1 x2 : Int) (v3 : Value) (hv3 : v3.category = 1) (hB : an_GB pm_B σ) (eF : (1 ≤ x0 ∧ x0 ≤ 8) ∧ (1 ≤ x1 ∧ x1 ≤ 40) ∧ (1 ≤ x2 ∧ x2 ≤ 8) ∧ True) (eC : (σ.1 93 45).toInt = x1 ∧ (σ.1 93 43).toInt = x2 ∧ True)
    (l0 : ∀ (τ : pm_S) (y : Nat → Int) (v3 : Value), v3.category = 1 → an_GB pm_B τ → FQ [(93, 45), (93, 43)] σ τ → ((1 ≤ x0 ∧ x0 ≤ 8) ∧ (1 ≤ x1 ∧ x1 ≤ 40) ∧ (1 ≤ x2 ∧ x2 ≤ 8) ∧ True) → (True) → (True) → ((τ.1 93 43).toInt = x2 + (-1) ∧ (τ.1 93 45).toInt = x1 + (-1) ∧ True) → Ok 193 27 130 [.ref 93, .int (Int32.ofInt (x0 + (-1))), .int (Int32.ofInt 0), v3] [.int (Int32.ofInt 9), .ref 93] τ Q)
    : Ok 193 27 112 [.ref 93, .int (Int32.ofInt (x0)), .int (Int32.ofInt 0), v3] [] σ Q := by
  refine an_seg (B := pm_B) (F := [(93, 45), (93, 43)]) (T := []) (S := []) (fun _ h => absurd h List.not_mem_nil) (k := 193) (d := 26) (cs := [130]) 20 112 3 [(0, 1, 8), (1, 1, 40), (2, 1, 8)] [(93, (1, 0, 45), (0, 1, 0)), (93, (1, 0, 43), (0, 2, 0))] [(2, 93, 0), (0, 0, 0), (1, 0, 0), (5, 0, 0)] [] [(130, [(2, 93, 0), (0, 0, (-1)), (1, 0, 0), (5, 0, 0)], [(1, 0, 9), (2, 93, 0)], [(0, 1, 8), (1, 1, 40), (2, 1, 8)], [], [], [(93, (1, 0, 43), (0, 2, (-1))), (93, (1, 0, 45), (0, 1, (-1)))])] (by decide +kernel) (ρ0 := (fun s => [x0, x1, x2].getD s 0)) hB eF eC ⟨rfl, ⟨rfl, ⟨rfl, ⟨hv3, trivial⟩⟩⟩⟩ trivial ?_
  refine List.forall_mem_cons.mpr ⟨?_, fun _ h => absurd h List.not_mem_nil⟩
  · intro ρ τ Lc stc hx g1 g2 g3 g4 g5 g6 g7 g8
    have e0 : ρ 0 = x0 := hx 0 (by decide)
    have e1 : ρ 1 = x1 := hx 1 (by decide)
    have e2 : ρ 2 = x2 := hx 2 (by decide)
    subst e0
    subst e1
    subst e2
    have g7 := g7 (by decide)
    match Lc, stc, g7, g8 with
    | [v0, v1, v2, v3], [w0, w1], ⟨hv0, hv1, hv2, hv3, _⟩, ⟨hw0, hw1, _⟩ =>
      cases hv0
      cases hv1
      cases hv2
      cases hw0
      cases hw1
      exact l0 τ ρ v3 hv3 g1 g2 g3 g4 g5 g6
set_option maxRecDepth 100000 in
theorem mq_y131 {σ : pm_S} {Q : Option Value → pm_S → Prop} (x0 : Int) (v3 : Value) (hv3 : v3.category = 1) (hB : an_GB pm_B σ) (eF : (0 ≤ x0 ∧ x0 ≤ 8) ∧ True)
    (l0 : ∀ (τ : pm_S) (y : Nat → Int) (v3 : Value), v3.category = 1 → an_GB pm_B τ → FQ [] σ τ → ((0 ≤ x0 ∧ x0 ≤ 8) ∧ True) → (True) → (True) → (True) → Ok 193 27 132 [.ref 93, .int (Int32.ofInt (x0)), .int (Int32.ofInt 0), v3] [.ref 93] τ Q)
    : Ok 193 27 131 [.ref 93, .int (Int32.ofInt (x0)), .int (Int32.ofInt 0), v3] [] σ Q := by
  refine an_seg (B := pm_B) (F := []) (T := []) (S := []) (fun _ h => absurd h List.not_mem_nil) (k := 193) (d := 26) (cs := [132]) 3 131 1 [(0, 0, 8)] [] [(2, 93, 0), (0, 0, 0), (1, 0, 0), (5, 0, 0)] [] [(132, [(2, 93, 0), (0, 0, 0), (1, 0, 0), (5, 0, 0)], [(2, 93, 0)], [(0, 0, 8)], [], [], [])] (by decide +kernel) (ρ0 := (fun s => [x0].getD s 0)) hB eF trivial ⟨rfl, ⟨rfl, ⟨rfl, ⟨hv3, trivial⟩⟩⟩⟩ trivial ?_
  refine List.forall_mem_cons.mpr ⟨?_, fun _ h => absurd h List.not_mem_nil⟩
  · intro ρ τ Lc stc hx g1 g2 g3 g4 g5 g6 g7 g8
    have e0 : ρ 0 = x0 := hx 0 (by decide)
    subst e0
    have g7 := g7 (by decide)
    match Lc, stc, g7, g8 with
    | [v0, v1, v2, v3], [w0], ⟨hv0, hv1, hv2, hv3, _⟩, ⟨hw0, _⟩ =>
      cases hv0
      cases hv1
      cases hv2
      cases hw0
      exact l0 τ ρ v3 hv3 g1 g2 g3 g4 g5 g6
set_option maxRecDepth 100000 in
theorem mq_y133 {σ : pm_S} {Q : Option Value → pm_S → Prop} (x0 : Int) (v3 : Value) (hv3 : v3.category = 1) (hB : an_GB pm_B σ) (eF : (0 ≤ x0 ∧ x0 ≤ 8) ∧ True)
    (l0 : ∀ (τ : pm_S) (y : Nat → Int) (v3 : Value), v3.category = 1 → an_GB pm_B τ → FQ [] σ τ → ((0 ≤ x0 ∧ x0 ≤ 8) ∧ True) → (True) → (True) → (True) → Ok 193 27 7 [.ref 93, .int (Int32.ofInt (x0)), .int (Int32.ofInt 0), v3] [] τ Q)
    : Ok 193 27 133 [.ref 93, .int (Int32.ofInt (x0)), .int (Int32.ofInt 0), v3] [] σ Q := by
  refine an_seg (B := pm_B) (F := []) (T := []) (S := []) (fun _ h => absurd h List.not_mem_nil) (k := 193) (d := 26) (cs := [7]) 3 133 1 [(0, 0, 8)] [] [(2, 93, 0), (0, 0, 0), (1, 0, 0), (5, 0, 0)] [] [(7, [(2, 93, 0), (0, 0, 0), (1, 0, 0), (5, 0, 0)], [], [(0, 0, 8)], [], [], [])] (by decide +kernel) (ρ0 := (fun s => [x0].getD s 0)) hB eF trivial ⟨rfl, ⟨rfl, ⟨rfl, ⟨hv3, trivial⟩⟩⟩⟩ trivial ?_
  refine List.forall_mem_cons.mpr ⟨?_, fun _ h => absurd h List.not_mem_nil⟩
  · intro ρ τ Lc stc hx g1 g2 g3 g4 g5 g6 g7 g8
    have e0 : ρ 0 = x0 := hx 0 (by decide)
    subst e0
    have g7 := g7 (by decide)
    match Lc, stc, g7, g8 with
    | [v0, v1, v2, v3], [], ⟨hv0, hv1, hv2, hv3, _⟩, _ =>
      cases hv0
      cases hv1
      cases hv2
      exact l0 τ ρ v3 hv3 g1 g2 g3 g4 g5 g6
set_option maxRecDepth 100000 in
theorem mq_x0 {σ : pm_S} {Q : Option Value → pm_S → Prop} (v1 : Value) (v2 : Value) (hv1 : v1.category = 1) (hv2 : v2.category = 1) (hB : an_GB pm_B σ)
    (l0 : ∀ (τ : pm_S) (y : Nat → Int) (v2 : Value), v2.category = 1 → an_GB pm_B τ → FQ [] σ τ → (True) → (True) → (True) → (True) → Ok 194 29 2 [.ref 93, .int (Int32.ofInt 0), v2] [] τ Q)
    : Ok 194 29 0 [.ref 93, v1, v2] [] σ Q := by
  refine an_seg (B := pm_B) (F := []) (T := []) (S := []) (fun _ h => absurd h List.not_mem_nil) (k := 194) (d := 28) (cs := [2]) 4 0 0 [] [] [(2, 93, 0), (5, 0, 0), (5, 0, 0)] [] [(2, [(2, 93, 0), (1, 0, 0), (5, 0, 0)], [], [], [], [], [])] (by decide +kernel) (ρ0 := (fun s => [].getD s 0)) hB trivial trivial ⟨rfl, ⟨hv1, ⟨hv2, trivial⟩⟩⟩ trivial ?_
  refine List.forall_mem_cons.mpr ⟨?_, fun _ h => absurd h List.not_mem_nil⟩
  · intro ρ τ Lc stc hx g1 g2 g3 g4 g5 g6 g7 g8
    have g7 := g7 (by decide)
    match Lc, stc, g7, g8 with
    | [v0, v1, v2], [], ⟨hv0, hv1, hv2, _⟩, _ =>
      cases hv0
      cases hv1
      exact l0 τ ρ v2 hv2 g1 g2 g3 g4 g5 g6
set_option maxRecDepth 100000 in
theorem mq_x2 {σ : pm_S} {Q : Option Value → pm_S → Prop} (x0 x1 x2 x3 : Int) (v2 : Value) (hv2 : v2.category = 1) (hB : an_GB pm_B σ) (eF : (0 ≤ x0 ∧ x0 ≤ 4) ∧ ((-2147483648) ≤ x1 ∧ x1 ≤ 2147483647) ∧ (0 ≤ x2 ∧ x2 ≤ 400) ∧ (0 ≤ x3 ∧ x3 ≤ 16) ∧ True) (eC : (σ.1 93 33).toInt = x0 ∧ (σ.1 93 34).toInt = x1 ∧ (σ.1 93 32).toInt = x2 ∧ True)
    (l0 : ∀ (τ : pm_S) (y : Nat → Int), an_GB pm_B τ → FQ [(93, 46), (93, 47)] σ τ → ((1 ≤ x0 ∧ x0 ≤ 4) ∧ ((-2147483648) ≤ x1 ∧ x1 ≤ 2147483647) ∧ (0 ≤ x2 ∧ x2 ≤ 400) ∧ (0 ≤ x3 ∧ x3 ≤ 16) ∧ True) → (x0 ≠ 2 ∧ True) → (True) → ((τ.1 93 32).toInt = x2 ∧ (τ.1 93 33).toInt = x0 ∧ (τ.1 93 34).toInt = x1 ∧ (τ.1 93 46).toInt = 1 ∧ (τ.1 93 47).toInt = x2 ∧ True) → Q (some (.int (Int32.ofInt (-1)))) τ)
    (l1 : ∀ (τ : pm_S) (y : Nat → Int), an_GB pm_B τ → FQ [(93, 46), (93, 47)] σ τ → ((0 ≤ x0 ∧ x0 ≤ 0) ∧ ((-2147483648) ≤ x1 ∧ x1 ≤ 2147483647) ∧ (0 ≤ x2 ∧ x2 ≤ 400) ∧ (0 ≤ x3 ∧ x3 ≤ 16) ∧ True) → (x0 ≠ 2 ∧ True) → (True) → ((τ.1 93 32).toInt = x2 ∧ (τ.1 93 33).toInt = x0 ∧ (τ.1 93 34).toInt = x1 ∧ True) → Q (some (.int (Int32.ofInt (x3)))) τ)
    (l2 : ∀ (τ : pm_S) (y : Nat → Int), an_GB pm_B τ → FQ [(93, 46), (93, 47)] σ τ → ((2 ≤ x0 ∧ x0 ≤ 2) ∧ (2 ≤ x1 ∧ x1 ≤ 2147483647) ∧ (0 ≤ x2 ∧ x2 ≤ 400) ∧ (0 ≤ x3 ∧ x3 ≤ 16) ∧ True) → (True) → (True) → ((τ.1 93 32).toInt = x2 ∧ (τ.1 93 33).toInt = x0 ∧ (τ.1 93 34).toInt = x1 ∧ (τ.1 93 46).toInt = 1 ∧ (τ.1 93 47).toInt = x2 ∧ True) → Q (some (.int (Int32.ofInt (-1)))) τ)
    (l3 : ∀ (τ : pm_S) (y : Nat → Int), an_GB pm_B τ → FQ [(93, 46), (93, 47)] σ τ → ((2 ≤ x0 ∧ x0 ≤ 2) ∧ ((-2147483648) ≤ x1 ∧ x1 ≤ 1) ∧ (0 ≤ x2 ∧ x2 ≤ 400) ∧ (0 ≤ x3 ∧ x3 ≤ 15) ∧ True) → (True) → (True) → ((τ.1 93 32).toInt = x2 ∧ (τ.1 93 33).toInt = x0 ∧ (τ.1 93 34).toInt = x1 ∧ True) → Ok 194 29 26 [.ref 93, .int (Int32.ofInt (x3)), .int (Int32.ofInt (x3 + 16))] [.int (Int32.ofInt (x1)), .int (Int32.ofInt (x3 + 16)), .ref 116] τ Q)
    (l4 : ∀ (τ : pm_S) (y : Nat → Int), an_GB pm_B τ → FQ [(93, 46), (93, 47)] σ τ → ((2 ≤ x0 ∧ x0 ≤ 2) ∧ ((-2147483648) ≤ x1 ∧ x1 ≤ 1) ∧ (0 ≤ x2 ∧ x2 ≤ 400) ∧ (16 ≤ x3 ∧ x3 ≤ 16) ∧ True) → (True) → (True) → ((τ.1 93 32).toInt = x2 ∧ (τ.1 93 33).toInt = x0 ∧ (τ.1 93 34).toInt = x1 ∧ (τ.1 93 46).toInt = 3 ∧ (τ.1 93 47).toInt = x2 ∧ True) → Q (some (.int (Int32.ofInt (-1)))) τ)
    : Ok 194 29 2 [.ref 93, .int (Int32.ofInt (x3)), v2] [] σ Q := by
  refine an_seg (B := pm_B) (F := [(93, 46), (93, 47)]) (T := []) (S := []) (fun _ h => absurd h List.not_mem_nil) (k := 194) (d := 28) (cs := [26]) 26 2 4 [(0, 0, 4), (1, (-2147483648), 2147483647), (2, 0, 400), (3, 0, 16)] [(93, (1, 0, 33), (0, 0, 0)), (93, (1, 0, 34), (0, 1, 0)), (93, (1, 0, 32), (0, 2, 0))] [(2, 93, 0), (0, 3, 0), (5, 0, 0)] [] [(9999, [], [(1, 0, (-1))], [(0, 1, 4), (1, (-2147483648), 2147483647), (2, 0, 400), (3, 0, 16)], [(3, 0, 0, 2)], [], [(93, (1, 0, 32), (0, 2, 0)), (93, (1, 0, 33), (0, 0, 0)), (93, (1, 0, 34), (0, 1, 0)), (93, (1, 0, 46), (1, 0, 1)), (93, (1, 0, 47), (0, 2, 0))]),
    (9999, [], [(0, 3, 0)], [(0, 0, 0), (1, (-2147483648), 2147483647), (2, 0, 400), (3, 0, 16)], [(3, 0, 0, 2)], [], [(93, (1, 0, 32), (0, 2, 0)), (93, (1, 0, 33), (0, 0, 0)), (93, (1, 0, 34), (0, 1, 0))]),
    (9999, [], [(1, 0, (-1))], [(0, 2, 2), (1, 2, 2147483647), (2, 0, 400), (3, 0, 16)], [], [], [(93, (1, 0, 32), (0, 2, 0)), (93, (1, 0, 33), (0, 0, 0)), (93, (1, 0, 34), (0, 1, 0)), (93, (1, 0, 46), (1, 0, 1)), (93, (1, 0, 47), (0, 2, 0))]),
    (26, [(2, 93, 0), (0, 3, 0), (0, 3, 16)], [(0, 1, 0), (0, 3, 16), (2, 116, 0)], [(0, 2, 2), (1, (-2147483648), 1), (2, 0, 400), (3, 0, 15)], [], [], [(93, (1, 0, 32), (0, 2, 0)), (93, (1, 0, 33), (0, 0, 0)), (93, (1, 0, 34), (0, 1, 0))]),
    (9999, [], [(1, 0, (-1))], [(0, 2, 2), (1, (-2147483648), 1), (2, 0, 400), (3, 16, 16)], [], [], [(93, (1, 0, 32), (0, 2, 0)), (93, (1, 0, 33), (0, 0, 0)), (93, (1, 0, 34), (0, 1, 0)), (93, (1, 0, 46), (1, 0, 3)), (93, (1, 0, 47), (0, 2, 0))])] (by decide +kernel) (ρ0 := (fun s => [x0, x1, x2, x3].getD s 0)) hB eF eC ⟨rfl, ⟨rfl, ⟨hv2, trivial⟩⟩⟩ trivial ?_
  refine List.forall_mem_cons.mpr ⟨?_, List.forall_mem_cons.mpr ⟨?_, List.forall_mem_cons.mpr ⟨?_, List.forall_mem_cons.mpr ⟨?_, List.forall_mem_cons.mpr ⟨?_, fun _ h => absurd h List.not_mem_nil⟩⟩⟩⟩⟩
  · intro ρ τ Lc stc hx g1 g2 g3 g4 g5 g6 g7 g8
    have e0 : ρ 0 = x0 := hx 0 (by decide)
    have e1 : ρ 1 = x1 := hx 1 (by decide)
    have e2 : ρ 2 = x2 := hx 2 (by decide)
    have e3 : ρ 3 = x3 := hx 3 (by decide)
    subst e0
    subst e1
    subst e2
    subst e3
    match stc, g8 with
    | [_], ⟨h, _⟩ => cases h; exact l0 τ ρ g1 g2 g3 g4 g5 g6
  · intro ρ τ Lc stc hx g1 g2 g3 g4 g5 g6 g7 g8
    have e0 : ρ 0 = x0 := hx 0 (by decide)
    have e1 : ρ 1 = x1 := hx 1 (by decide)
    have e2 : ρ 2 = x2 := hx 2 (by decide)
    have e3 : ρ 3 = x3 := hx 3 (by decide)
    subst e0
    subst e1
    subst e2
    subst e3
    match stc, g8 with
    | [_], ⟨h, _⟩ => cases h; exact l1 τ ρ g1 g2 g3 g4 g5 g6
  · intro ρ τ Lc stc hx g1 g2 g3 g4 g5 g6 g7 g8
    have e0 : ρ 0 = x0 := hx 0 (by decide)
    have e1 : ρ 1 = x1 := hx 1 (by decide)
    have e2 : ρ 2 = x2 := hx 2 (by decide)
    have e3 : ρ 3 = x3 := hx 3 (by decide)
    subst e0
    subst e1
    subst e2
    subst e3
    match stc, g8 with
    | [_], ⟨h, _⟩ => cases h; exact l2 τ ρ g1 g2 g3 g4 g5 g6
  · intro ρ τ Lc stc hx g1 g2 g3 g4 g5 g6 g7 g8
    have e0 : ρ 0 = x0 := hx 0 (by decide)
    have e1 : ρ 1 = x1 := hx 1 (by decide)
    have e2 : ρ 2 = x2 := hx 2 (by decide)
    have e3 : ρ 3 = x3 := hx 3 (by decide)
    subst e0
    subst e1
    subst e2
    subst e3
    have g7 := g7 (by decide)
    match Lc, stc, g7, g8 with
    | [v0, v1, v2], [w0, w1, w2], ⟨hv0, hv1, hv2, _⟩, ⟨hw0, hw1, hw2, _⟩ =>
      cases hv0
      cases hv1
      cases hv2
      cases hw0
      cases hw1
      cases hw2
      exact l3 τ ρ  g1 g2 g3 g4 g5 g6
  · intro ρ τ Lc stc hx g1 g2 g3 g4 g5 g6 g7 g8
    have e0 : ρ 0 = x0 := hx 0 (by decide)
    have e1 : ρ 1 = x1 := hx 1 (by decide)
    have e2 : ρ 2 = x2 := hx 2 (by decide)
    have e3 : ρ 3 = x3 := hx 3 (by decide)
    subst e0
    subst e1
    subst e2
    subst e3
    match stc, g8 with
    | [_], ⟨h, _⟩ => cases h; exact l4 τ ρ g1 g2 g3 g4 g5 g6
set_option maxRecDepth 100000 in
theorem mq_x27 {σ : pm_S} {Q : Option Value → pm_S → Prop} (x0 x1 : Int)  (hB : an_GB pm_B σ) (eF : (0 ≤ x0 ∧ x0 ≤ 15) ∧ (16 ≤ x1 ∧ x1 ≤ 31) ∧ True)
    (l0 : ∀ (τ : pm_S) (y : Nat → Int), an_GB pm_B τ → FQ [] σ τ → ((0 ≤ x0 ∧ x0 ≤ 15) ∧ (16 ≤ x1 ∧ x1 ≤ 31) ∧ True) → (True) → (True) → (True) → Ok 194 29 28 [.ref 93, .int (Int32.ofInt (x0)), .int (Int32.ofInt (x1))] [.ref 93] τ Q)
    : Ok 194 29 27 [.ref 93, .int (Int32.ofInt (x0)), .int (Int32.ofInt (x1))] [] σ Q := by
  refine an_seg (B := pm_B) (F := []) (T := []) (S := []) (fun _ h => absurd h List.not_mem_nil) (k := 194) (d := 28) (cs := [28]) 3 27 2 [(0, 0, 15), (1, 16, 31)] [] [(2, 93, 0), (0, 0, 0), (0, 1, 0)] [] [(28, [(2, 93, 0), (0, 0, 0), (0, 1, 0)], [(2, 93, 0)], [(0, 0, 15), (1, 16, 31)], [], [], [])] (by decide +kernel) (ρ0 := (fun s => [x0, x1].getD s 0)) hB eF trivial ⟨rfl, ⟨rfl, ⟨rfl, trivial⟩⟩⟩ trivial ?_
  refine List.forall_mem_cons.mpr ⟨?_, fun _ h => absurd h List.not_mem_nil⟩
  · intro ρ τ Lc stc hx g1 g2 g3 g4 g5 g6 g7 g8
    have e0 : ρ 0 = x0 := hx 0 (by decide)
    have e1 : ρ 1 = x1 := hx 1 (by decide)
    subst e0
    subst e1
    have g7 := g7 (by decide)
    match Lc, stc, g7, g8 with
    | [v0, v1, v2], [w0], ⟨hv0, hv1, hv2, _⟩, ⟨hw0, _⟩ =>
      cases hv0
      cases hv1
      cases hv2
      cases hw0
      exact l0 τ ρ  g1 g2 g3 g4 g5 g6
set_option maxRecDepth 100000 in
theorem mq_x29 {σ : pm_S} {Q : Option Value → pm_S → Prop} (x0 x1 x2 : Int)  (hB : an_GB pm_B σ) (eF : (0 ≤ x0 ∧ x0 ≤ 15) ∧ (16 ≤ x1 ∧ x1 ≤ 31) ∧ (0 ≤ x2 ∧ x2 ≤ 400) ∧ True) (eC : (σ.1 93 42).toInt = x2 ∧ True)
    (l0 : ∀ (τ : pm_S) (y : Nat → Int), an_GB pm_B τ → FQ [] σ τ → ((0 ≤ x0 ∧ x0 ≤ 15) ∧ (16 ≤ x1 ∧ x1 ≤ 31) ∧ (0 ≤ x2 ∧ x2 ≤ 400) ∧ True) → (True) → (True) → ((τ.1 93 42).toInt = x2 ∧ True) → Ok 194 29 34 [.ref 93, .int (Int32.ofInt (x0)), .int (Int32.ofInt (x1))] [.int (Int32.ofInt (x2)), .int (Int32.ofInt (x1)), .ref 117] τ Q)
    : Ok 194 29 29 [.ref 93, .int (Int32.ofInt (x0)), .int (Int32.ofInt (x1))] [] σ Q := by
  refine an_seg (B := pm_B) (F := []) (T := []) (S := []) (fun _ h => absurd h List.not_mem_nil) (k := 194) (d := 28) (cs := [34]) 7 29 3 [(0, 0, 15), (1, 16, 31), (2, 0, 400)] [(93, (1, 0, 42), (0, 2, 0))] [(2, 93, 0), (0, 0, 0), (0, 1, 0)] [] [(34, [(2, 93, 0), (0, 0, 0), (0, 1, 0)], [(0, 2, 0), (0, 1, 0), (2, 117, 0)], [(0, 0, 15), (1, 16, 31), (2, 0, 400)], [], [], [(93, (1, 0, 42), (0, 2, 0))])] (by decide +kernel) (ρ0 := (fun s => [x0, x1, x2].getD s 0)) hB eF eC ⟨rfl, ⟨rfl, ⟨rfl, trivial⟩⟩⟩ trivial ?_
  refine List.forall_mem_cons.mpr ⟨?_, fun _ h => absurd h List.not_mem_nil⟩
  · intro ρ τ Lc stc hx g1 g2 g3 g4 g5 g6 g7 g8
    have e0 : ρ 0 = x0 := hx 0 (by decide)
    have e1 : ρ 1 = x1 := hx 1 (by decide)
    have e2 : ρ 2 = x2 := hx 2 (by decide)
    subst e0
    subst e1
    subst e2
    have g7 := g7 (by decide)
    match Lc, stc, g7, g8 with
    | [v0, v1, v2], [w0, w1, w2], ⟨hv0, hv1, hv2, _⟩, ⟨hw0, hw1, hw2, _⟩ =>
      cases hv0
      cases hv1
      cases hv2
      cases hw0
      cases hw1
      cases hw2
      exact l0 τ ρ  g1 g2 g3 g4 g5 g6
set_option maxRecDepth 100000 in
theorem mq_x35 {σ : pm_S} {Q : Option Value → pm_S → Prop} (x0 x1 x2 x3 x4 : Int)  (hB : an_GB pm_B σ) (eF : (0 ≤ x0 ∧ x0 ≤ 4) ∧ ((-2147483648) ≤ x1 ∧ x1 ≤ 2147483647) ∧ (0 ≤ x2 ∧ x2 ≤ 400) ∧ (0 ≤ x3 ∧ x3 ≤ 15) ∧ (16 ≤ x4 ∧ x4 ≤ 31) ∧ True) (eC : (σ.1 93 33).toInt = x0 ∧ (σ.1 93 34).toInt = x1 ∧ (σ.1 93 32).toInt = x2 ∧ True)
    (l0 : ∀ (τ : pm_S) (y : Nat → Int), an_GB pm_B τ → FQ [] σ τ → ((0 ≤ x0 ∧ x0 ≤ 4) ∧ ((-2147483648) ≤ x1 ∧ x1 ≤ 2147483647) ∧ (0 ≤ x2 ∧ x2 ≤ 400) ∧ (0 ≤ x3 ∧ x3 ≤ 15) ∧ (16 ≤ x4 ∧ x4 ≤ 31) ∧ True) → (x0 ≠ 2 ∧ True) → (True) → ((τ.1 93 32).toInt = x2 ∧ (τ.1 93 33).toInt = x0 ∧ (τ.1 93 34).toInt = x1 ∧ True) → Ok 194 29 47 [.ref 93, .int (Int32.ofInt (x3)), .int (Int32.ofInt (x4))] [] τ Q)
    (l1 : ∀ (τ : pm_S) (y : Nat → Int), an_GB pm_B τ → FQ [] σ τ → ((2 ≤ x0 ∧ x0 ≤ 2) ∧ ((-2147483648) ≤ x1 ∧ x1 ≤ 2147483647) ∧ (0 ≤ x2 ∧ x2 ≤ 400) ∧ (0 ≤ x3 ∧ x3 ≤ 15) ∧ (16 ≤ x4 ∧ x4 ≤ 31) ∧ True) → (x1 ≠ 2 ∧ True) → (True) → ((τ.1 93 32).toInt = x2 ∧ (τ.1 93 33).toInt = x0 ∧ (τ.1 93 34).toInt = x1 ∧ True) → Ok 194 29 47 [.ref 93, .int (Int32.ofInt (x3)), .int (Int32.ofInt (x4))] [] τ Q)
    (l2 : ∀ (τ : pm_S) (y : Nat → Int), an_GB pm_B τ → FQ [] σ τ → ((2 ≤ x0 ∧ x0 ≤ 2) ∧ (2 ≤ x1 ∧ x1 ≤ 2) ∧ (0 ≤ x2 ∧ x2 ≤ 400) ∧ (0 ≤ x3 ∧ x3 ≤ 15) ∧ (16 ≤ x4 ∧ x4 ≤ 31) ∧ True) → (True) → (True) → ((τ.1 93 32).toInt = x2 ∧ (τ.1 93 33).toInt = x0 ∧ (τ.1 93 34).toInt = x1 ∧ True) → Ok 194 29 40 [.ref 93, .int (Int32.ofInt (x3)), .int (Int32.ofInt (x4))] [.ref 93] τ Q)
    : Ok 194 29 35 [.ref 93, .int (Int32.ofInt (x3)), .int (Int32.ofInt (x4))] [] σ Q := by
  refine an_seg (B := pm_B) (F := []) (T := []) (S := []) (fun _ h => absurd h List.not_mem_nil) (k := 194) (d := 28) (cs := [40, 47]) 18 35 5 [(0, 0, 4), (1, (-2147483648), 2147483647), (2, 0, 400), (3, 0, 15), (4, 16, 31)] [(93, (1, 0, 33), (0, 0, 0)), (93, (1, 0, 34), (0, 1, 0)), (93, (1, 0, 32), (0, 2, 0))] [(2, 93, 0), (0, 3, 0), (0, 4, 0)] [] [(47, [(2, 93, 0), (0, 3, 0), (0, 4, 0)], [], [(0, 0, 4), (1, (-2147483648), 2147483647), (2, 0, 400), (3, 0, 15), (4, 16, 31)], [(3, 0, 0, 2)], [], [(93, (1, 0, 32), (0, 2, 0)), (93, (1, 0, 33), (0, 0, 0)), (93, (1, 0, 34), (0, 1, 0))]),
    (47, [(2, 93, 0), (0, 3, 0), (0, 4, 0)], [], [(0, 2, 2), (1, (-2147483648), 2147483647), (2, 0, 400), (3, 0, 15), (4, 16, 31)], [(3, 1, 1, 2)], [], [(93, (1, 0, 32), (0, 2, 0)), (93, (1, 0, 33), (0, 0, 0)), (93, (1, 0, 34), (0, 1, 0))]),
    (40, [(2, 93, 0), (0, 3, 0), (0, 4, 0)], [(2, 93, 0)], [(0, 2, 2), (1, 2, 2), (2, 0, 400), (3, 0, 15), (4, 16, 31)], [], [], [(93, (1, 0, 32), (0, 2, 0)), (93, (1, 0, 33), (0, 0, 0)), (93, (1, 0, 34), (0, 1, 0))])] (by decide +kernel) (ρ0 := (fun s => [x0, x1, x2, x3, x4].getD s 0)) hB eF eC ⟨rfl, ⟨rfl, ⟨rfl, trivial⟩⟩⟩ trivial ?_
  refine List.forall_mem_cons.mpr ⟨?_, List.forall_mem_cons.mpr ⟨?_, List.forall_mem_cons.mpr ⟨?_, fun _ h => absurd h List.not_mem_nil⟩⟩⟩
  · intro ρ τ Lc stc hx g1 g2 g3 g4 g5 g6 g7 g8
    have e0 : ρ 0 = x0 := hx 0 (by decide)
    have e1 : ρ 1 = x1 := hx 1 (by decide)
    have e2 : ρ 2 = x2 := hx 2 (by decide)
    have e3 : ρ 3 = x3 := hx 3 (by decide)
    have e4 : ρ 4 = x4 := hx 4 (by decide)
    subst e0
    subst e1
    subst e2
    subst e3
    subst e4
    have g7 := g7 (by decide)
    match Lc, stc, g7, g8 with
    | [v0, v1, v2], [], ⟨hv0, hv1, hv2, _⟩, _ =>
      cases hv0
      cases hv1
      cases hv2
      exact l0 τ ρ  g1 g2 g3 g4 g5 g6
  · intro ρ τ Lc stc hx g1 g2 g3 g4 g5 g6 g7 g8
    have e0 : ρ 0 = x0 := hx 0 (by decide)
    have e1 : ρ 1 = x1 := hx 1 (by decide)
    have e2 : ρ 2 = x2 := hx 2 (by decide)
    have e3 : ρ 3 = x3 := hx 3 (by decide)
    have e4 : ρ 4 = x4 := hx 4 (by decide)
    subst e0
    subst e1
    subst e2
    subst e3
    subst e4
    have g7 := g7 (by decide)
    match Lc, stc, g7, g8 with
    | [v0, v1, v2], [], ⟨hv0, hv1, hv2, _⟩, _ =>
      cases hv0
      cases hv1
      cases hv2
      exact l1 τ ρ  g1 g2 g3 g4 g5 g6
  · intro ρ τ Lc stc hx g1 g2 g3 g4 g5 g6 g7 g8
    have e0 : ρ 0 = x0 := hx 0 (by decide)
    have e1 : ρ 1 = x1 := hx 1 (by decide)
    have e2 : ρ 2 = x2 := hx 2 (by decide)
    have e3 : ρ 3 = x3 := hx 3 (by decide)
    have e4 : ρ 4 = x4 := hx 4 (by decide)
    subst e0
    subst e1
    subst e2
    subst e3
    subst e4
    have g7 := g7 (by decide)
    match Lc, stc, g7, g8 with
    | [v0, v1, v2], [w0], ⟨hv0, hv1, hv2, _⟩, ⟨hw0, _⟩ =>
      cases hv0
      cases hv1
      cases hv2
      cases hw0
      exact l2 τ ρ  g1 g2 g3 g4 g5 g6
set_option maxRecDepth 100000 in
theorem mq_x41 {σ : pm_S} {Q : Option Value → pm_S → Prop} (x0 x1 : Int)  (hB : an_GB pm_B σ) (eF : (0 ≤ x0 ∧ x0 ≤ 15) ∧ (16 ≤ x1 ∧ x1 ≤ 31) ∧ True)
    (l0 : ∀ (τ : pm_S) (y : Nat → Int), an_GB pm_B τ → FQ [] σ τ → ((0 ≤ x0 ∧ x0 ≤ 15) ∧ (16 ≤ x1 ∧ x1 ≤ 31) ∧ True) → (True) → (True) → (True) → Ok 194 29 42 [.ref 93, .int (Int32.ofInt (x0)), .int (Int32.ofInt (x1))] [.ref 93] τ Q)
    : Ok 194 29 41 [.ref 93, .int (Int32.ofInt (x0)), .int (Int32.ofInt (x1))] [] σ Q := by
  refine an_seg (B := pm_B) (F := []) (T := []) (S := []) (fun _ h => absurd h List.not_mem_nil) (k := 194) (d := 28) (cs := [42]) 3 41 2 [(0, 0, 15), (1, 16, 31)] [] [(2, 93, 0), (0, 0, 0), (0, 1, 0)] [] [(42, [(2, 93, 0), (0, 0, 0), (0, 1, 0)], [(2, 93, 0)], [(0, 0, 15), (1, 16, 31)], [], [], [])] (by decide +kernel) (ρ0 := (fun s => [x0, x1].getD s 0)) hB eF trivial ⟨rfl, ⟨rfl, ⟨rfl, trivial⟩⟩⟩ trivial ?_
  refine List.forall_mem_cons.mpr ⟨?_, fun _ h => absurd h List.not_mem_nil⟩
  · intro ρ τ Lc stc hx g1 g2 g3 g4 g5 g6 g7 g8
    have e0 : ρ 0 = x0 := hx 0 (by decide)
    have e1 : ρ 1 = x1 := hx 1 (by decide)
    subst e0
    subst e1
    have g7 := g7 (by decide)
    match Lc, stc, g7, g8 with
    | [v0, v1, v2], [w0], ⟨hv0, hv1, hv2, _⟩, ⟨hw0, _⟩ =>
      cases hv0
      cases hv1
      cases hv2
      cases hw0
      exact l0 τ ρ  g1 g2 g3 g4 g5 g6
set_option maxRecDepth 100000 in
theorem mq_x43 {σ : pm_S} {Q : Option Value → pm_S → Prop} (x0 x1 x2 : Int)  (hB : an_GB pm_B σ) (eF : ((-1) ≤ x0 ∧ x0 ≤ 0) ∧ (0 ≤ x1 ∧ x1 ≤ 15) ∧ (16 ≤ x2 ∧ x2 ≤ 31) ∧ True)
    (l0 : ∀ (τ : pm_S) (y : Nat → Int), an_GB pm_B τ → FQ [] σ τ → ((0 ≤ x0 ∧ x0 ≤ 0) ∧ (0 ≤ x1 ∧ x1 ≤ 15) ∧ (16 ≤ x2 ∧ x2 ≤ 31) ∧ True) → (True) → (True) → (True) → Ok 194 29 47 [.ref 93, .int (Int32.ofInt (x1)), .int (Int32.ofInt (x2))] [] τ Q)
    (l1 : ∀ (τ : pm_S) (y : Nat → Int), an_GB pm_B τ → FQ [] σ τ → (((-1) ≤ x0 ∧ x0 ≤ (-1)) ∧ (0 ≤ x1 ∧ x1 ≤ 15) ∧ (16 ≤ x2 ∧ x2 ≤ 31) ∧ True) → (True) → (True) → (True) → Q (some (.int (Int32.ofInt (-1)))) τ)
    : Ok 194 29 43 [.ref 93, .int (Int32.ofInt (x1)), .int (Int32.ofInt (x2))] [.int (Int32.ofInt (x0))] σ Q := by
  refine an_seg (B := pm_B) (F := []) (T := []) (S := []) (fun _ h => absurd h List.not_mem_nil) (k := 194) (d := 28) (cs := [47]) 6 43 3 [(0, (-1), 0), (1, 0, 15), (2, 16, 31)] [] [(2, 93, 0), (0, 1, 0), (0, 2, 0)] [(0, 0, 0)] [(47, [(2, 93, 0), (0, 1, 0), (0, 2, 0)], [], [(0, 0, 0), (1, 0, 15), (2, 16, 31)], [], [], []),
    (9999, [], [(1, 0, (-1))], [(0, (-1), (-1)), (1, 0, 15), (2, 16, 31)], [], [], [])] (by decide +kernel) (ρ0 := (fun s => [x0, x1, x2].getD s 0)) hB eF trivial ⟨rfl, ⟨rfl, ⟨rfl, trivial⟩⟩⟩ ⟨rfl, trivial⟩ ?_
  refine List.forall_mem_cons.mpr ⟨?_, List.forall_mem_cons.mpr ⟨?_, fun _ h => absurd h List.not_mem_nil⟩⟩
  · intro ρ τ Lc stc hx g1 g2 g3 g4 g5 g6 g7 g8
    have e0 : ρ 0 = x0 := hx 0 (by decide)
    have e1 : ρ 1 = x1 := hx 1 (by decide)
    have e2 : ρ 2 = x2 := hx 2 (by decide)
    subst e0
    subst e1
    subst e2
    have g7 := g7 (by decide)
    match Lc, stc, g7, g8 with
    | [v0, v1, v2], [], ⟨hv0, hv1, hv2, _⟩, _ =>
      cases hv0
      cases hv1
      cases hv2
      exact l0 τ ρ  g1 g2 g3 g4 g5 g6
  · intro ρ τ Lc stc hx g1 g2 g3 g4 g5 g6 g7 g8
    have e0 : ρ 0 = x0 := hx 0 (by decide)
    have e1 : ρ 1 = x1 := hx 1 (by decide)
    have e2 : ρ 2 = x2 := hx 2 (by decide)
    subst e0
    subst e1
    subst e2
    match stc, g8 with
    | [_], ⟨h, _⟩ => cases h; exact l1 τ ρ g1 g2 g3 g4 g5 g6
set_option maxRecDepth 100000 in
theorem mq_x47 {σ : pm_S} {Q : Option Value → pm_S → Prop} (x0 x1 x2 : Int)  (hB : an_GB pm_B σ) (eF : (0 ≤ x0 ∧ x0 ≤ 15) ∧ (16 ≤ x1 ∧ x1 ≤ 31) ∧ (0 ≤ x2 ∧ x2 ≤ 400) ∧ True) (eC : (σ.1 93 42).toInt = x2 ∧ True)
    (l0 : ∀ (τ : pm_S) (y : Nat → Int), an_GB pm_B τ → FQ [] σ τ → ((0 ≤ x0 ∧ x0 ≤ 15) ∧ (16 ≤ x1 ∧ x1 ≤ 31) ∧ (0 ≤ x2 ∧ x2 ≤ 400) ∧ True) → (True) → (True) → ((τ.1 93 42).toInt = x2 ∧ True) → Ok 194 29 52 [.ref 93, .int (Int32.ofInt (x0)), .int (Int32.ofInt (x1))] [.int (Int32.ofInt (x2)), .int (Int32.ofInt (x1)), .ref 118] τ Q)
    : Ok 194 29 47 [.ref 93, .int (Int32.ofInt (x0)), .int (Int32.ofInt (x1))] [] σ Q := by
  refine an_seg (B := pm_B) (F := []) (T := []) (S := []) (fun _ h => absurd h List.not_mem_nil) (k := 194) (d := 28) (cs := [52]) 7 47 3 [(0, 0, 15), (1, 16, 31), (2, 0, 400)] [(93, (1, 0, 42), (0, 2, 0))] [(2, 93, 0), (0, 0, 0), (0, 1, 0)] [] [(52, [(2, 93, 0), (0, 0, 0), (0, 1, 0)], [(0, 2, 0), (0, 1, 0), (2, 118, 0)], [(0, 0, 15), (1, 16, 31), (2, 0, 400)], [], [], [(93, (1, 0, 42), (0, 2, 0))])] (by decide +kernel) (ρ0 := (fun s => [x0, x1, x2].getD s 0)) hB eF eC ⟨rfl, ⟨rfl, ⟨rfl, trivial⟩⟩⟩ trivial ?_
  refine List.forall_mem_cons.mpr ⟨?_, fun _ h => absurd h List.not_mem_nil⟩
  · intro ρ τ Lc stc hx g1 g2 g3 g4 g5 g6 g7 g8
    have e0 : ρ 0 = x0 := hx 0 (by decide)
    have e1 : ρ 1 = x1 := hx 1 (by decide)
    have e2 : ρ 2 = x2 := hx 2 (by decide)
    subst e0
    subst e1
    subst e2
    have g7 := g7 (by decide)
    match Lc, stc, g7, g8 with
    | [v0, v1, v2], [w0, w1, w2], ⟨hv0, hv1, hv2, _⟩, ⟨hw0, hw1, hw2, _⟩ =>
      cases hv0
      cases hv1
      cases hv2
      cases hw0
      cases hw1
      cases hw2
      exact l0 τ ρ  g1 g2 g3 g4 g5 g6
set_option maxRecDepth 100000 in
theorem mq_x53 {σ : pm_S} {Q : Option Value → pm_S → Prop} (x0 x1 x2 x3 x4 : Int)  (hB : an_GB pm_B σ) (eF : (0 ≤ x0 ∧ x0 ≤ 4) ∧ ((-2147483648) ≤ x1 ∧ x1 ≤ 2147483647) ∧ (0 ≤ x2 ∧ x2 ≤ 400) ∧ (0 ≤ x3 ∧ x3 ≤ 15) ∧ (16 ≤ x4 ∧ x4 ≤ 31) ∧ True) (eC : (σ.1 93 33).toInt = x0 ∧ (σ.1 93 34).toInt = x1 ∧ (σ.1 93 32).toInt = x2 ∧ True)
    (l0 : ∀ (τ : pm_S) (y : Nat → Int), an_GB pm_B τ → FQ [(93, 46), (93, 47)] σ τ → ((0 ≤ x0 ∧ x0 ≤ 3) ∧ ((-2147483648) ≤ x1 ∧ x1 ≤ 2147483647) ∧ (0 ≤ x2 ∧ x2 ≤ 400) ∧ (0 ≤ x3 ∧ x3 ≤ 15) ∧ (16 ≤ x4 ∧ x4 ≤ 31) ∧ True) → (True) → (True) → ((τ.1 93 32).toInt = x2 ∧ (τ.1 93 33).toInt = x0 ∧ (τ.1 93 34).toInt = x1 ∧ (τ.1 93 46).toInt = 1 ∧ (τ.1 93 47).toInt = x2 ∧ True) → Q (some (.int (Int32.ofInt (-1)))) τ)
    (l1 : ∀ (τ : pm_S) (y : Nat → Int), an_GB pm_B τ → FQ [(93, 46), (93, 47)] σ τ → ((4 ≤ x0 ∧ x0 ≤ 4) ∧ ((-2147483648) ≤ x1 ∧ x1 ≤ 2147483647) ∧ (0 ≤ x2 ∧ x2 ≤ 400) ∧ (0 ≤ x3 ∧ x3 ≤ 15) ∧ (16 ≤ x4 ∧ x4 ≤ 31) ∧ True) → (x1 ≠ 59 ∧ True) → (True) → ((τ.1 93 32).toInt = x2 ∧ (τ.1 93 33).toInt = x0 ∧ (τ.1 93 34).toInt = x1 ∧ (τ.1 93 46).toInt = 1 ∧ (τ.1 93 47).toInt = x2 ∧ True) → Q (some (.int (Int32.ofInt (-1)))) τ)
    (l2 : ∀ (τ : pm_S) (y : Nat → Int), an_GB pm_B τ → FQ [(93, 46), (93, 47)] σ τ → ((4 ≤ x0 ∧ x0 ≤ 4) ∧ (59 ≤ x1 ∧ x1 ≤ 59) ∧ (0 ≤ x2 ∧ x2 ≤ 400) ∧ (0 ≤ x3 ∧ x3 ≤ 15) ∧ (16 ≤ x4 ∧ x4 ≤ 31) ∧ True) → (True) → (True) → ((τ.1 93 32).toInt = x2 ∧ (τ.1 93 33).toInt = x0 ∧ (τ.1 93 34).toInt = x1 ∧ True) → Ok 194 29 62 [.ref 93, .int (Int32.ofInt (x3)), .int (Int32.ofInt (x4))] [.ref 93] τ Q)
    : Ok 194 29 53 [.ref 93, .int (Int32.ofInt (x3)), .int (Int32.ofInt (x4))] [] σ Q := by
  refine an_seg (B := pm_B) (F := [(93, 46), (93, 47)]) (T := []) (S := []) (fun _ h => absurd h List.not_mem_nil) (k := 194) (d := 28) (cs := [62]) 29 53 5 [(0, 0, 4), (1, (-2147483648), 2147483647), (2, 0, 400), (3, 0, 15), (4, 16, 31)] [(93, (1, 0, 33), (0, 0, 0)), (93, (1, 0, 34), (0, 1, 0)), (93, (1, 0, 32), (0, 2, 0))] [(2, 93, 0), (0, 3, 0), (0, 4, 0)] [] [(9999, [], [(1, 0, (-1))], [(0, 0, 3), (1, (-2147483648), 2147483647), (2, 0, 400), (3, 0, 15), (4, 16, 31)], [], [], [(93, (1, 0, 32), (0, 2, 0)), (93, (1, 0, 33), (0, 0, 0)), (93, (1, 0, 34), (0, 1, 0)), (93, (1, 0, 46), (1, 0, 1)), (93, (1, 0, 47), (0, 2, 0))]),
    (9999, [], [(1, 0, (-1))], [(0, 4, 4), (1, (-2147483648), 2147483647), (2, 0, 400), (3, 0, 15), (4, 16, 31)], [(3, 1, 1, 59)], [], [(93, (1, 0, 32), (0, 2, 0)), (93, (1, 0, 33), (0, 0, 0)), (93, (1, 0, 34), (0, 1, 0)), (93, (1, 0, 46), (1, 0, 1)), (93, (1, 0, 47), (0, 2, 0))]),
    (62, [(2, 93, 0), (0, 3, 0), (0, 4, 0)], [(2, 93, 0)], [(0, 4, 4), (1, 59, 59), (2, 0, 400), (3, 0, 15), (4, 16, 31)], [], [], [(93, (1, 0, 32), (0, 2, 0)), (93, (1, 0, 33), (0, 0, 0)), (93, (1, 0, 34), (0, 1, 0))])] (by decide +kernel) (ρ0 := (fun s => [x0, x1, x2, x3, x4].getD s 0)) hB eF eC ⟨rfl, ⟨rfl, ⟨rfl, trivial⟩⟩⟩ trivial ?_
  refine List.forall_mem_cons.mpr ⟨?_, List.forall_mem_cons.mpr ⟨?_, List.forall_mem_cons.mpr ⟨?_, fun _ h => absurd h List.not_mem_nil⟩⟩⟩
  · intro ρ τ Lc stc hx g1 g2 g3 g4 g5 g6 g7 g8
    have e0 : ρ 0 = x0 := hx 0 (by decide)
    have e1 : ρ 1 = x1 := hx 1 (by decide)
    have e2 : ρ 2 = x2 := hx 2 (by decide)
    have e3 : ρ 3 = x3 := hx 3 (by decide)
    have e4 : ρ 4 = x4 := hx 4 (by decide)
    subst e0
    subst e1
    subst e2
    subst e3
    subst e4
    match stc, g8 with
    | [_], ⟨h, _⟩ => cases h; exact l0 τ ρ g1 g2 g3 g4 g5 g6
  · intro ρ τ Lc stc hx g1 g2 g3 g4 g5 g6 g7 g8
    have e0 : ρ 0 = x0 := hx 0 (by decide)
    have e1 : ρ 1 = x1 := hx 1 (by decide)
    have e2 : ρ 2 = x2 := hx 2 (by decide)
    have e3 : ρ 3 = x3 := hx 3 (by decide)
    have e4 : ρ 4 = x4 := hx 4 (by decide)
    subst e0
    subst e1
    subst e2
    subst e3
    subst e4
    match stc, g8 with
    | [_], ⟨h, _⟩ => cases h; exact l1 τ ρ g1 g2 g3 g4 g5 g6
  · intro ρ τ Lc stc hx g1 g2 g3 g4 g5 g6 g7 g8
    have e0 : ρ 0 = x0 := hx 0 (by decide)
    have e1 : ρ 1 = x1 := hx 1 (by decide)
    have e2 : ρ 2 = x2 := hx 2 (by decide)
    have e3 : ρ 3 = x3 := hx 3 (by decide)
    have e4 : ρ 4 = x4 := hx 4 (by decide)
    subst e0
    subst e1
    subst e2
    subst e3
    subst e4
    have g7 := g7 (by decide)
    match Lc, stc, g7, g8 with
    | [v0, v1, v2], [w0], ⟨hv0, hv1, hv2, _⟩, ⟨hw0, _⟩ =>
      cases hv0
      cases hv1
      cases hv2
      cases hw0
      exact l2 τ ρ  g1 g2 g3 g4 g5 g6
set_option maxRecDepth 100000 in
theorem mq_x63 {σ : pm_S} {Q : Option Value → pm_S → Prop} (x0 x1 : Int)  (hB : an_GB pm_B σ) (eF : (0 ≤ x0 ∧ x0 ≤ 15) ∧ (16 ≤ x1 ∧ x1 ≤ 31) ∧ True)
    (l0 : ∀ (τ : pm_S) (y : Nat → Int), an_GB pm_B τ → FQ [] σ τ → ((0 ≤ x0 ∧ x0 ≤ 15) ∧ (16 ≤ x1 ∧ x1 ≤ 31) ∧ True) → (True) → (True) → (True) → Ok 194 29 2 [.ref 93, .int (Int32.ofInt (x0 + 1)), .int (Int32.ofInt (x1))] [] τ Q)
    : Ok 194 29 63 [.ref 93, .int (Int32.ofInt (x0)), .int (Int32.ofInt (x1))] [] σ Q := by
  refine an_seg (B := pm_B) (F := []) (T := []) (S := []) (fun _ h => absurd h List.not_mem_nil) (k := 194) (d := 28) (cs := [2]) 7 63 2 [(0, 0, 15), (1, 16, 31)] [] [(2, 93, 0), (0, 0, 0), (0, 1, 0)] [] [(2, [(2, 93, 0), (0, 0, 1), (0, 1, 0)], [], [(0, 0, 15), (1, 16, 31)], [], [], [])] (by decide +kernel) (ρ0 := (fun s => [x0, x1].getD s 0)) hB eF trivial ⟨rfl, ⟨rfl, ⟨rfl, trivial⟩⟩⟩ trivial ?_
  refine List.forall_mem_cons.mpr ⟨?_, fun _ h => absurd h List.not_mem_nil⟩
  · intro ρ τ Lc stc hx g1 g2 g3 g4 g5 g6 g7 g8
    have e0 : ρ 0 = x0 := hx 0 (by decide)
    have e1 : ρ 1 = x1 := hx 1 (by decide)
    subst e0
    subst e1
    have g7 := g7 (by decide)
    match Lc, stc, g7, g8 with
    | [v0, v1, v2], [], ⟨hv0, hv1, hv2, _⟩, _ =>
      cases hv0
      cases hv1
      cases hv2
      exact l0 τ ρ  g1 g2 g3 g4 g5 g6
set_option maxRecDepth 100000 in
theorem mq_z0 {σ : pm_S} {Q : Option Value → pm_S → Prop} (v1 : Value) (v2 : Value) (hv1 : v1.category = 1) (hv2 : v2.category = 1) (hB : an_GB pm_B σ)
    (l0 : ∀ (τ : pm_S) (y : Nat → Int) (v1 : Value) (v2 : Value), v1.category = 1 → v2.category = 1 → an_GB pm_B τ → FQ [(93, 0), (93, 48), (93, 49), (93, 31), (93, 42), (93, 43)] σ τ → (True) → (True) → (True) → ((τ.1 93 0).toInt = 0 ∧ (τ.1 93 31).toInt = 0 ∧ (τ.1 93 42).toInt = 0 ∧ (τ.1 93 43).toInt = 0 ∧ (τ.1 93 48).toInt = 0 ∧ (τ.1 93 49).toInt = (-1) ∧ True) → Ok 195 111 19 [.ref 93, v1, v2] [.ref 93] τ Q)
    : Ok 195 111 0 [.ref 93, v1, v2] [] σ Q := by
  refine an_seg (B := pm_B) (F := [(93, 0), (93, 48), (93, 49), (93, 31), (93, 42), (93, 43)]) (T := []) (S := []) (fun _ h => absurd h List.not_mem_nil) (k := 195) (d := 110) (cs := [19]) 21 0 0 [] [] [(2, 93, 0), (5, 0, 0), (5, 0, 0)] [] [(19, [(2, 93, 0), (5, 0, 0), (5, 0, 0)], [(2, 93, 0)], [], [], [], [(93, (1, 0, 0), (1, 0, 0)), (93, (1, 0, 31), (1, 0, 0)), (93, (1, 0, 42), (1, 0, 0)), (93, (1, 0, 43), (1, 0, 0)), (93, (1, 0, 48), (1, 0, 0)), (93, (1, 0, 49), (1, 0, (-1)))])] (by decide +kernel) (ρ0 := (fun s => [].getD s 0)) hB trivial trivial ⟨rfl, ⟨hv1, ⟨hv2, trivial⟩⟩⟩ trivial ?_
  refine List.forall_mem_cons.mpr ⟨?_, fun _ h => absurd h List.not_mem_nil⟩
  · intro ρ τ Lc stc hx g1 g2 g3 g4 g5 g6 g7 g8
    have g7 := g7 (by decide)
    match Lc, stc, g7, g8 with
    | [v0, v1, v2], [w0], ⟨hv0, hv1, hv2, _⟩, ⟨hw0, _⟩ =>
      cases hv0
      cases hw0
      exact l0 τ ρ v1 v2 hv1 hv2 g1 g2 g3 g4 g5 g6
set_option maxRecDepth 100000 in
theorem mq_z22 {σ : pm_S} {Q : Option Value → pm_S → Prop} (x0 x1 x2 x3 x4 : Int) (v1 : Value) (v2 : Value) (hv1 : v1.category = 1) (hv2 : v2.category = 1) (hB : an_GB pm_B σ) (eF : ((-1) ≤ x0 ∧ x0 ≤ 16) ∧ ((-2147483648) ≤ x1 ∧ x1 ≤ 2147483647) ∧ ((-2147483648) ≤ x2 ∧ x2 ≤ 2147483647) ∧ ((-2147483648) ≤ x3 ∧ x3 ≤ 2147483647) ∧ ((-2147483648) ≤ x4 ∧ x4 ≤ 2147483647) ∧ True) (eC : (σ.1 93 46).toInt = x1 ∧ (σ.1 93 47).toInt = x2 ∧ (σ.1 93 48).toInt = x3 ∧ (σ.1 93 49).toInt = x4 ∧ True)
    (l0 : ∀ (τ : pm_S) (y : Nat → Int), an_GB pm_B τ → FQ [(93, 30), (93, 48), (93, 49)] σ τ → ((0 ≤ x0 ∧ x0 ≤ 16) ∧ ((-2147483648) ≤ x1 ∧ x1 ≤ 2147483647) ∧ ((-2147483648) ≤ x2 ∧ x2 ≤ 2147483647) ∧ ((-2147483648) ≤ x3 ∧ x3 ≤ 2147483647) ∧ ((-2147483648) ≤ x4 ∧ x4 ≤ 2147483647) ∧ True) → (True) → (True) → ((τ.1 93 30).toInt = 0 ∧ (τ.1 93 46).toInt = x1 ∧ (τ.1 93 47).toInt = x2 ∧ (τ.1 93 48).toInt = x3 ∧ (τ.1 93 49).toInt = x4 ∧ True) → Ok 195 111 41 [.ref 93, .int (Int32.ofInt (x0)), .int (Int32.ofInt 0)] [] τ Q)
    (l1 : ∀ (τ : pm_S) (y : Nat → Int), an_GB pm_B τ → FQ [(93, 30), (93, 48), (93, 49)] σ τ → (((-1) ≤ x0 ∧ x0 ≤ (-1)) ∧ ((-2147483648) ≤ x1 ∧ x1 ≤ 2147483647) ∧ ((-2147483648) ≤ x2 ∧ x2 ≤ 2147483647) ∧ ((-2147483648) ≤ x3 ∧ x3 ≤ 2147483647) ∧ ((-2147483648) ≤ x4 ∧ x4 ≤ 2147483647) ∧ True) → (True) → (True) → ((τ.1 93 30).toInt = 0 ∧ (τ.1 93 46).toInt = x1 ∧ (τ.1 93 47).toInt = x2 ∧ (τ.1 93 48).toInt = x1 ∧ (τ.1 93 49).toInt = x2 ∧ True) → Q (some (.int (Int32.ofInt (-1)))) τ)
    : Ok 195 111 22 [.ref 93, v1, v2] [.int (Int32.ofInt (x0))] σ Q := by
  refine an_seg (B := pm_B) (F := [(93, 30), (93, 48), (93, 49)]) (T := []) (S := []) (fun _ h => absurd h List.not_mem_nil) (k := 195) (d := 110) (cs := [41]) 19 22 5 [(0, (-1), 16), (1, (-2147483648), 2147483647), (2, (-2147483648), 2147483647), (3, (-2147483648), 2147483647), (4, (-2147483648), 2147483647)] [(93, (1, 0, 46), (0, 1, 0)), (93, (1, 0, 47), (0, 2, 0)), (93, (1, 0, 48), (0, 3, 0)), (93, (1, 0, 49), (0, 4, 0))] [(2, 93, 0), (5, 0, 0), (5, 0, 0)] [(0, 0, 0)] [(41, [(2, 93, 0), (0, 0, 0), (1, 0, 0)], [], [(0, 0, 16), (1, (-2147483648), 2147483647), (2, (-2147483648), 2147483647), (3, (-2147483648), 2147483647), (4, (-2147483648), 2147483647)], [], [], [(93, (1, 0, 30), (1, 0, 0)), (93, (1, 0, 46), (0, 1, 0)), (93, (1, 0, 47), (0, 2, 0)), (93, (1, 0, 48), (0, 3, 0)), (93, (1, 0, 49), (0, 4, 0))]),
    (9999, [], [(1, 0, (-1))], [(0, (-1), (-1)), (1, (-2147483648), 2147483647), (2, (-2147483648), 2147483647), (3, (-2147483648), 2147483647), (4, (-2147483648), 2147483647)], [], [], [(93, (1, 0, 30), (1, 0, 0)), (93, (1, 0, 46), (0, 1, 0)), (93, (1, 0, 47), (0, 2, 0)), (93, (1, 0, 48), (0, 1, 0)), (93, (1, 0, 49), (0, 2, 0))])] (by decide +kernel) (ρ0 := (fun s => [x0, x1, x2, x3, x4].getD s 0)) hB eF eC ⟨rfl, ⟨hv1, ⟨hv2, trivial⟩⟩⟩ ⟨rfl, trivial⟩ ?_
  refine List.forall_mem_cons.mpr ⟨?_, List.forall_mem_cons.mpr ⟨?_, fun _ h => absurd h List.not_mem_nil⟩⟩
  · intro ρ τ Lc stc hx g1 g2 g3 g4 g5 g6 g7 g8
    have e0 : ρ 0 = x0 := hx 0 (by decide)
    have e1 : ρ 1 = x1 := hx 1 (by decide)
    have e2 : ρ 2 = x2 := hx 2 (by decide)
    have e3 : ρ 3 = x3 := hx 3 (by decide)
    have e4 : ρ 4 = x4 := hx 4 (by decide)
    subst e0
    subst e1
    subst e2
    subst e3
    subst e4
    have g7 := g7 (by decide)
    match Lc, stc, g7, g8 with
    | [v0, v1, v2], [], ⟨hv0, hv1, hv2, _⟩, _ =>
      cases hv0
      cases hv1
      cases hv2
      exact l0 τ ρ  g1 g2 g3 g4 g5 g6
  · intro ρ τ Lc stc hx g1 g2 g3 g4 g5 g6 g7 g8
    have e0 : ρ 0 = x0 := hx 0 (by decide)
    have e1 : ρ 1 = x1 := hx 1 (by decide)
    have e2 : ρ 2 = x2 := hx 2 (by decide)
    have e3 : ρ 3 = x3 := hx 3 (by decide)
    have e4 : ρ 4 = x4 := hx 4 (by decide)
    subst e0
    subst e1
    subst e2
    subst e3
    subst e4
    match stc, g8 with
    | [_], ⟨h, _⟩ => cases h; exact l1 τ ρ g1 g2 g3 g4 g5 g6
