/-! spots and the chances as keys -/
/-- the chances of an hour, one spot's left out -/
def chS (r : Nat → Int32) (s h : Int) : Nat → Int
  | 0 => 0
  | i + 1 => chS r s h i + (if (i : Int) = s then 0 else (r (8 * (i : Int) + h).toNat).toInt)
theorem chS_s {r : Nat → Int32} {s h i : Int} (h0 : 0 ≤ i) (e : i = s) : chS r s h (i + 1).toNat = chS r s h i.toNat := by
  have e1 : (i + 1).toNat = i.toNat + 1 := by omega
  have e2 : (i.toNat : Int) = i := by omega
  rw [e1]
  show chS r s h i.toNat + _ = _
  rw [e2, if_pos e]
  omega
theorem chS_n {r : Nat → Int32} {s h i : Int} (h0 : 0 ≤ i) (e : i ≠ s) : chS r s h (i + 1).toNat = chS r s h i.toNat + (r (8 * i + h).toNat).toInt := by
  have e1 : (i + 1).toNat = i.toNat + 1 := by omega
  have e2 : (i.toNat : Int) = i := by omega
  rw [e1]
  show chS r s h i.toNat + _ = _
  rw [e2, if_neg e]
theorem chS_b {r : Nat → Int32} {s h : Int} (hr : ∀ j, j < 80 → (0 : Int) ≤ (r j).toInt ∧ (r j).toInt ≤ 100) (h0 : 0 ≤ h ∧ h ≤ 7) : ∀ i : Nat, i ≤ 10 → 0 ≤ chS r s h i ∧ chS r s h i ≤ 100 * i
  | 0, _ => ⟨Int.le_refl _, Int.le_refl _⟩
  | i + 1, hi => by
    have ih := chS_b (s := s) hr h0 i (by omega)
    have b := hr (8 * (i : Int) + h).toNat (by omega)
    show 0 ≤ chS r s h i + _ ∧ chS r s h i + _ ≤ _
    split <;> omega
theorem chS_e {r r' : Nat → Int32} {s h : Int} (hr : ∀ j, j < 80 → r j = r' j) (h0 : 0 ≤ h ∧ h ≤ 7) : ∀ i : Nat, i ≤ 10 → chS r s h i = chS r' s h i
  | 0, _ => rfl
  | i + 1, hi => by
    show chS r s h i + _ = chS r' s h i + _
    rw [chS_e hr h0 i (by omega), hr (8 * (i : Int) + h).toNat (by omega)]
theorem mulI {a y : Int} (ha : 0 ≤ a ∧ a ≤ 9) (h : (an_f 2 (Int32.ofInt a) (Int32.ofInt 8)).toInt = y) : y = 8 * a := by
  rw [← h]
  show (Int32.ofInt a * Int32.ofInt 8).toInt = _
  have e : (Int32.ofInt 8).toInt = 8 := rfl
  rw [ai_mul] <;> rw [ti_of (by omega) (by omega), e] <;> omega
theorem mulJ {a y : Int} (ha : 0 ≤ a ∧ a ≤ 9) (h : (an_f 2 (Int32.ofInt 8) (Int32.ofInt a)).toInt = y) : y = 8 * a := by
  rw [← h]
  show (Int32.ofInt 8 * Int32.ofInt a).toInt = _
  have e : (Int32.ofInt 8).toInt = 8 := rfl
  rw [ai_mul] <;> rw [e, ti_of (by omega) (by omega)] <;> omega
theorem addI {a b y : Int} (ha : 0 ≤ a ∧ a ≤ 10000) (hb : 0 ≤ b ∧ b ≤ 10000) (h : (an_f 0 (Int32.ofInt a) (Int32.ofInt b)).toInt = y) : y = a + b := by
  rw [← h, sum0 (by omega) (by omega) (by omega) (by omega) (by omega) (by omega)]
set_option maxRecDepth 100000 in
theorem sg_cha0 {σ : pm_S} {Q : Option Value → pm_S → Prop} (x0 x1 : Int)  (hB : an_GB pm_B σ) (eF : (0 ≤ x0 ∧ x0 ≤ 9) ∧ (0 ≤ x1 ∧ x1 ≤ 7) ∧ True)
    (l0 : ∀ (τ : pm_S) (y : Nat → Int), an_GB pm_B τ → FQ [] σ τ → ((0 ≤ x0 ∧ x0 ≤ 9) ∧ (0 ≤ x1 ∧ x1 ≤ 7) ∧ True) → (True) → (True) → (True) → Ok 87 9 2 [.ref 3, .int (Int32.ofInt (x0)), .int (Int32.ofInt (x1))] [.int (Int32.ofInt (x0)), .ref 3] τ Q)
    : Ok 87 9 0 [.ref 3, .int (Int32.ofInt (x0)), .int (Int32.ofInt (x1))] [] σ Q := by
  refine an_seg (B := pm_B) (F := []) (T := []) (S := []) (fun _ h => absurd h List.not_mem_nil) (k := 87) (d := 8) (cs := [2]) 4 0 2 [(0, 0, 9), (1, 0, 7)] [] [(2, 3, 0), (0, 0, 0), (0, 1, 0)] [] [(2, [(2, 3, 0), (0, 0, 0), (0, 1, 0)], [(0, 0, 0), (2, 3, 0)], [(0, 0, 9), (1, 0, 7)], [], [], [])] (by decide +kernel) (ρ0 := (fun s => [x0, x1].getD s 0)) hB eF trivial ⟨rfl, ⟨rfl, ⟨rfl, trivial⟩⟩⟩ trivial ?_
  refine List.forall_mem_cons.mpr ⟨?_, fun _ h => absurd h List.not_mem_nil⟩
  · intro ρ τ Lc stc hx g1 g2 g3 g4 g5 g6 g7 g8
    have e0 : ρ 0 = x0 := hx 0 (by decide)
    have e1 : ρ 1 = x1 := hx 1 (by decide)
    subst e0
    subst e1
    have g7 := g7 (by decide)
    match Lc, stc, g7, g8 with
    | [v0, v1, v2], [w0, w1], ⟨hv0, hv1, hv2, _⟩, ⟨hw0, hw1, _⟩ =>
      cases hv0
      cases hv1
      cases hv2
      cases hw0
      cases hw1
      exact l0 τ ρ  g1 g2 g3 g4 g5 g6
set_option maxRecDepth 100000 in
theorem sg_cha3 {σ : pm_S} {Q : Option Value → pm_S → Prop} (x0 x1 : Int)  (hB : an_GB pm_B σ) (eF : (0 ≤ x0 ∧ x0 ≤ 9) ∧ (0 ≤ x1 ∧ x1 ≤ 7) ∧ True)
    (l0 : ∀ (τ : pm_S) (y : Nat → Int), an_GB pm_B τ → FQ [] σ τ → ((0 ≤ x0 ∧ x0 ≤ 9) ∧ (0 ≤ x1 ∧ x1 ≤ 7) ∧ (0 ≤ y 2 ∧ y 2 ≤ 72) ∧ (0 ≤ y 3 ∧ y 3 ≤ 79) ∧ True) → (True) → ((an_f 2 (Int32.ofInt (x0)) (Int32.ofInt (8))).toInt = y 2 ∧ (an_f 0 (Int32.ofInt (y 2)) (Int32.ofInt (x1))).toInt = y 3 ∧ True) → (True) → Ok 87 9 16 [.ref 3, .int (Int32.ofInt (x0)), .int (Int32.ofInt (x1))] [.int (Int32.ofInt (y 3)), .ref 6] τ Q)
    : Ok 87 9 3 [.ref 3, .int (Int32.ofInt (x0)), .int (Int32.ofInt (x1))] [.int (Int32.ofInt 1)] σ Q := by
  refine an_seg (B := pm_B) (F := []) (T := []) (S := []) (fun _ h => absurd h List.not_mem_nil) (k := 87) (d := 8) (cs := [16]) 15 3 2 [(0, 0, 9), (1, 0, 7)] [] [(2, 3, 0), (0, 0, 0), (0, 1, 0)] [(1, 0, 1)] [(16, [(2, 3, 0), (0, 0, 0), (0, 1, 0)], [(0, 3, 0), (2, 6, 0)], [(0, 0, 9), (1, 0, 7), (2, 0, 72), (3, 0, 79)], [], [(2, (0, 0, 0), (1, 0, 8), 2), (0, (0, 2, 0), (0, 1, 0), 3)], [])] (by decide +kernel) (ρ0 := (fun s => [x0, x1].getD s 0)) hB eF trivial ⟨rfl, ⟨rfl, ⟨rfl, trivial⟩⟩⟩ ⟨rfl, trivial⟩ ?_
  refine List.forall_mem_cons.mpr ⟨?_, fun _ h => absurd h List.not_mem_nil⟩
  · intro ρ τ Lc stc hx g1 g2 g3 g4 g5 g6 g7 g8
    have e0 : ρ 0 = x0 := hx 0 (by decide)
    have e1 : ρ 1 = x1 := hx 1 (by decide)
    subst e0
    subst e1
    have g7 := g7 (by decide)
    match Lc, stc, g7, g8 with
    | [v0, v1, v2], [w0, w1], ⟨hv0, hv1, hv2, _⟩, ⟨hw0, hw1, _⟩ =>
      cases hv0
      cases hv1
      cases hv2
      cases hw0
      cases hw1
      exact l0 τ ρ  g1 g2 g3 g4 g5 g6
set_option maxRecDepth 100000 in
theorem sg_cha17 {σ : pm_S} {Q : Option Value → pm_S → Prop} (x0 x1 x2 : Int)  (hB : an_GB pm_B σ) (eF : (0 ≤ x0 ∧ x0 ≤ 9) ∧ (0 ≤ x1 ∧ x1 ≤ 7) ∧ ((-2147483648) ≤ x2 ∧ x2 ≤ 2147483647) ∧ True)
    (l0 : ∀ (τ : pm_S) (y : Nat → Int), an_GB pm_B τ → FQ [] σ τ → ((0 ≤ x0 ∧ x0 ≤ 9) ∧ (0 ≤ x1 ∧ x1 ≤ 7) ∧ ((-2147483648) ≤ x2 ∧ x2 ≤ 2147483647) ∧ True) → (True) → (True) → (True) → Q (some (.int (Int32.ofInt (x2)))) τ)
    : Ok 87 9 17 [.ref 3, .int (Int32.ofInt (x0)), .int (Int32.ofInt (x1))] [.int (Int32.ofInt (x2))] σ Q := by
  refine an_seg (B := pm_B) (F := []) (T := []) (S := []) (fun _ h => absurd h List.not_mem_nil) (k := 87) (d := 8) (cs := []) 4 17 3 [(0, 0, 9), (1, 0, 7), (2, (-2147483648), 2147483647)] [] [(2, 3, 0), (0, 0, 0), (0, 1, 0)] [(0, 2, 0)] [(9999, [], [(0, 2, 0)], [(0, 0, 9), (1, 0, 7), (2, (-2147483648), 2147483647)], [], [], [])] (by decide +kernel) (ρ0 := (fun s => [x0, x1, x2].getD s 0)) hB eF trivial ⟨rfl, ⟨rfl, ⟨rfl, trivial⟩⟩⟩ ⟨rfl, trivial⟩ ?_
  refine List.forall_mem_cons.mpr ⟨?_, fun _ h => absurd h List.not_mem_nil⟩
  · intro ρ τ Lc stc hx g1 g2 g3 g4 g5 g6 g7 g8
    have e0 : ρ 0 = x0 := hx 0 (by decide)
    have e1 : ρ 1 = x1 := hx 1 (by decide)
    have e2 : ρ 2 = x2 := hx 2 (by decide)
    subst e0
    subst e1
    subst e2
    match stc, g8 with
    | [_], ⟨h, _⟩ => cases h; exact l0 τ ρ g1 g2 g3 g4 g5 g6
set_option maxRecDepth 100000 in
theorem sg_tc0 {σ : pm_S} {Q : Option Value → pm_S → Prop} (x0 x1 x2 : Int) (v4 : Value) (v5 : Value) (hv4 : v4.category = 1) (hv5 : v5.category = 1) (hB : an_GB pm_B σ) (eF : ((-2147483648) ≤ x0 ∧ x0 ≤ 2147483647) ∧ ((-2147483648) ≤ x1 ∧ x1 ≤ 2147483647) ∧ ((-2147483648) ≤ x2 ∧ x2 ≤ 2147483647) ∧ True)
    (l0 : ∀ (τ : pm_S) (y : Nat → Int) (v4 : Value) (v5 : Value), v4.category = 1 → v5.category = 1 → an_GB pm_B τ → FQ [] σ τ → (((-2147483648) ≤ x0 ∧ x0 ≤ 2147483647) ∧ ((-2147483648) ≤ x1 ∧ x1 ≤ 2147483647) ∧ ((-2147483648) ≤ x2 ∧ x2 ≤ 2147483647) ∧ True) → (True) → (True) → (True) → Ok 86 21 2 [.ref 3, .int (Int32.ofInt (x0)), .int (Int32.ofInt (x1)), .int (Int32.ofInt (x2)), v4, v5] [.int (Int32.ofInt (x0)), .ref 3] τ Q)
    : Ok 86 21 0 [.ref 3, .int (Int32.ofInt (x0)), .int (Int32.ofInt (x1)), .int (Int32.ofInt (x2)), v4, v5] [] σ Q := by
  refine an_seg (B := pm_B) (F := []) (T := []) (S := []) (fun _ h => absurd h List.not_mem_nil) (k := 86) (d := 20) (cs := [2]) 4 0 3 [(0, (-2147483648), 2147483647), (1, (-2147483648), 2147483647), (2, (-2147483648), 2147483647)] [] [(2, 3, 0), (0, 0, 0), (0, 1, 0), (0, 2, 0), (5, 0, 0), (5, 0, 0)] [] [(2, [(2, 3, 0), (0, 0, 0), (0, 1, 0), (0, 2, 0), (5, 0, 0), (5, 0, 0)], [(0, 0, 0), (2, 3, 0)], [(0, (-2147483648), 2147483647), (1, (-2147483648), 2147483647), (2, (-2147483648), 2147483647)], [], [], [])] (by decide +kernel) (ρ0 := (fun s => [x0, x1, x2].getD s 0)) hB eF trivial ⟨rfl, ⟨rfl, ⟨rfl, ⟨rfl, ⟨hv4, ⟨hv5, trivial⟩⟩⟩⟩⟩⟩ trivial ?_
  refine List.forall_mem_cons.mpr ⟨?_, fun _ h => absurd h List.not_mem_nil⟩
  · intro ρ τ Lc stc hx g1 g2 g3 g4 g5 g6 g7 g8
    have e0 : ρ 0 = x0 := hx 0 (by decide)
    have e1 : ρ 1 = x1 := hx 1 (by decide)
    have e2 : ρ 2 = x2 := hx 2 (by decide)
    subst e0
    subst e1
    subst e2
    have g7 := g7 (by decide)
    match Lc, stc, g7, g8 with
    | [v0, v1, v2, v3, v4, v5], [w0, w1], ⟨hv0, hv1, hv2, hv3, hv4, hv5, _⟩, ⟨hw0, hw1, _⟩ =>
      cases hv0
      cases hv1
      cases hv2
      cases hv3
      cases hw0
      cases hw1
      exact l0 τ ρ v4 v5 hv4 hv5 g1 g2 g3 g4 g5 g6
set_option maxRecDepth 100000 in
theorem sg_tc3 {σ : pm_S} {Q : Option Value → pm_S → Prop} (x0 x1 x2 : Int) (v4 : Value) (v5 : Value) (hv4 : v4.category = 1) (hv5 : v5.category = 1) (hB : an_GB pm_B σ) (eF : (0 ≤ x0 ∧ x0 ≤ 9) ∧ ((-2147483648) ≤ x1 ∧ x1 ≤ 2147483647) ∧ ((-2147483648) ≤ x2 ∧ x2 ≤ 2147483647) ∧ True)
    (l0 : ∀ (τ : pm_S) (y : Nat → Int), an_GB pm_B τ → FQ [] σ τ → ((0 ≤ x0 ∧ x0 ≤ 9) ∧ ((-2147483648) ≤ x1 ∧ x1 ≤ (-1)) ∧ ((-2147483648) ≤ x2 ∧ x2 ≤ 2147483647) ∧ True) → (True) → (True) → (True) → Q (some (.int (Int32.ofInt 0))) τ)
    (l1 : ∀ (τ : pm_S) (y : Nat → Int), an_GB pm_B τ → FQ [] σ τ → ((0 ≤ x0 ∧ x0 ≤ 9) ∧ (8 ≤ x1 ∧ x1 ≤ 2147483647) ∧ ((-2147483648) ≤ x2 ∧ x2 ≤ 2147483647) ∧ True) → (True) → (True) → (True) → Q (some (.int (Int32.ofInt 0))) τ)
    (l2 : ∀ (τ : pm_S) (y : Nat → Int), an_GB pm_B τ → FQ [] σ τ → ((0 ≤ x0 ∧ x0 ≤ 9) ∧ (0 ≤ x1 ∧ x1 ≤ 7) ∧ ((-2147483648) ≤ x2 ∧ x2 ≤ (-1)) ∧ True) → (True) → (True) → (True) → Q (some (.int (Int32.ofInt 0))) τ)
    (l3 : ∀ (τ : pm_S) (y : Nat → Int), an_GB pm_B τ → FQ [] σ τ → ((0 ≤ x0 ∧ x0 ≤ 9) ∧ (0 ≤ x1 ∧ x1 ≤ 7) ∧ (0 ≤ x2 ∧ x2 ≤ 100) ∧ True) → (True) → (True) → (True) → Ok 86 21 20 [.ref 3, .int (Int32.ofInt (x0)), .int (Int32.ofInt (x1)), .int (Int32.ofInt (x2)), .int (Int32.ofInt 0), .int (Int32.ofInt 0)] [] τ Q)
    (l4 : ∀ (τ : pm_S) (y : Nat → Int), an_GB pm_B τ → FQ [] σ τ → ((0 ≤ x0 ∧ x0 ≤ 9) ∧ (0 ≤ x1 ∧ x1 ≤ 7) ∧ (101 ≤ x2 ∧ x2 ≤ 2147483647) ∧ True) → (True) → (True) → (True) → Q (some (.int (Int32.ofInt 0))) τ)
    : Ok 86 21 3 [.ref 3, .int (Int32.ofInt (x0)), .int (Int32.ofInt (x1)), .int (Int32.ofInt (x2)), v4, v5] [.int (Int32.ofInt 1)] σ Q := by
  refine an_seg (B := pm_B) (F := []) (T := []) (S := []) (fun _ h => absurd h List.not_mem_nil) (k := 86) (d := 20) (cs := [20]) 17 3 3 [(0, 0, 9), (1, (-2147483648), 2147483647), (2, (-2147483648), 2147483647)] [] [(2, 3, 0), (0, 0, 0), (0, 1, 0), (0, 2, 0), (5, 0, 0), (5, 0, 0)] [(1, 0, 1)] [(9999, [], [(1, 0, 0)], [(0, 0, 9), (1, (-2147483648), (-1)), (2, (-2147483648), 2147483647)], [], [], []),
    (9999, [], [(1, 0, 0)], [(0, 0, 9), (1, 8, 2147483647), (2, (-2147483648), 2147483647)], [], [], []),
    (9999, [], [(1, 0, 0)], [(0, 0, 9), (1, 0, 7), (2, (-2147483648), (-1))], [], [], []),
    (20, [(2, 3, 0), (0, 0, 0), (0, 1, 0), (0, 2, 0), (1, 0, 0), (1, 0, 0)], [], [(0, 0, 9), (1, 0, 7), (2, 0, 100)], [], [], []),
    (9999, [], [(1, 0, 0)], [(0, 0, 9), (1, 0, 7), (2, 101, 2147483647)], [], [], [])] (by decide +kernel) (ρ0 := (fun s => [x0, x1, x2].getD s 0)) hB eF trivial ⟨rfl, ⟨rfl, ⟨rfl, ⟨rfl, ⟨hv4, ⟨hv5, trivial⟩⟩⟩⟩⟩⟩ ⟨rfl, trivial⟩ ?_
  refine List.forall_mem_cons.mpr ⟨?_, List.forall_mem_cons.mpr ⟨?_, List.forall_mem_cons.mpr ⟨?_, List.forall_mem_cons.mpr ⟨?_, List.forall_mem_cons.mpr ⟨?_, fun _ h => absurd h List.not_mem_nil⟩⟩⟩⟩⟩
  · intro ρ τ Lc stc hx g1 g2 g3 g4 g5 g6 g7 g8
    have e0 : ρ 0 = x0 := hx 0 (by decide)
    have e1 : ρ 1 = x1 := hx 1 (by decide)
    have e2 : ρ 2 = x2 := hx 2 (by decide)
    subst e0
    subst e1
    subst e2
    match stc, g8 with
    | [_], ⟨h, _⟩ => cases h; exact l0 τ ρ g1 g2 g3 g4 g5 g6
  · intro ρ τ Lc stc hx g1 g2 g3 g4 g5 g6 g7 g8
    have e0 : ρ 0 = x0 := hx 0 (by decide)
    have e1 : ρ 1 = x1 := hx 1 (by decide)
    have e2 : ρ 2 = x2 := hx 2 (by decide)
    subst e0
    subst e1
    subst e2
    match stc, g8 with
    | [_], ⟨h, _⟩ => cases h; exact l1 τ ρ g1 g2 g3 g4 g5 g6
  · intro ρ τ Lc stc hx g1 g2 g3 g4 g5 g6 g7 g8
    have e0 : ρ 0 = x0 := hx 0 (by decide)
    have e1 : ρ 1 = x1 := hx 1 (by decide)
    have e2 : ρ 2 = x2 := hx 2 (by decide)
    subst e0
    subst e1
    subst e2
    match stc, g8 with
    | [_], ⟨h, _⟩ => cases h; exact l2 τ ρ g1 g2 g3 g4 g5 g6
  · intro ρ τ Lc stc hx g1 g2 g3 g4 g5 g6 g7 g8
    have e0 : ρ 0 = x0 := hx 0 (by decide)
    have e1 : ρ 1 = x1 := hx 1 (by decide)
    have e2 : ρ 2 = x2 := hx 2 (by decide)
    subst e0
    subst e1
    subst e2
    have g7 := g7 (by decide)
    match Lc, stc, g7, g8 with
    | [v0, v1, v2, v3, v4, v5], [], ⟨hv0, hv1, hv2, hv3, hv4, hv5, _⟩, _ =>
      cases hv0
      cases hv1
      cases hv2
      cases hv3
      cases hv4
      cases hv5
      exact l3 τ ρ  g1 g2 g3 g4 g5 g6
  · intro ρ τ Lc stc hx g1 g2 g3 g4 g5 g6 g7 g8
    have e0 : ρ 0 = x0 := hx 0 (by decide)
    have e1 : ρ 1 = x1 := hx 1 (by decide)
    have e2 : ρ 2 = x2 := hx 2 (by decide)
    subst e0
    subst e1
    subst e2
    match stc, g8 with
    | [_], ⟨h, _⟩ => cases h; exact l4 τ ρ g1 g2 g3 g4 g5 g6
set_option maxRecDepth 100000 in
theorem sg_tc3n {σ : pm_S} {Q : Option Value → pm_S → Prop} (v1 : Value) (v2 : Value) (v3 : Value) (v4 : Value) (v5 : Value) (hv1 : v1.category = 1) (hv2 : v2.category = 1) (hv3 : v3.category = 1) (hv4 : v4.category = 1) (hv5 : v5.category = 1) (hB : an_GB pm_B σ)
    (l0 : ∀ (τ : pm_S) (y : Nat → Int), an_GB pm_B τ → FQ [] σ τ → (True) → (True) → (True) → (True) → Q (some (.int (Int32.ofInt 0))) τ)
    : Ok 86 21 3 [.ref 3, v1, v2, v3, v4, v5] [.int (Int32.ofInt 0)] σ Q := by
  refine an_seg (B := pm_B) (F := []) (T := []) (S := []) (fun _ h => absurd h List.not_mem_nil) (k := 86) (d := 20) (cs := [20]) 5 3 0 [] [] [(2, 3, 0), (5, 0, 0), (5, 0, 0), (5, 0, 0), (5, 0, 0), (5, 0, 0)] [(1, 0, 0)] [(9999, [], [(1, 0, 0)], [], [], [], [])] (by decide +kernel) (ρ0 := (fun s => [].getD s 0)) hB trivial trivial ⟨rfl, ⟨hv1, ⟨hv2, ⟨hv3, ⟨hv4, ⟨hv5, trivial⟩⟩⟩⟩⟩⟩ ⟨rfl, trivial⟩ ?_
  refine List.forall_mem_cons.mpr ⟨?_, fun _ h => absurd h List.not_mem_nil⟩
  · intro ρ τ Lc stc hx g1 g2 g3 g4 g5 g6 g7 g8
    match stc, g8 with
    | [_], ⟨h, _⟩ => cases h; exact l0 τ ρ g1 g2 g3 g4 g5 g6
set_option maxRecDepth 100000 in
theorem sg_tc20 {σ : pm_S} {Q : Option Value → pm_S → Prop} (x0 x1 x2 x3 x4 x5 : Int)  (hB : an_GB pm_B σ) (eF : (0 ≤ x0 ∧ x0 ≤ 9) ∧ (0 ≤ x1 ∧ x1 ≤ 7) ∧ (0 ≤ x2 ∧ x2 ≤ 100) ∧ (0 ≤ x3 ∧ x3 ≤ 1000) ∧ (0 ≤ x4 ∧ x4 ≤ 10) ∧ (0 ≤ x5 ∧ x5 ≤ 10) ∧ True) (eC : (σ.1 3 0).toInt = x5 ∧ True)
    (l0 : ∀ (τ : pm_S) (y : Nat → Int), an_GB pm_B τ → FQ [] σ τ → ((0 ≤ x0 ∧ x0 ≤ 9) ∧ (0 ≤ x1 ∧ x1 ≤ 7) ∧ (0 ≤ x2 ∧ x2 ≤ 100) ∧ (0 ≤ x3 ∧ x3 ≤ 1000) ∧ (0 ≤ x4 ∧ x4 ≤ 10) ∧ (0 ≤ x5 ∧ x5 ≤ 10) ∧ True) → (True) → (True) → (True) → Ok 86 21 23 [.ref 3, .int (Int32.ofInt (x0)), .int (Int32.ofInt (x1)), .int (Int32.ofInt (x2)), .int (Int32.ofInt (x3)), .int (Int32.ofInt (x4))] [.int (Int32.ofInt (x5)), .int (Int32.ofInt (x4))] τ Q)
    : Ok 86 21 20 [.ref 3, .int (Int32.ofInt (x0)), .int (Int32.ofInt (x1)), .int (Int32.ofInt (x2)), .int (Int32.ofInt (x3)), .int (Int32.ofInt (x4))] [] σ Q := by
  refine an_seg (B := pm_B) (F := []) (T := []) (S := []) (fun _ h => absurd h List.not_mem_nil) (k := 86) (d := 20) (cs := [23]) 5 20 6 [(0, 0, 9), (1, 0, 7), (2, 0, 100), (3, 0, 1000), (4, 0, 10), (5, 0, 10)] [(3, (1, 0, 0), (0, 5, 0))] [(2, 3, 0), (0, 0, 0), (0, 1, 0), (0, 2, 0), (0, 3, 0), (0, 4, 0)] [] [(23, [(2, 3, 0), (0, 0, 0), (0, 1, 0), (0, 2, 0), (0, 3, 0), (0, 4, 0)], [(0, 5, 0), (0, 4, 0)], [(0, 0, 9), (1, 0, 7), (2, 0, 100), (3, 0, 1000), (4, 0, 10), (5, 0, 10)], [], [], [])] (by decide +kernel) (ρ0 := (fun s => [x0, x1, x2, x3, x4, x5].getD s 0)) hB eF eC ⟨rfl, ⟨rfl, ⟨rfl, ⟨rfl, ⟨rfl, ⟨rfl, trivial⟩⟩⟩⟩⟩⟩ trivial ?_
  refine List.forall_mem_cons.mpr ⟨?_, fun _ h => absurd h List.not_mem_nil⟩
  · intro ρ τ Lc stc hx g1 g2 g3 g4 g5 g6 g7 g8
    have e0 : ρ 0 = x0 := hx 0 (by decide)
    have e1 : ρ 1 = x1 := hx 1 (by decide)
    have e2 : ρ 2 = x2 := hx 2 (by decide)
    have e3 : ρ 3 = x3 := hx 3 (by decide)
    have e4 : ρ 4 = x4 := hx 4 (by decide)
    have e5 : ρ 5 = x5 := hx 5 (by decide)
    subst e0
    subst e1
    subst e2
    subst e3
    subst e4
    subst e5
    have g7 := g7 (by decide)
    match Lc, stc, g7, g8 with
    | [v0, v1, v2, v3, v4, v5], [w0, w1], ⟨hv0, hv1, hv2, hv3, hv4, hv5, _⟩, ⟨hw0, hw1, _⟩ =>
      cases hv0
      cases hv1
      cases hv2
      cases hv3
      cases hv4
      cases hv5
      cases hw0
      cases hw1
      exact l0 τ ρ  g1 g2 g3 g4 g5 g6
set_option maxRecDepth 100000 in
theorem sg_tc24 {σ : pm_S} {Q : Option Value → pm_S → Prop} (x0 x1 x2 x3 x4 : Int)  (hB : an_GB pm_B σ) (eF : (0 ≤ x0 ∧ x0 ≤ 9) ∧ (0 ≤ x1 ∧ x1 ≤ 7) ∧ (0 ≤ x2 ∧ x2 ≤ 100) ∧ (0 ≤ x3 ∧ x3 ≤ 900) ∧ (0 ≤ x4 ∧ x4 ≤ 9) ∧ True)
    (l0 : ∀ (τ : pm_S) (y : Nat → Int), an_GB pm_B τ → FQ [] σ τ → ((0 ≤ x0 ∧ x0 ≤ 9) ∧ (0 ≤ x1 ∧ x1 ≤ 7) ∧ (0 ≤ x2 ∧ x2 ≤ 100) ∧ (0 ≤ x3 ∧ x3 ≤ 900) ∧ (0 ≤ x4 ∧ x4 ≤ 9) ∧ True) → (True) → (True) → (True) → Ok 86 21 27 [.ref 3, .int (Int32.ofInt (x0)), .int (Int32.ofInt (x1)), .int (Int32.ofInt (x2)), .int (Int32.ofInt (x3)), .int (Int32.ofInt (x4))] [.int (Int32.ofInt (x0)), .int (Int32.ofInt (x4)), .int (Int32.ofInt (x3))] τ Q)
    : Ok 86 21 24 [.ref 3, .int (Int32.ofInt (x0)), .int (Int32.ofInt (x1)), .int (Int32.ofInt (x2)), .int (Int32.ofInt (x3)), .int (Int32.ofInt (x4))] [] σ Q := by
  refine an_seg (B := pm_B) (F := []) (T := []) (S := []) (fun _ h => absurd h List.not_mem_nil) (k := 86) (d := 20) (cs := [27]) 5 24 5 [(0, 0, 9), (1, 0, 7), (2, 0, 100), (3, 0, 900), (4, 0, 9)] [] [(2, 3, 0), (0, 0, 0), (0, 1, 0), (0, 2, 0), (0, 3, 0), (0, 4, 0)] [] [(27, [(2, 3, 0), (0, 0, 0), (0, 1, 0), (0, 2, 0), (0, 3, 0), (0, 4, 0)], [(0, 0, 0), (0, 4, 0), (0, 3, 0)], [(0, 0, 9), (1, 0, 7), (2, 0, 100), (3, 0, 900), (4, 0, 9)], [], [], [])] (by decide +kernel) (ρ0 := (fun s => [x0, x1, x2, x3, x4].getD s 0)) hB eF trivial ⟨rfl, ⟨rfl, ⟨rfl, ⟨rfl, ⟨rfl, ⟨rfl, trivial⟩⟩⟩⟩⟩⟩ trivial ?_
  refine List.forall_mem_cons.mpr ⟨?_, fun _ h => absurd h List.not_mem_nil⟩
  · intro ρ τ Lc stc hx g1 g2 g3 g4 g5 g6 g7 g8
    have e0 : ρ 0 = x0 := hx 0 (by decide)
    have e1 : ρ 1 = x1 := hx 1 (by decide)
    have e2 : ρ 2 = x2 := hx 2 (by decide)
    have e3 : ρ 3 = x3 := hx 3 (by decide)
    have e4 : ρ 4 = x4 := hx 4 (by decide)
    subst e0
    subst e1
    subst e2
    subst e3
    subst e4
    have g7 := g7 (by decide)
    match Lc, stc, g7, g8 with
    | [v0, v1, v2, v3, v4, v5], [w0, w1, w2], ⟨hv0, hv1, hv2, hv3, hv4, hv5, _⟩, ⟨hw0, hw1, hw2, _⟩ =>
      cases hv0
      cases hv1
      cases hv2
      cases hv3
      cases hv4
      cases hv5
      cases hw0
      cases hw1
      cases hw2
      exact l0 τ ρ  g1 g2 g3 g4 g5 g6
set_option maxRecDepth 100000 in
theorem sg_tc28 {σ : pm_S} {Q : Option Value → pm_S → Prop} (x0 x1 x2 x3 x4 : Int)  (hB : an_GB pm_B σ) (eF : (0 ≤ x0 ∧ x0 ≤ 9) ∧ (0 ≤ x1 ∧ x1 ≤ 7) ∧ (0 ≤ x2 ∧ x2 ≤ 100) ∧ (0 ≤ x3 ∧ x3 ≤ 900) ∧ (0 ≤ x4 ∧ x4 ≤ 9) ∧ True)
    (l0 : ∀ (τ : pm_S) (y : Nat → Int), an_GB pm_B τ → FQ [] σ τ → ((0 ≤ x0 ∧ x0 ≤ 9) ∧ (0 ≤ x1 ∧ x1 ≤ 7) ∧ (0 ≤ x2 ∧ x2 ≤ 100) ∧ (0 ≤ x3 ∧ x3 ≤ 900) ∧ (0 ≤ x4 ∧ x4 ≤ 9) ∧ True) → (True) → (True) → (True) → Ok 86 21 20 [.ref 3, .int (Int32.ofInt (x0)), .int (Int32.ofInt (x1)), .int (Int32.ofInt (x2)), .int (Int32.ofInt (x3)), .int (Int32.ofInt (x4 + 1))] [] τ Q)
    : Ok 86 21 28 [.ref 3, .int (Int32.ofInt (x0)), .int (Int32.ofInt (x1)), .int (Int32.ofInt (x2)), .int (Int32.ofInt (x3)), .int (Int32.ofInt (x4))] [.int (Int32.ofInt (x3))] σ Q := by
  refine an_seg (B := pm_B) (F := []) (T := []) (S := []) (fun _ h => absurd h List.not_mem_nil) (k := 86) (d := 20) (cs := [20]) 8 28 5 [(0, 0, 9), (1, 0, 7), (2, 0, 100), (3, 0, 900), (4, 0, 9)] [] [(2, 3, 0), (0, 0, 0), (0, 1, 0), (0, 2, 0), (0, 3, 0), (0, 4, 0)] [(0, 3, 0)] [(20, [(2, 3, 0), (0, 0, 0), (0, 1, 0), (0, 2, 0), (0, 3, 0), (0, 4, 1)], [], [(0, 0, 9), (1, 0, 7), (2, 0, 100), (3, 0, 900), (4, 0, 9)], [], [], [])] (by decide +kernel) (ρ0 := (fun s => [x0, x1, x2, x3, x4].getD s 0)) hB eF trivial ⟨rfl, ⟨rfl, ⟨rfl, ⟨rfl, ⟨rfl, ⟨rfl, trivial⟩⟩⟩⟩⟩⟩ ⟨rfl, trivial⟩ ?_
  refine List.forall_mem_cons.mpr ⟨?_, fun _ h => absurd h List.not_mem_nil⟩
  · intro ρ τ Lc stc hx g1 g2 g3 g4 g5 g6 g7 g8
    have e0 : ρ 0 = x0 := hx 0 (by decide)
    have e1 : ρ 1 = x1 := hx 1 (by decide)
    have e2 : ρ 2 = x2 := hx 2 (by decide)
    have e3 : ρ 3 = x3 := hx 3 (by decide)
    have e4 : ρ 4 = x4 := hx 4 (by decide)
    subst e0
    subst e1
    subst e2
    subst e3
    subst e4
    have g7 := g7 (by decide)
    match Lc, stc, g7, g8 with
    | [v0, v1, v2, v3, v4, v5], [], ⟨hv0, hv1, hv2, hv3, hv4, hv5, _⟩, _ =>
      cases hv0
      cases hv1
      cases hv2
      cases hv3
      cases hv4
      cases hv5
      exact l0 τ ρ  g1 g2 g3 g4 g5 g6
set_option maxRecDepth 100000 in
theorem sg_tc30 {σ : pm_S} {Q : Option Value → pm_S → Prop} (x0 x1 x2 x3 x4 : Int)  (hB : an_GB pm_B σ) (eF : (0 ≤ x0 ∧ x0 ≤ 9) ∧ (0 ≤ x1 ∧ x1 ≤ 7) ∧ (0 ≤ x2 ∧ x2 ≤ 100) ∧ (0 ≤ x3 ∧ x3 ≤ 900) ∧ (0 ≤ x4 ∧ x4 ≤ 9) ∧ True)
    (l0 : ∀ (τ : pm_S) (y : Nat → Int), an_GB pm_B τ → FQ [] σ τ → ((0 ≤ x0 ∧ x0 ≤ 9) ∧ (0 ≤ x1 ∧ x1 ≤ 7) ∧ (0 ≤ x2 ∧ x2 ≤ 100) ∧ (0 ≤ x3 ∧ x3 ≤ 900) ∧ (0 ≤ x4 ∧ x4 ≤ 9) ∧ True) → (True) → (True) → (True) → Ok 86 21 33 [.ref 3, .int (Int32.ofInt (x0)), .int (Int32.ofInt (x1)), .int (Int32.ofInt (x2)), .int (Int32.ofInt (x3)), .int (Int32.ofInt (x4))] [.int (Int32.ofInt (x1)), .int (Int32.ofInt (x4)), .ref 3, .int (Int32.ofInt (x3))] τ Q)
    : Ok 86 21 30 [.ref 3, .int (Int32.ofInt (x0)), .int (Int32.ofInt (x1)), .int (Int32.ofInt (x2)), .int (Int32.ofInt (x3)), .int (Int32.ofInt (x4))] [.int (Int32.ofInt (x3))] σ Q := by
  refine an_seg (B := pm_B) (F := []) (T := []) (S := []) (fun _ h => absurd h List.not_mem_nil) (k := 86) (d := 20) (cs := [33]) 5 30 5 [(0, 0, 9), (1, 0, 7), (2, 0, 100), (3, 0, 900), (4, 0, 9)] [] [(2, 3, 0), (0, 0, 0), (0, 1, 0), (0, 2, 0), (0, 3, 0), (0, 4, 0)] [(0, 3, 0)] [(33, [(2, 3, 0), (0, 0, 0), (0, 1, 0), (0, 2, 0), (0, 3, 0), (0, 4, 0)], [(0, 1, 0), (0, 4, 0), (2, 3, 0), (0, 3, 0)], [(0, 0, 9), (1, 0, 7), (2, 0, 100), (3, 0, 900), (4, 0, 9)], [], [], [])] (by decide +kernel) (ρ0 := (fun s => [x0, x1, x2, x3, x4].getD s 0)) hB eF trivial ⟨rfl, ⟨rfl, ⟨rfl, ⟨rfl, ⟨rfl, ⟨rfl, trivial⟩⟩⟩⟩⟩⟩ ⟨rfl, trivial⟩ ?_
  refine List.forall_mem_cons.mpr ⟨?_, fun _ h => absurd h List.not_mem_nil⟩
  · intro ρ τ Lc stc hx g1 g2 g3 g4 g5 g6 g7 g8
    have e0 : ρ 0 = x0 := hx 0 (by decide)
    have e1 : ρ 1 = x1 := hx 1 (by decide)
    have e2 : ρ 2 = x2 := hx 2 (by decide)
    have e3 : ρ 3 = x3 := hx 3 (by decide)
    have e4 : ρ 4 = x4 := hx 4 (by decide)
    subst e0
    subst e1
    subst e2
    subst e3
    subst e4
    have g7 := g7 (by decide)
    match Lc, stc, g7, g8 with
    | [v0, v1, v2, v3, v4, v5], [w0, w1, w2, w3], ⟨hv0, hv1, hv2, hv3, hv4, hv5, _⟩, ⟨hw0, hw1, hw2, hw3, _⟩ =>
      cases hv0
      cases hv1
      cases hv2
      cases hv3
      cases hv4
      cases hv5
      cases hw0
      cases hw1
      cases hw2
      cases hw3
      exact l0 τ ρ  g1 g2 g3 g4 g5 g6
set_option maxRecDepth 100000 in
theorem sg_tc34 {σ : pm_S} {Q : Option Value → pm_S → Prop} (x0 x1 x2 x3 x4 x5 : Int)  (hB : an_GB pm_B σ) (eF : (0 ≤ x0 ∧ x0 ≤ 9) ∧ (0 ≤ x1 ∧ x1 ≤ 7) ∧ (0 ≤ x2 ∧ x2 ≤ 100) ∧ (0 ≤ x3 ∧ x3 ≤ 900) ∧ (0 ≤ x4 ∧ x4 ≤ 9) ∧ (0 ≤ x5 ∧ x5 ≤ 100) ∧ True)
    (l0 : ∀ (τ : pm_S) (y : Nat → Int), an_GB pm_B τ → FQ [] σ τ → ((0 ≤ x0 ∧ x0 ≤ 9) ∧ (0 ≤ x1 ∧ x1 ≤ 7) ∧ (0 ≤ x2 ∧ x2 ≤ 100) ∧ (0 ≤ x3 ∧ x3 ≤ 900) ∧ (0 ≤ x4 ∧ x4 ≤ 9) ∧ (0 ≤ x5 ∧ x5 ≤ 100) ∧ (0 ≤ y 6 ∧ y 6 ≤ 1000) ∧ True) → (True) → ((an_f 0 (Int32.ofInt (x3)) (Int32.ofInt (x5))).toInt = y 6 ∧ True) → (True) → Ok 86 21 20 [.ref 3, .int (Int32.ofInt (x0)), .int (Int32.ofInt (x1)), .int (Int32.ofInt (x2)), .int (Int32.ofInt (y 6)), .int (Int32.ofInt (x4 + 1))] [] τ Q)
    : Ok 86 21 34 [.ref 3, .int (Int32.ofInt (x0)), .int (Int32.ofInt (x1)), .int (Int32.ofInt (x2)), .int (Int32.ofInt (x3)), .int (Int32.ofInt (x4))] [.int (Int32.ofInt (x5)), .int (Int32.ofInt (x3))] σ Q := by
  refine an_seg (B := pm_B) (F := []) (T := []) (S := []) (fun _ h => absurd h List.not_mem_nil) (k := 86) (d := 20) (cs := [20]) 6 34 6 [(0, 0, 9), (1, 0, 7), (2, 0, 100), (3, 0, 900), (4, 0, 9), (5, 0, 100)] [] [(2, 3, 0), (0, 0, 0), (0, 1, 0), (0, 2, 0), (0, 3, 0), (0, 4, 0)] [(0, 5, 0), (0, 3, 0)] [(20, [(2, 3, 0), (0, 0, 0), (0, 1, 0), (0, 2, 0), (0, 6, 0), (0, 4, 1)], [], [(0, 0, 9), (1, 0, 7), (2, 0, 100), (3, 0, 900), (4, 0, 9), (5, 0, 100), (6, 0, 1000)], [], [(0, (0, 3, 0), (0, 5, 0), 6)], [])] (by decide +kernel) (ρ0 := (fun s => [x0, x1, x2, x3, x4, x5].getD s 0)) hB eF trivial ⟨rfl, ⟨rfl, ⟨rfl, ⟨rfl, ⟨rfl, ⟨rfl, trivial⟩⟩⟩⟩⟩⟩ ⟨rfl, ⟨rfl, trivial⟩⟩ ?_
  refine List.forall_mem_cons.mpr ⟨?_, fun _ h => absurd h List.not_mem_nil⟩
  · intro ρ τ Lc stc hx g1 g2 g3 g4 g5 g6 g7 g8
    have e0 : ρ 0 = x0 := hx 0 (by decide)
    have e1 : ρ 1 = x1 := hx 1 (by decide)
    have e2 : ρ 2 = x2 := hx 2 (by decide)
    have e3 : ρ 3 = x3 := hx 3 (by decide)
    have e4 : ρ 4 = x4 := hx 4 (by decide)
    have e5 : ρ 5 = x5 := hx 5 (by decide)
    subst e0
    subst e1
    subst e2
    subst e3
    subst e4
    subst e5
    have g7 := g7 (by decide)
    match Lc, stc, g7, g8 with
    | [v0, v1, v2, v3, v4, v5], [], ⟨hv0, hv1, hv2, hv3, hv4, hv5, _⟩, _ =>
      cases hv0
      cases hv1
      cases hv2
      cases hv3
      cases hv4
      cases hv5
      exact l0 τ ρ  g1 g2 g3 g4 g5 g6
set_option maxRecDepth 100000 in
theorem sg_tc38 {σ : pm_S} {Q : Option Value → pm_S → Prop} (x0 x1 x2 x3 x4 : Int)  (hB : an_GB pm_B σ) (eF : (0 ≤ x0 ∧ x0 ≤ 9) ∧ (0 ≤ x1 ∧ x1 ≤ 7) ∧ (0 ≤ x2 ∧ x2 ≤ 100) ∧ (0 ≤ x3 ∧ x3 ≤ 1000) ∧ (0 ≤ x4 ∧ x4 ≤ 10) ∧ True)
    (l0 : ∀ (τ : pm_S) (y : Nat → Int), an_GB pm_B τ → FQ [] σ τ → ((0 ≤ x0 ∧ x0 ≤ 9) ∧ (0 ≤ x1 ∧ x1 ≤ 7) ∧ (0 ≤ x2 ∧ x2 ≤ 100) ∧ (0 ≤ x3 ∧ x3 ≤ 1000) ∧ (0 ≤ x4 ∧ x4 ≤ 10) ∧ (0 ≤ y 5 ∧ y 5 ≤ 100) ∧ (0 ≤ y 6 ∧ y 6 ≤ 72) ∧ (0 ≤ y 7 ∧ y 7 ≤ 79) ∧ True) → (True) → ((an_f 0 (Int32.ofInt (x3)) (Int32.ofInt (x2))).toInt = y 5 ∧ (an_f 2 (Int32.ofInt (x0)) (Int32.ofInt (8))).toInt = y 6 ∧ (an_f 0 (Int32.ofInt (y 6)) (Int32.ofInt (x1))).toInt = y 7 ∧ True) → (True) → Ok 86 21 53 [.ref 3, .int (Int32.ofInt (x0)), .int (Int32.ofInt (x1)), .int (Int32.ofInt (x2)), .int (Int32.ofInt (x3)), .int (Int32.ofInt (x4))] [.int (Int32.ofInt (x2)), .int (Int32.ofInt (y 7)), .ref 6] τ Q)
    (l1 : ∀ (τ : pm_S) (y : Nat → Int), an_GB pm_B τ → FQ [] σ τ → ((0 ≤ x0 ∧ x0 ≤ 9) ∧ (0 ≤ x1 ∧ x1 ≤ 7) ∧ (0 ≤ x2 ∧ x2 ≤ 100) ∧ (0 ≤ x3 ∧ x3 ≤ 1000) ∧ (0 ≤ x4 ∧ x4 ≤ 10) ∧ (101 ≤ y 5 ∧ y 5 ≤ 1100) ∧ True) → (True) → ((an_f 0 (Int32.ofInt (x3)) (Int32.ofInt (x2))).toInt = y 5 ∧ True) → (True) → Q (some (.int (Int32.ofInt 0))) τ)
    : Ok 86 21 38 [.ref 3, .int (Int32.ofInt (x0)), .int (Int32.ofInt (x1)), .int (Int32.ofInt (x2)), .int (Int32.ofInt (x3)), .int (Int32.ofInt (x4))] [] σ Q := by
  refine an_seg (B := pm_B) (F := []) (T := []) (S := []) (fun _ h => absurd h List.not_mem_nil) (k := 86) (d := 20) (cs := [53]) 15 38 5 [(0, 0, 9), (1, 0, 7), (2, 0, 100), (3, 0, 1000), (4, 0, 10)] [] [(2, 3, 0), (0, 0, 0), (0, 1, 0), (0, 2, 0), (0, 3, 0), (0, 4, 0)] [] [(53, [(2, 3, 0), (0, 0, 0), (0, 1, 0), (0, 2, 0), (0, 3, 0), (0, 4, 0)], [(0, 2, 0), (0, 7, 0), (2, 6, 0)], [(0, 0, 9), (1, 0, 7), (2, 0, 100), (3, 0, 1000), (4, 0, 10), (5, 0, 100), (6, 0, 72), (7, 0, 79)], [], [(0, (0, 3, 0), (0, 2, 0), 5), (2, (0, 0, 0), (1, 0, 8), 6), (0, (0, 6, 0), (0, 1, 0), 7)], []),
    (9999, [], [(1, 0, 0)], [(0, 0, 9), (1, 0, 7), (2, 0, 100), (3, 0, 1000), (4, 0, 10), (5, 101, 1100)], [], [(0, (0, 3, 0), (0, 2, 0), 5)], [])] (by decide +kernel) (ρ0 := (fun s => [x0, x1, x2, x3, x4].getD s 0)) hB eF trivial ⟨rfl, ⟨rfl, ⟨rfl, ⟨rfl, ⟨rfl, ⟨rfl, trivial⟩⟩⟩⟩⟩⟩ trivial ?_
  refine List.forall_mem_cons.mpr ⟨?_, List.forall_mem_cons.mpr ⟨?_, fun _ h => absurd h List.not_mem_nil⟩⟩
  · intro ρ τ Lc stc hx g1 g2 g3 g4 g5 g6 g7 g8
    have e0 : ρ 0 = x0 := hx 0 (by decide)
    have e1 : ρ 1 = x1 := hx 1 (by decide)
    have e2 : ρ 2 = x2 := hx 2 (by decide)
    have e3 : ρ 3 = x3 := hx 3 (by decide)
    have e4 : ρ 4 = x4 := hx 4 (by decide)
    subst e0
    subst e1
    subst e2
    subst e3
    subst e4
    have g7 := g7 (by decide)
    match Lc, stc, g7, g8 with
    | [v0, v1, v2, v3, v4, v5], [w0, w1, w2], ⟨hv0, hv1, hv2, hv3, hv4, hv5, _⟩, ⟨hw0, hw1, hw2, _⟩ =>
      cases hv0
      cases hv1
      cases hv2
      cases hv3
      cases hv4
      cases hv5
      cases hw0
      cases hw1
      cases hw2
      exact l0 τ ρ  g1 g2 g3 g4 g5 g6
  · intro ρ τ Lc stc hx g1 g2 g3 g4 g5 g6 g7 g8
    have e0 : ρ 0 = x0 := hx 0 (by decide)
    have e1 : ρ 1 = x1 := hx 1 (by decide)
    have e2 : ρ 2 = x2 := hx 2 (by decide)
    have e3 : ρ 3 = x3 := hx 3 (by decide)
    have e4 : ρ 4 = x4 := hx 4 (by decide)
    subst e0
    subst e1
    subst e2
    subst e3
    subst e4
    match stc, g8 with
    | [_], ⟨h, _⟩ => cases h; exact l1 τ ρ g1 g2 g3 g4 g5 g6
set_option maxRecDepth 100000 in
theorem sg_tc54 {σ : pm_S} {Q : Option Value → pm_S → Prop} (x0 x1 x2 x3 x4 : Int)  (hB : an_GB pm_B σ) (eF : (0 ≤ x0 ∧ x0 ≤ 9) ∧ (0 ≤ x1 ∧ x1 ≤ 7) ∧ (0 ≤ x2 ∧ x2 ≤ 100) ∧ (0 ≤ x3 ∧ x3 ≤ 1000) ∧ (0 ≤ x4 ∧ x4 ≤ 10) ∧ True)
    (l0 : ∀ (τ : pm_S) (y : Nat → Int), an_GB pm_B τ → FQ [] σ τ → ((0 ≤ x0 ∧ x0 ≤ 9) ∧ (0 ≤ x1 ∧ x1 ≤ 7) ∧ (0 ≤ x2 ∧ x2 ≤ 100) ∧ (0 ≤ x3 ∧ x3 ≤ 1000) ∧ (0 ≤ x4 ∧ x4 ≤ 10) ∧ True) → (True) → (True) → (True) → Q (some (.int (Int32.ofInt 1))) τ)
    : Ok 86 21 54 [.ref 3, .int (Int32.ofInt (x0)), .int (Int32.ofInt (x1)), .int (Int32.ofInt (x2)), .int (Int32.ofInt (x3)), .int (Int32.ofInt (x4))] [] σ Q := by
  refine an_seg (B := pm_B) (F := []) (T := []) (S := []) (fun _ h => absurd h List.not_mem_nil) (k := 86) (d := 20) (cs := []) 4 54 5 [(0, 0, 9), (1, 0, 7), (2, 0, 100), (3, 0, 1000), (4, 0, 10)] [] [(2, 3, 0), (0, 0, 0), (0, 1, 0), (0, 2, 0), (0, 3, 0), (0, 4, 0)] [] [(9999, [], [(1, 0, 1)], [(0, 0, 9), (1, 0, 7), (2, 0, 100), (3, 0, 1000), (4, 0, 10)], [], [], [])] (by decide +kernel) (ρ0 := (fun s => [x0, x1, x2, x3, x4].getD s 0)) hB eF trivial ⟨rfl, ⟨rfl, ⟨rfl, ⟨rfl, ⟨rfl, ⟨rfl, trivial⟩⟩⟩⟩⟩⟩ trivial ?_
  refine List.forall_mem_cons.mpr ⟨?_, fun _ h => absurd h List.not_mem_nil⟩
  · intro ρ τ Lc stc hx g1 g2 g3 g4 g5 g6 g7 g8
    have e0 : ρ 0 = x0 := hx 0 (by decide)
    have e1 : ρ 1 = x1 := hx 1 (by decide)
    have e2 : ρ 2 = x2 := hx 2 (by decide)
    have e3 : ρ 3 = x3 := hx 3 (by decide)
    have e4 : ρ 4 = x4 := hx 4 (by decide)
    subst e0
    subst e1
    subst e2
    subst e3
    subst e4
    match stc, g8 with
    | [_], ⟨h, _⟩ => cases h; exact l0 τ ρ g1 g2 g3 g4 g5 g6
set_option maxRecDepth 100000 in
theorem sg_cc0 {σ : pm_S} {Q : Option Value → pm_S → Prop} (x0 x1 x2 : Int)  (hB : an_GB pm_B σ) (eF : ((-2147483648) ≤ x0 ∧ x0 ≤ 2147483647) ∧ ((-2147483648) ≤ x1 ∧ x1 ≤ 2147483647) ∧ ((-2147483648) ≤ x2 ∧ x2 ≤ 2147483647) ∧ True)
    (l0 : ∀ (τ : pm_S) (y : Nat → Int), an_GB pm_B τ → FQ [] σ τ → (((-2147483648) ≤ x0 ∧ x0 ≤ 2147483647) ∧ ((-2147483648) ≤ x1 ∧ x1 ≤ 2147483647) ∧ ((-2147483648) ≤ x2 ∧ x2 ≤ 2147483647) ∧ True) → (True) → (True) → (True) → Ok 147 23 6 [.ref 0, .int (Int32.ofInt (x0)), .int (Int32.ofInt (x1)), .int (Int32.ofInt (x2))] [.int (Int32.ofInt (x2)), .int (Int32.ofInt (x1)), .int (Int32.ofInt (x0)), .ref 3] τ Q)
    : Ok 147 23 0 [.ref 0, .int (Int32.ofInt (x0)), .int (Int32.ofInt (x1)), .int (Int32.ofInt (x2))] [] σ Q := by
  refine an_seg (B := pm_B) (F := []) (T := []) (S := []) (fun _ h => absurd h List.not_mem_nil) (k := 147) (d := 22) (cs := [6]) 8 0 3 [(0, (-2147483648), 2147483647), (1, (-2147483648), 2147483647), (2, (-2147483648), 2147483647)] [] [(2, 0, 0), (0, 0, 0), (0, 1, 0), (0, 2, 0)] [] [(6, [(2, 0, 0), (0, 0, 0), (0, 1, 0), (0, 2, 0)], [(0, 2, 0), (0, 1, 0), (0, 0, 0), (2, 3, 0)], [(0, (-2147483648), 2147483647), (1, (-2147483648), 2147483647), (2, (-2147483648), 2147483647)], [], [], [])] (by decide +kernel) (ρ0 := (fun s => [x0, x1, x2].getD s 0)) hB eF trivial ⟨rfl, ⟨rfl, ⟨rfl, ⟨rfl, trivial⟩⟩⟩⟩ trivial ?_
  refine List.forall_mem_cons.mpr ⟨?_, fun _ h => absurd h List.not_mem_nil⟩
  · intro ρ τ Lc stc hx g1 g2 g3 g4 g5 g6 g7 g8
    have e0 : ρ 0 = x0 := hx 0 (by decide)
    have e1 : ρ 1 = x1 := hx 1 (by decide)
    have e2 : ρ 2 = x2 := hx 2 (by decide)
    subst e0
    subst e1
    subst e2
    have g7 := g7 (by decide)
    match Lc, stc, g7, g8 with
    | [v0, v1, v2, v3], [w0, w1, w2, w3], ⟨hv0, hv1, hv2, hv3, _⟩, ⟨hw0, hw1, hw2, hw3, _⟩ =>
      cases hv0
      cases hv1
      cases hv2
      cases hv3
      cases hw0
      cases hw1
      cases hw2
      cases hw3
      exact l0 τ ρ  g1 g2 g3 g4 g5 g6
set_option maxRecDepth 100000 in
theorem sg_cc7 {σ : pm_S} {Q : Option Value → pm_S → Prop} (x0 x1 x2 x3 : Int)  (hB : an_GB pm_B σ) (eF : ((-2147483648) ≤ x0 ∧ x0 ≤ 2147483647) ∧ ((-2147483648) ≤ x1 ∧ x1 ≤ 2147483647) ∧ ((-2147483648) ≤ x2 ∧ x2 ≤ 2147483647) ∧ (0 ≤ x3 ∧ x3 ≤ 1) ∧ True)
    (l0 : ∀ (τ : pm_S) (y : Nat → Int), an_GB pm_B τ → FQ [] σ τ → (((-2147483648) ≤ x0 ∧ x0 ≤ 2147483647) ∧ ((-2147483648) ≤ x1 ∧ x1 ≤ 2147483647) ∧ ((-2147483648) ≤ x2 ∧ x2 ≤ 2147483647) ∧ (0 ≤ x3 ∧ x3 ≤ 1) ∧ True) → (True) → (True) → (True) → Q (some (.int (Int32.ofInt (x3)))) τ)
    : Ok 147 23 7 [.ref 0, .int (Int32.ofInt (x0)), .int (Int32.ofInt (x1)), .int (Int32.ofInt (x2))] [.int (Int32.ofInt (x3))] σ Q := by
  refine an_seg (B := pm_B) (F := []) (T := []) (S := []) (fun _ h => absurd h List.not_mem_nil) (k := 147) (d := 22) (cs := []) 3 7 4 [(0, (-2147483648), 2147483647), (1, (-2147483648), 2147483647), (2, (-2147483648), 2147483647), (3, 0, 1)] [] [(2, 0, 0), (0, 0, 0), (0, 1, 0), (0, 2, 0)] [(0, 3, 0)] [(9999, [], [(0, 3, 0)], [(0, (-2147483648), 2147483647), (1, (-2147483648), 2147483647), (2, (-2147483648), 2147483647), (3, 0, 1)], [], [], [])] (by decide +kernel) (ρ0 := (fun s => [x0, x1, x2, x3].getD s 0)) hB eF trivial ⟨rfl, ⟨rfl, ⟨rfl, ⟨rfl, trivial⟩⟩⟩⟩ ⟨rfl, trivial⟩ ?_
  refine List.forall_mem_cons.mpr ⟨?_, fun _ h => absurd h List.not_mem_nil⟩
  · intro ρ τ Lc stc hx g1 g2 g3 g4 g5 g6 g7 g8
    have e0 : ρ 0 = x0 := hx 0 (by decide)
    have e1 : ρ 1 = x1 := hx 1 (by decide)
    have e2 : ρ 2 = x2 := hx 2 (by decide)
    have e3 : ρ 3 = x3 := hx 3 (by decide)
    subst e0
    subst e1
    subst e2
    subst e3
    match stc, g8 with
    | [_], ⟨h, _⟩ => cases h; exact l0 τ ρ g1 g2 g3 g4 g5 g6
set_option maxRecDepth 100000 in
theorem sg_mc0 {σ : pm_S} {Q : Option Value → pm_S → Prop} (x0 x1 x2 x3 : Int) (v4 : Value) (v5 : Value) (hv4 : v4.category = 1) (hv5 : v5.category = 1) (hB : an_GB pm_B σ) (eF : ((-2147483648) ≤ x0 ∧ x0 ≤ 2147483647) ∧ ((-2147483648) ≤ x1 ∧ x1 ≤ 2147483647) ∧ ((-2147483648) ≤ x2 ∧ x2 ≤ 2147483647) ∧ (0 ≤ x3 ∧ x3 ≤ 10) ∧ True) (eC : (σ.1 93 2).toInt = x3 ∧ True)
    (l0 : ∀ (τ : pm_S) (y : Nat → Int) (v4 : Value) (v5 : Value), v4.category = 1 → v5.category = 1 → an_GB pm_B τ → FQ [(93, 0)] σ τ → (((-2147483648) ≤ x0 ∧ x0 ≤ 2147483647) ∧ ((-2147483648) ≤ x1 ∧ x1 ≤ 2147483647) ∧ ((-2147483648) ≤ x2 ∧ x2 ≤ 2147483647) ∧ (0 ≤ x3 ∧ x3 ≤ 10) ∧ True) → (True) → (True) → ((τ.1 93 2).toInt = x3 ∧ True) → Ok 230 21 5 [.ref 93, .int (Int32.ofInt (x0)), .int (Int32.ofInt (x1)), .int (Int32.ofInt (x2)), v4, v5] [.int (Int32.ofInt (x0)), .ref 93] τ Q)
    : Ok 230 21 0 [.ref 93, .int (Int32.ofInt (x0)), .int (Int32.ofInt (x1)), .int (Int32.ofInt (x2)), v4, v5] [] σ Q := by
  refine an_seg (B := pm_B) (F := [(93, 0)]) (T := []) (S := []) (fun _ h => absurd h List.not_mem_nil) (k := 230) (d := 20) (cs := [5]) 7 0 4 [(0, (-2147483648), 2147483647), (1, (-2147483648), 2147483647), (2, (-2147483648), 2147483647), (3, 0, 10)] [(93, (1, 0, 2), (0, 3, 0))] [(2, 93, 0), (0, 0, 0), (0, 1, 0), (0, 2, 0), (5, 0, 0), (5, 0, 0)] [] [(5, [(2, 93, 0), (0, 0, 0), (0, 1, 0), (0, 2, 0), (5, 0, 0), (5, 0, 0)], [(0, 0, 0), (2, 93, 0)], [(0, (-2147483648), 2147483647), (1, (-2147483648), 2147483647), (2, (-2147483648), 2147483647), (3, 0, 10)], [], [], [(93, (1, 0, 2), (0, 3, 0))])] (by decide +kernel) (ρ0 := (fun s => [x0, x1, x2, x3].getD s 0)) hB eF eC ⟨rfl, ⟨rfl, ⟨rfl, ⟨rfl, ⟨hv4, ⟨hv5, trivial⟩⟩⟩⟩⟩⟩ trivial ?_
  refine List.forall_mem_cons.mpr ⟨?_, fun _ h => absurd h List.not_mem_nil⟩
  · intro ρ τ Lc stc hx g1 g2 g3 g4 g5 g6 g7 g8
    have e0 : ρ 0 = x0 := hx 0 (by decide)
    have e1 : ρ 1 = x1 := hx 1 (by decide)
    have e2 : ρ 2 = x2 := hx 2 (by decide)
    have e3 : ρ 3 = x3 := hx 3 (by decide)
    subst e0
    subst e1
    subst e2
    subst e3
    have g7 := g7 (by decide)
    match Lc, stc, g7, g8 with
    | [v0, v1, v2, v3, v4, v5], [w0, w1], ⟨hv0, hv1, hv2, hv3, hv4, hv5, _⟩, ⟨hw0, hw1, _⟩ =>
      cases hv0
      cases hv1
      cases hv2
      cases hv3
      cases hw0
      cases hw1
      exact l0 τ ρ v4 v5 hv4 hv5 g1 g2 g3 g4 g5 g6
set_option maxRecDepth 100000 in
theorem sg_mc6 {σ : pm_S} {Q : Option Value → pm_S → Prop} (x0 x1 x2 : Int) (v4 : Value) (v5 : Value) (hv4 : v4.category = 1) (hv5 : v5.category = 1) (hB : an_GB pm_B σ) (eF : (0 ≤ x0 ∧ x0 ≤ 9) ∧ ((-2147483648) ≤ x1 ∧ x1 ≤ 2147483647) ∧ ((-2147483648) ≤ x2 ∧ x2 ≤ 2147483647) ∧ True)
    (l0 : ∀ (τ : pm_S) (y : Nat → Int), an_GB pm_B τ → FQ [] σ τ → ((0 ≤ x0 ∧ x0 ≤ 9) ∧ ((-2147483648) ≤ x1 ∧ x1 ≤ (-1)) ∧ ((-2147483648) ≤ x2 ∧ x2 ≤ 2147483647) ∧ True) → (True) → (True) → (True) → Q (some (.int (Int32.ofInt 0))) τ)
    (l1 : ∀ (τ : pm_S) (y : Nat → Int), an_GB pm_B τ → FQ [] σ τ → ((0 ≤ x0 ∧ x0 ≤ 9) ∧ (8 ≤ x1 ∧ x1 ≤ 2147483647) ∧ ((-2147483648) ≤ x2 ∧ x2 ≤ 2147483647) ∧ True) → (True) → (True) → (True) → Q (some (.int (Int32.ofInt 0))) τ)
    (l2 : ∀ (τ : pm_S) (y : Nat → Int), an_GB pm_B τ → FQ [] σ τ → ((0 ≤ x0 ∧ x0 ≤ 9) ∧ (0 ≤ x1 ∧ x1 ≤ 7) ∧ ((-2147483648) ≤ x2 ∧ x2 ≤ (-1)) ∧ True) → (True) → (True) → (True) → Q (some (.int (Int32.ofInt 0))) τ)
    (l3 : ∀ (τ : pm_S) (y : Nat → Int), an_GB pm_B τ → FQ [] σ τ → ((0 ≤ x0 ∧ x0 ≤ 9) ∧ (0 ≤ x1 ∧ x1 ≤ 7) ∧ (101 ≤ x2 ∧ x2 ≤ 2147483647) ∧ True) → (True) → (True) → (True) → Q (some (.int (Int32.ofInt 0))) τ)
    (l4 : ∀ (τ : pm_S) (y : Nat → Int), an_GB pm_B τ → FQ [] σ τ → ((0 ≤ x0 ∧ x0 ≤ 9) ∧ (0 ≤ x1 ∧ x1 ≤ 7) ∧ (0 ≤ x2 ∧ x2 ≤ 100) ∧ True) → (True) → (True) → (True) → Ok 230 21 25 [.ref 93, .int (Int32.ofInt (x0)), .int (Int32.ofInt (x1)), .int (Int32.ofInt (x2)), .int (Int32.ofInt (x2)), .int (Int32.ofInt 0)] [] τ Q)
    : Ok 230 21 6 [.ref 93, .int (Int32.ofInt (x0)), .int (Int32.ofInt (x1)), .int (Int32.ofInt (x2)), v4, v5] [.int (Int32.ofInt 1)] σ Q := by
  refine an_seg (B := pm_B) (F := []) (T := []) (S := []) (fun _ h => absurd h List.not_mem_nil) (k := 230) (d := 20) (cs := [25]) 37 6 3 [(0, 0, 9), (1, (-2147483648), 2147483647), (2, (-2147483648), 2147483647)] [] [(2, 93, 0), (0, 0, 0), (0, 1, 0), (0, 2, 0), (5, 0, 0), (5, 0, 0)] [(1, 0, 1)] [(9999, [], [(1, 0, 0)], [(0, 0, 9), (1, (-2147483648), (-1)), (2, (-2147483648), 2147483647)], [], [], []),
    (9999, [], [(1, 0, 0)], [(0, 0, 9), (1, 8, 2147483647), (2, (-2147483648), 2147483647)], [], [], []),
    (9999, [], [(1, 0, 0)], [(0, 0, 9), (1, 0, 7), (2, (-2147483648), (-1))], [], [], []),
    (9999, [], [(1, 0, 0)], [(0, 0, 9), (1, 0, 7), (2, 101, 2147483647)], [], [], []),
    (25, [(2, 93, 0), (0, 0, 0), (0, 1, 0), (0, 2, 0), (0, 2, 0), (1, 0, 0)], [], [(0, 0, 9), (1, 0, 7), (2, 0, 100)], [], [], [])] (by decide +kernel) (ρ0 := (fun s => [x0, x1, x2].getD s 0)) hB eF trivial ⟨rfl, ⟨rfl, ⟨rfl, ⟨rfl, ⟨hv4, ⟨hv5, trivial⟩⟩⟩⟩⟩⟩ ⟨rfl, trivial⟩ ?_
  refine List.forall_mem_cons.mpr ⟨?_, List.forall_mem_cons.mpr ⟨?_, List.forall_mem_cons.mpr ⟨?_, List.forall_mem_cons.mpr ⟨?_, List.forall_mem_cons.mpr ⟨?_, fun _ h => absurd h List.not_mem_nil⟩⟩⟩⟩⟩
  · intro ρ τ Lc stc hx g1 g2 g3 g4 g5 g6 g7 g8
    have e0 : ρ 0 = x0 := hx 0 (by decide)
    have e1 : ρ 1 = x1 := hx 1 (by decide)
    have e2 : ρ 2 = x2 := hx 2 (by decide)
    subst e0
    subst e1
    subst e2
    match stc, g8 with
    | [_], ⟨h, _⟩ => cases h; exact l0 τ ρ g1 g2 g3 g4 g5 g6
  · intro ρ τ Lc stc hx g1 g2 g3 g4 g5 g6 g7 g8
    have e0 : ρ 0 = x0 := hx 0 (by decide)
    have e1 : ρ 1 = x1 := hx 1 (by decide)
    have e2 : ρ 2 = x2 := hx 2 (by decide)
    subst e0
    subst e1
    subst e2
    match stc, g8 with
    | [_], ⟨h, _⟩ => cases h; exact l1 τ ρ g1 g2 g3 g4 g5 g6
  · intro ρ τ Lc stc hx g1 g2 g3 g4 g5 g6 g7 g8
    have e0 : ρ 0 = x0 := hx 0 (by decide)
    have e1 : ρ 1 = x1 := hx 1 (by decide)
    have e2 : ρ 2 = x2 := hx 2 (by decide)
    subst e0
    subst e1
    subst e2
    match stc, g8 with
    | [_], ⟨h, _⟩ => cases h; exact l2 τ ρ g1 g2 g3 g4 g5 g6
  · intro ρ τ Lc stc hx g1 g2 g3 g4 g5 g6 g7 g8
    have e0 : ρ 0 = x0 := hx 0 (by decide)
    have e1 : ρ 1 = x1 := hx 1 (by decide)
    have e2 : ρ 2 = x2 := hx 2 (by decide)
    subst e0
    subst e1
    subst e2
    match stc, g8 with
    | [_], ⟨h, _⟩ => cases h; exact l3 τ ρ g1 g2 g3 g4 g5 g6
  · intro ρ τ Lc stc hx g1 g2 g3 g4 g5 g6 g7 g8
    have e0 : ρ 0 = x0 := hx 0 (by decide)
    have e1 : ρ 1 = x1 := hx 1 (by decide)
    have e2 : ρ 2 = x2 := hx 2 (by decide)
    subst e0
    subst e1
    subst e2
    have g7 := g7 (by decide)
    match Lc, stc, g7, g8 with
    | [v0, v1, v2, v3, v4, v5], [], ⟨hv0, hv1, hv2, hv3, hv4, hv5, _⟩, _ =>
      cases hv0
      cases hv1
      cases hv2
      cases hv3
      cases hv4
      cases hv5
      exact l4 τ ρ  g1 g2 g3 g4 g5 g6
set_option maxRecDepth 100000 in
theorem sg_mc6n {σ : pm_S} {Q : Option Value → pm_S → Prop} (v1 : Value) (v2 : Value) (v3 : Value) (v4 : Value) (v5 : Value) (hv1 : v1.category = 1) (hv2 : v2.category = 1) (hv3 : v3.category = 1) (hv4 : v4.category = 1) (hv5 : v5.category = 1) (hB : an_GB pm_B σ)
    (l0 : ∀ (τ : pm_S) (y : Nat → Int), an_GB pm_B τ → FQ [] σ τ → (True) → (True) → (True) → (True) → Q (some (.int (Int32.ofInt 0))) τ)
    : Ok 230 21 6 [.ref 93, v1, v2, v3, v4, v5] [.int (Int32.ofInt 0)] σ Q := by
  refine an_seg (B := pm_B) (F := []) (T := []) (S := []) (fun _ h => absurd h List.not_mem_nil) (k := 230) (d := 20) (cs := [25]) 5 6 0 [] [] [(2, 93, 0), (5, 0, 0), (5, 0, 0), (5, 0, 0), (5, 0, 0), (5, 0, 0)] [(1, 0, 0)] [(9999, [], [(1, 0, 0)], [], [], [], [])] (by decide +kernel) (ρ0 := (fun s => [].getD s 0)) hB trivial trivial ⟨rfl, ⟨hv1, ⟨hv2, ⟨hv3, ⟨hv4, ⟨hv5, trivial⟩⟩⟩⟩⟩⟩ ⟨rfl, trivial⟩ ?_
  refine List.forall_mem_cons.mpr ⟨?_, fun _ h => absurd h List.not_mem_nil⟩
  · intro ρ τ Lc stc hx g1 g2 g3 g4 g5 g6 g7 g8
    match stc, g8 with
    | [_], ⟨h, _⟩ => cases h; exact l0 τ ρ g1 g2 g3 g4 g5 g6
set_option maxRecDepth 100000 in
theorem sg_mc25 {σ : pm_S} {Q : Option Value → pm_S → Prop} (x0 x1 x2 x3 x4 x5 : Int)  (hB : an_GB pm_B σ) (eF : (0 ≤ x0 ∧ x0 ≤ 9) ∧ (0 ≤ x1 ∧ x1 ≤ 7) ∧ (0 ≤ x2 ∧ x2 ≤ 100) ∧ (0 ≤ x3 ∧ x3 ≤ 1100) ∧ (0 ≤ x4 ∧ x4 ≤ 10) ∧ (0 ≤ x5 ∧ x5 ≤ 10) ∧ True) (eC : (σ.1 93 2).toInt = x5 ∧ True)
    (l0 : ∀ (τ : pm_S) (y : Nat → Int), an_GB pm_B τ → FQ [] σ τ → ((0 ≤ x0 ∧ x0 ≤ 9) ∧ (0 ≤ x1 ∧ x1 ≤ 7) ∧ (0 ≤ x2 ∧ x2 ≤ 100) ∧ (0 ≤ x3 ∧ x3 ≤ 1100) ∧ (0 ≤ x4 ∧ x4 ≤ 10) ∧ (0 ≤ x5 ∧ x5 ≤ 10) ∧ True) → (True) → (True) → (True) → Ok 230 21 28 [.ref 93, .int (Int32.ofInt (x0)), .int (Int32.ofInt (x1)), .int (Int32.ofInt (x2)), .int (Int32.ofInt (x3)), .int (Int32.ofInt (x4))] [.int (Int32.ofInt (x5)), .int (Int32.ofInt (x4))] τ Q)
    : Ok 230 21 25 [.ref 93, .int (Int32.ofInt (x0)), .int (Int32.ofInt (x1)), .int (Int32.ofInt (x2)), .int (Int32.ofInt (x3)), .int (Int32.ofInt (x4))] [] σ Q := by
  refine an_seg (B := pm_B) (F := []) (T := []) (S := []) (fun _ h => absurd h List.not_mem_nil) (k := 230) (d := 20) (cs := [28]) 5 25 6 [(0, 0, 9), (1, 0, 7), (2, 0, 100), (3, 0, 1100), (4, 0, 10), (5, 0, 10)] [(93, (1, 0, 2), (0, 5, 0))] [(2, 93, 0), (0, 0, 0), (0, 1, 0), (0, 2, 0), (0, 3, 0), (0, 4, 0)] [] [(28, [(2, 93, 0), (0, 0, 0), (0, 1, 0), (0, 2, 0), (0, 3, 0), (0, 4, 0)], [(0, 5, 0), (0, 4, 0)], [(0, 0, 9), (1, 0, 7), (2, 0, 100), (3, 0, 1100), (4, 0, 10), (5, 0, 10)], [], [], [])] (by decide +kernel) (ρ0 := (fun s => [x0, x1, x2, x3, x4, x5].getD s 0)) hB eF eC ⟨rfl, ⟨rfl, ⟨rfl, ⟨rfl, ⟨rfl, ⟨rfl, trivial⟩⟩⟩⟩⟩⟩ trivial ?_
  refine List.forall_mem_cons.mpr ⟨?_, fun _ h => absurd h List.not_mem_nil⟩
  · intro ρ τ Lc stc hx g1 g2 g3 g4 g5 g6 g7 g8
    have e0 : ρ 0 = x0 := hx 0 (by decide)
    have e1 : ρ 1 = x1 := hx 1 (by decide)
    have e2 : ρ 2 = x2 := hx 2 (by decide)
    have e3 : ρ 3 = x3 := hx 3 (by decide)
    have e4 : ρ 4 = x4 := hx 4 (by decide)
    have e5 : ρ 5 = x5 := hx 5 (by decide)
    subst e0
    subst e1
    subst e2
    subst e3
    subst e4
    subst e5
    have g7 := g7 (by decide)
    match Lc, stc, g7, g8 with
    | [v0, v1, v2, v3, v4, v5], [w0, w1], ⟨hv0, hv1, hv2, hv3, hv4, hv5, _⟩, ⟨hw0, hw1, _⟩ =>
      cases hv0
      cases hv1
      cases hv2
      cases hv3
      cases hv4
      cases hv5
      cases hw0
      cases hw1
      exact l0 τ ρ  g1 g2 g3 g4 g5 g6
set_option maxRecDepth 100000 in
theorem sg_mc29 {σ : pm_S} {Q : Option Value → pm_S → Prop} (x0 x1 x2 x3 x4 : Int)  (hB : an_GB pm_B σ) (eF : (0 ≤ x0 ∧ x0 ≤ 9) ∧ (0 ≤ x1 ∧ x1 ≤ 7) ∧ (0 ≤ x2 ∧ x2 ≤ 100) ∧ (0 ≤ x3 ∧ x3 ≤ 1000) ∧ (0 ≤ x4 ∧ x4 ≤ 9) ∧ True)
    (l0 : ∀ (τ : pm_S) (y : Nat → Int), an_GB pm_B τ → FQ [] σ τ → ((0 ≤ x0 ∧ x0 ≤ 9) ∧ (0 ≤ x1 ∧ x1 ≤ 7) ∧ (0 ≤ x2 ∧ x2 ≤ 100) ∧ (0 ≤ x3 ∧ x3 ≤ 1000) ∧ (0 ≤ x4 ∧ x4 ≤ 9) ∧ True) → (True) → (True) → (True) → Ok 230 21 31 [.ref 93, .int (Int32.ofInt (x0)), .int (Int32.ofInt (x1)), .int (Int32.ofInt (x2)), .int (Int32.ofInt (x3)), .int (Int32.ofInt (x4))] [.int (Int32.ofInt (x0)), .int (Int32.ofInt (x4))] τ Q)
    : Ok 230 21 29 [.ref 93, .int (Int32.ofInt (x0)), .int (Int32.ofInt (x1)), .int (Int32.ofInt (x2)), .int (Int32.ofInt (x3)), .int (Int32.ofInt (x4))] [] σ Q := by
  refine an_seg (B := pm_B) (F := []) (T := []) (S := []) (fun _ h => absurd h List.not_mem_nil) (k := 230) (d := 20) (cs := [31]) 4 29 5 [(0, 0, 9), (1, 0, 7), (2, 0, 100), (3, 0, 1000), (4, 0, 9)] [] [(2, 93, 0), (0, 0, 0), (0, 1, 0), (0, 2, 0), (0, 3, 0), (0, 4, 0)] [] [(31, [(2, 93, 0), (0, 0, 0), (0, 1, 0), (0, 2, 0), (0, 3, 0), (0, 4, 0)], [(0, 0, 0), (0, 4, 0)], [(0, 0, 9), (1, 0, 7), (2, 0, 100), (3, 0, 1000), (4, 0, 9)], [], [], [])] (by decide +kernel) (ρ0 := (fun s => [x0, x1, x2, x3, x4].getD s 0)) hB eF trivial ⟨rfl, ⟨rfl, ⟨rfl, ⟨rfl, ⟨rfl, ⟨rfl, trivial⟩⟩⟩⟩⟩⟩ trivial ?_
  refine List.forall_mem_cons.mpr ⟨?_, fun _ h => absurd h List.not_mem_nil⟩
  · intro ρ τ Lc stc hx g1 g2 g3 g4 g5 g6 g7 g8
    have e0 : ρ 0 = x0 := hx 0 (by decide)
    have e1 : ρ 1 = x1 := hx 1 (by decide)
    have e2 : ρ 2 = x2 := hx 2 (by decide)
    have e3 : ρ 3 = x3 := hx 3 (by decide)
    have e4 : ρ 4 = x4 := hx 4 (by decide)
    subst e0
    subst e1
    subst e2
    subst e3
    subst e4
    have g7 := g7 (by decide)
    match Lc, stc, g7, g8 with
    | [v0, v1, v2, v3, v4, v5], [w0, w1], ⟨hv0, hv1, hv2, hv3, hv4, hv5, _⟩, ⟨hw0, hw1, _⟩ =>
      cases hv0
      cases hv1
      cases hv2
      cases hv3
      cases hv4
      cases hv5
      cases hw0
      cases hw1
      exact l0 τ ρ  g1 g2 g3 g4 g5 g6
set_option maxRecDepth 100000 in
theorem sg_mc43 {σ : pm_S} {Q : Option Value → pm_S → Prop} (x0 x1 x2 x3 x4 : Int)  (hB : an_GB pm_B σ) (eF : (0 ≤ x0 ∧ x0 ≤ 9) ∧ (0 ≤ x1 ∧ x1 ≤ 7) ∧ (0 ≤ x2 ∧ x2 ≤ 100) ∧ (0 ≤ x3 ∧ x3 ≤ 1000) ∧ (0 ≤ x4 ∧ x4 ≤ 9) ∧ True)
    (l0 : ∀ (τ : pm_S) (y : Nat → Int), an_GB pm_B τ → FQ [] σ τ → ((0 ≤ x0 ∧ x0 ≤ 9) ∧ (0 ≤ x1 ∧ x1 ≤ 7) ∧ (0 ≤ x2 ∧ x2 ≤ 100) ∧ (0 ≤ x3 ∧ x3 ≤ 1000) ∧ (0 ≤ x4 ∧ x4 ≤ 9) ∧ True) → (True) → (True) → (True) → Ok 230 21 25 [.ref 93, .int (Int32.ofInt (x0)), .int (Int32.ofInt (x1)), .int (Int32.ofInt (x2)), .int (Int32.ofInt (x3)), .int (Int32.ofInt (x4 + 1))] [] τ Q)
    : Ok 230 21 43 [.ref 93, .int (Int32.ofInt (x0)), .int (Int32.ofInt (x1)), .int (Int32.ofInt (x2)), .int (Int32.ofInt (x3)), .int (Int32.ofInt (x4))] [] σ Q := by
  refine an_seg (B := pm_B) (F := []) (T := []) (S := []) (fun _ h => absurd h List.not_mem_nil) (k := 230) (d := 20) (cs := [25]) 4 43 5 [(0, 0, 9), (1, 0, 7), (2, 0, 100), (3, 0, 1000), (4, 0, 9)] [] [(2, 93, 0), (0, 0, 0), (0, 1, 0), (0, 2, 0), (0, 3, 0), (0, 4, 0)] [] [(25, [(2, 93, 0), (0, 0, 0), (0, 1, 0), (0, 2, 0), (0, 3, 0), (0, 4, 1)], [], [(0, 0, 9), (1, 0, 7), (2, 0, 100), (3, 0, 1000), (4, 0, 9)], [], [], [])] (by decide +kernel) (ρ0 := (fun s => [x0, x1, x2, x3, x4].getD s 0)) hB eF trivial ⟨rfl, ⟨rfl, ⟨rfl, ⟨rfl, ⟨rfl, ⟨rfl, trivial⟩⟩⟩⟩⟩⟩ trivial ?_
  refine List.forall_mem_cons.mpr ⟨?_, fun _ h => absurd h List.not_mem_nil⟩
  · intro ρ τ Lc stc hx g1 g2 g3 g4 g5 g6 g7 g8
    have e0 : ρ 0 = x0 := hx 0 (by decide)
    have e1 : ρ 1 = x1 := hx 1 (by decide)
    have e2 : ρ 2 = x2 := hx 2 (by decide)
    have e3 : ρ 3 = x3 := hx 3 (by decide)
    have e4 : ρ 4 = x4 := hx 4 (by decide)
    subst e0
    subst e1
    subst e2
    subst e3
    subst e4
    have g7 := g7 (by decide)
    match Lc, stc, g7, g8 with
    | [v0, v1, v2, v3, v4, v5], [], ⟨hv0, hv1, hv2, hv3, hv4, hv5, _⟩, _ =>
      cases hv0
      cases hv1
      cases hv2
      cases hv3
      cases hv4
      cases hv5
      exact l0 τ ρ  g1 g2 g3 g4 g5 g6
set_option maxRecDepth 100000 in
theorem sg_mc32 {σ : pm_S} {Q : Option Value → pm_S → Prop} (x0 x1 x2 x3 x4 : Int)  (hB : an_GB pm_B σ) (eF : (0 ≤ x0 ∧ x0 ≤ 9) ∧ (0 ≤ x1 ∧ x1 ≤ 7) ∧ (0 ≤ x2 ∧ x2 ≤ 100) ∧ (0 ≤ x3 ∧ x3 ≤ 1000) ∧ (0 ≤ x4 ∧ x4 ≤ 9) ∧ True)
    (l0 : ∀ (τ : pm_S) (y : Nat → Int), an_GB pm_B τ → FQ [] σ τ → ((0 ≤ x0 ∧ x0 ≤ 9) ∧ (0 ≤ x1 ∧ x1 ≤ 7) ∧ (0 ≤ x2 ∧ x2 ≤ 100) ∧ (0 ≤ x3 ∧ x3 ≤ 1000) ∧ (0 ≤ x4 ∧ x4 ≤ 9) ∧ (0 ≤ y 5 ∧ y 5 ≤ 72) ∧ (0 ≤ y 6 ∧ y 6 ≤ 79) ∧ True) → (True) → ((an_f 2 (Int32.ofInt (8)) (Int32.ofInt (x4))).toInt = y 5 ∧ (an_f 0 (Int32.ofInt (y 5)) (Int32.ofInt (x1))).toInt = y 6 ∧ True) → (True) → Ok 230 21 40 [.ref 93, .int (Int32.ofInt (x0)), .int (Int32.ofInt (x1)), .int (Int32.ofInt (x2)), .int (Int32.ofInt (x3)), .int (Int32.ofInt (x4))] [.int (Int32.ofInt (y 6)), .ref 113, .int (Int32.ofInt (x3))] τ Q)
    : Ok 230 21 32 [.ref 93, .int (Int32.ofInt (x0)), .int (Int32.ofInt (x1)), .int (Int32.ofInt (x2)), .int (Int32.ofInt (x3)), .int (Int32.ofInt (x4))] [] σ Q := by
  refine an_seg (B := pm_B) (F := []) (T := []) (S := []) (fun _ h => absurd h List.not_mem_nil) (k := 230) (d := 20) (cs := [40]) 10 32 5 [(0, 0, 9), (1, 0, 7), (2, 0, 100), (3, 0, 1000), (4, 0, 9)] [] [(2, 93, 0), (0, 0, 0), (0, 1, 0), (0, 2, 0), (0, 3, 0), (0, 4, 0)] [] [(40, [(2, 93, 0), (0, 0, 0), (0, 1, 0), (0, 2, 0), (0, 3, 0), (0, 4, 0)], [(0, 6, 0), (2, 113, 0), (0, 3, 0)], [(0, 0, 9), (1, 0, 7), (2, 0, 100), (3, 0, 1000), (4, 0, 9), (5, 0, 72), (6, 0, 79)], [], [(2, (1, 0, 8), (0, 4, 0), 5), (0, (0, 5, 0), (0, 1, 0), 6)], [])] (by decide +kernel) (ρ0 := (fun s => [x0, x1, x2, x3, x4].getD s 0)) hB eF trivial ⟨rfl, ⟨rfl, ⟨rfl, ⟨rfl, ⟨rfl, ⟨rfl, trivial⟩⟩⟩⟩⟩⟩ trivial ?_
  refine List.forall_mem_cons.mpr ⟨?_, fun _ h => absurd h List.not_mem_nil⟩
  · intro ρ τ Lc stc hx g1 g2 g3 g4 g5 g6 g7 g8
    have e0 : ρ 0 = x0 := hx 0 (by decide)
    have e1 : ρ 1 = x1 := hx 1 (by decide)
    have e2 : ρ 2 = x2 := hx 2 (by decide)
    have e3 : ρ 3 = x3 := hx 3 (by decide)
    have e4 : ρ 4 = x4 := hx 4 (by decide)
    subst e0
    subst e1
    subst e2
    subst e3
    subst e4
    have g7 := g7 (by decide)
    match Lc, stc, g7, g8 with
    | [v0, v1, v2, v3, v4, v5], [w0, w1, w2], ⟨hv0, hv1, hv2, hv3, hv4, hv5, _⟩, ⟨hw0, hw1, hw2, _⟩ =>
      cases hv0
      cases hv1
      cases hv2
      cases hv3
      cases hv4
      cases hv5
      cases hw0
      cases hw1
      cases hw2
      exact l0 τ ρ  g1 g2 g3 g4 g5 g6
set_option maxRecDepth 100000 in
theorem sg_mc41 {σ : pm_S} {Q : Option Value → pm_S → Prop} (x0 x1 x2 x3 x4 x5 : Int)  (hB : an_GB pm_B σ) (eF : (0 ≤ x0 ∧ x0 ≤ 9) ∧ (0 ≤ x1 ∧ x1 ≤ 7) ∧ (0 ≤ x2 ∧ x2 ≤ 100) ∧ (0 ≤ x3 ∧ x3 ≤ 1000) ∧ (0 ≤ x4 ∧ x4 ≤ 9) ∧ (0 ≤ x5 ∧ x5 ≤ 100) ∧ True)
    (l0 : ∀ (τ : pm_S) (y : Nat → Int), an_GB pm_B τ → FQ [] σ τ → ((0 ≤ x0 ∧ x0 ≤ 9) ∧ (0 ≤ x1 ∧ x1 ≤ 7) ∧ (0 ≤ x2 ∧ x2 ≤ 100) ∧ (0 ≤ x3 ∧ x3 ≤ 1000) ∧ (0 ≤ x4 ∧ x4 ≤ 9) ∧ (0 ≤ x5 ∧ x5 ≤ 100) ∧ (0 ≤ y 6 ∧ y 6 ≤ 1100) ∧ True) → (True) → ((an_f 0 (Int32.ofInt (x3)) (Int32.ofInt (x5))).toInt = y 6 ∧ True) → (True) → Ok 230 21 25 [.ref 93, .int (Int32.ofInt (x0)), .int (Int32.ofInt (x1)), .int (Int32.ofInt (x2)), .int (Int32.ofInt (y 6)), .int (Int32.ofInt (x4 + 1))] [] τ Q)
    : Ok 230 21 41 [.ref 93, .int (Int32.ofInt (x0)), .int (Int32.ofInt (x1)), .int (Int32.ofInt (x2)), .int (Int32.ofInt (x3)), .int (Int32.ofInt (x4))] [.int (Int32.ofInt (x5)), .int (Int32.ofInt (x3))] σ Q := by
  refine an_seg (B := pm_B) (F := []) (T := []) (S := []) (fun _ h => absurd h List.not_mem_nil) (k := 230) (d := 20) (cs := [25]) 6 41 6 [(0, 0, 9), (1, 0, 7), (2, 0, 100), (3, 0, 1000), (4, 0, 9), (5, 0, 100)] [] [(2, 93, 0), (0, 0, 0), (0, 1, 0), (0, 2, 0), (0, 3, 0), (0, 4, 0)] [(0, 5, 0), (0, 3, 0)] [(25, [(2, 93, 0), (0, 0, 0), (0, 1, 0), (0, 2, 0), (0, 6, 0), (0, 4, 1)], [], [(0, 0, 9), (1, 0, 7), (2, 0, 100), (3, 0, 1000), (4, 0, 9), (5, 0, 100), (6, 0, 1100)], [], [(0, (0, 3, 0), (0, 5, 0), 6)], [])] (by decide +kernel) (ρ0 := (fun s => [x0, x1, x2, x3, x4, x5].getD s 0)) hB eF trivial ⟨rfl, ⟨rfl, ⟨rfl, ⟨rfl, ⟨rfl, ⟨rfl, trivial⟩⟩⟩⟩⟩⟩ ⟨rfl, ⟨rfl, trivial⟩⟩ ?_
  refine List.forall_mem_cons.mpr ⟨?_, fun _ h => absurd h List.not_mem_nil⟩
  · intro ρ τ Lc stc hx g1 g2 g3 g4 g5 g6 g7 g8
    have e0 : ρ 0 = x0 := hx 0 (by decide)
    have e1 : ρ 1 = x1 := hx 1 (by decide)
    have e2 : ρ 2 = x2 := hx 2 (by decide)
    have e3 : ρ 3 = x3 := hx 3 (by decide)
    have e4 : ρ 4 = x4 := hx 4 (by decide)
    have e5 : ρ 5 = x5 := hx 5 (by decide)
    subst e0
    subst e1
    subst e2
    subst e3
    subst e4
    subst e5
    have g7 := g7 (by decide)
    match Lc, stc, g7, g8 with
    | [v0, v1, v2, v3, v4, v5], [], ⟨hv0, hv1, hv2, hv3, hv4, hv5, _⟩, _ =>
      cases hv0
      cases hv1
      cases hv2
      cases hv3
      cases hv4
      cases hv5
      exact l0 τ ρ  g1 g2 g3 g4 g5 g6
set_option maxRecDepth 100000 in
theorem sg_mc45 {σ : pm_S} {Q : Option Value → pm_S → Prop} (x0 x1 x2 x3 x4 : Int)  (hB : an_GB pm_B σ) (eF : (0 ≤ x0 ∧ x0 ≤ 9) ∧ (0 ≤ x1 ∧ x1 ≤ 7) ∧ (0 ≤ x2 ∧ x2 ≤ 100) ∧ (0 ≤ x3 ∧ x3 ≤ 1100) ∧ (0 ≤ x4 ∧ x4 ≤ 10) ∧ True)
    (l0 : ∀ (τ : pm_S) (y : Nat → Int), an_GB pm_B τ → FQ [] σ τ → ((0 ≤ x0 ∧ x0 ≤ 9) ∧ (0 ≤ x1 ∧ x1 ≤ 7) ∧ (0 ≤ x2 ∧ x2 ≤ 100) ∧ (0 ≤ x3 ∧ x3 ≤ 100) ∧ (0 ≤ x4 ∧ x4 ≤ 10) ∧ (0 ≤ y 5 ∧ y 5 ≤ 72) ∧ (0 ≤ y 6 ∧ y 6 ≤ 79) ∧ True) → (True) → ((an_f 2 (Int32.ofInt (8)) (Int32.ofInt (x0))).toInt = y 5 ∧ (an_f 0 (Int32.ofInt (y 5)) (Int32.ofInt (x1))).toInt = y 6 ∧ True) → (True) → Ok 230 21 58 [.ref 93, .int (Int32.ofInt (x0)), .int (Int32.ofInt (x1)), .int (Int32.ofInt (x2)), .int (Int32.ofInt (x3)), .int (Int32.ofInt (x4))] [.int (Int32.ofInt (x2)), .int (Int32.ofInt (y 6)), .ref 113] τ Q)
    (l1 : ∀ (τ : pm_S) (y : Nat → Int), an_GB pm_B τ → FQ [] σ τ → ((0 ≤ x0 ∧ x0 ≤ 9) ∧ (0 ≤ x1 ∧ x1 ≤ 7) ∧ (0 ≤ x2 ∧ x2 ≤ 100) ∧ (101 ≤ x3 ∧ x3 ≤ 1100) ∧ (0 ≤ x4 ∧ x4 ≤ 10) ∧ True) → (True) → (True) → (True) → Q (some (.int (Int32.ofInt 0))) τ)
    : Ok 230 21 45 [.ref 93, .int (Int32.ofInt (x0)), .int (Int32.ofInt (x1)), .int (Int32.ofInt (x2)), .int (Int32.ofInt (x3)), .int (Int32.ofInt (x4))] [] σ Q := by
  refine an_seg (B := pm_B) (F := []) (T := []) (S := []) (fun _ h => absurd h List.not_mem_nil) (k := 230) (d := 20) (cs := [58]) 13 45 5 [(0, 0, 9), (1, 0, 7), (2, 0, 100), (3, 0, 1100), (4, 0, 10)] [] [(2, 93, 0), (0, 0, 0), (0, 1, 0), (0, 2, 0), (0, 3, 0), (0, 4, 0)] [] [(58, [(2, 93, 0), (0, 0, 0), (0, 1, 0), (0, 2, 0), (0, 3, 0), (0, 4, 0)], [(0, 2, 0), (0, 6, 0), (2, 113, 0)], [(0, 0, 9), (1, 0, 7), (2, 0, 100), (3, 0, 100), (4, 0, 10), (5, 0, 72), (6, 0, 79)], [], [(2, (1, 0, 8), (0, 0, 0), 5), (0, (0, 5, 0), (0, 1, 0), 6)], []),
    (9999, [], [(1, 0, 0)], [(0, 0, 9), (1, 0, 7), (2, 0, 100), (3, 101, 1100), (4, 0, 10)], [], [], [])] (by decide +kernel) (ρ0 := (fun s => [x0, x1, x2, x3, x4].getD s 0)) hB eF trivial ⟨rfl, ⟨rfl, ⟨rfl, ⟨rfl, ⟨rfl, ⟨rfl, trivial⟩⟩⟩⟩⟩⟩ trivial ?_
  refine List.forall_mem_cons.mpr ⟨?_, List.forall_mem_cons.mpr ⟨?_, fun _ h => absurd h List.not_mem_nil⟩⟩
  · intro ρ τ Lc stc hx g1 g2 g3 g4 g5 g6 g7 g8
    have e0 : ρ 0 = x0 := hx 0 (by decide)
    have e1 : ρ 1 = x1 := hx 1 (by decide)
    have e2 : ρ 2 = x2 := hx 2 (by decide)
    have e3 : ρ 3 = x3 := hx 3 (by decide)
    have e4 : ρ 4 = x4 := hx 4 (by decide)
    subst e0
    subst e1
    subst e2
    subst e3
    subst e4
    have g7 := g7 (by decide)
    match Lc, stc, g7, g8 with
    | [v0, v1, v2, v3, v4, v5], [w0, w1, w2], ⟨hv0, hv1, hv2, hv3, hv4, hv5, _⟩, ⟨hw0, hw1, hw2, _⟩ =>
      cases hv0
      cases hv1
      cases hv2
      cases hv3
      cases hv4
      cases hv5
      cases hw0
      cases hw1
      cases hw2
      exact l0 τ ρ  g1 g2 g3 g4 g5 g6
  · intro ρ τ Lc stc hx g1 g2 g3 g4 g5 g6 g7 g8
    have e0 : ρ 0 = x0 := hx 0 (by decide)
    have e1 : ρ 1 = x1 := hx 1 (by decide)
    have e2 : ρ 2 = x2 := hx 2 (by decide)
    have e3 : ρ 3 = x3 := hx 3 (by decide)
    have e4 : ρ 4 = x4 := hx 4 (by decide)
    subst e0
    subst e1
    subst e2
    subst e3
    subst e4
    match stc, g8 with
    | [_], ⟨h, _⟩ => cases h; exact l1 τ ρ g1 g2 g3 g4 g5 g6
set_option maxRecDepth 100000 in
theorem sg_mc59 {σ : pm_S} {Q : Option Value → pm_S → Prop} (x0 x1 x2 x3 x4 : Int)  (hB : an_GB pm_B σ) (eF : (0 ≤ x0 ∧ x0 ≤ 9) ∧ (0 ≤ x1 ∧ x1 ≤ 7) ∧ (0 ≤ x2 ∧ x2 ≤ 100) ∧ (0 ≤ x3 ∧ x3 ≤ 1100) ∧ (0 ≤ x4 ∧ x4 ≤ 10) ∧ True)
    (l0 : ∀ (τ : pm_S) (y : Nat → Int), an_GB pm_B τ → FQ [] σ τ → ((0 ≤ x0 ∧ x0 ≤ 9) ∧ (0 ≤ x1 ∧ x1 ≤ 7) ∧ (0 ≤ x2 ∧ x2 ≤ 100) ∧ (0 ≤ x3 ∧ x3 ≤ 1100) ∧ (0 ≤ x4 ∧ x4 ≤ 10) ∧ True) → (True) → (True) → (True) → Q (some (.int (Int32.ofInt 1))) τ)
    : Ok 230 21 59 [.ref 93, .int (Int32.ofInt (x0)), .int (Int32.ofInt (x1)), .int (Int32.ofInt (x2)), .int (Int32.ofInt (x3)), .int (Int32.ofInt (x4))] [] σ Q := by
  refine an_seg (B := pm_B) (F := []) (T := []) (S := []) (fun _ h => absurd h List.not_mem_nil) (k := 230) (d := 20) (cs := []) 4 59 5 [(0, 0, 9), (1, 0, 7), (2, 0, 100), (3, 0, 1100), (4, 0, 10)] [] [(2, 93, 0), (0, 0, 0), (0, 1, 0), (0, 2, 0), (0, 3, 0), (0, 4, 0)] [] [(9999, [], [(1, 0, 1)], [(0, 0, 9), (1, 0, 7), (2, 0, 100), (3, 0, 1100), (4, 0, 10)], [], [], [])] (by decide +kernel) (ρ0 := (fun s => [x0, x1, x2, x3, x4].getD s 0)) hB eF trivial ⟨rfl, ⟨rfl, ⟨rfl, ⟨rfl, ⟨rfl, ⟨rfl, trivial⟩⟩⟩⟩⟩⟩ trivial ?_
  refine List.forall_mem_cons.mpr ⟨?_, fun _ h => absurd h List.not_mem_nil⟩
  · intro ρ τ Lc stc hx g1 g2 g3 g4 g5 g6 g7 g8
    have e0 : ρ 0 = x0 := hx 0 (by decide)
    have e1 : ρ 1 = x1 := hx 1 (by decide)
    have e2 : ρ 2 = x2 := hx 2 (by decide)
    have e3 : ρ 3 = x3 := hx 3 (by decide)
    have e4 : ρ 4 = x4 := hx 4 (by decide)
    subst e0
    subst e1
    subst e2
    subst e3
    subst e4
    match stc, g8 with
    | [_], ⟨h, _⟩ => cases h; exact l0 τ ρ g1 g2 g3 g4 g5 g6
theorem x_chAt {σ : pm_S} (i h S : Int) (hB : an_GB pm_B σ) (hi : 0 ≤ i ∧ i < S) (hS : S ≤ 10) (hh : 0 ≤ h ∧ h ≤ 7) (eS : (σ.1 3 0).toInt = S) : Sp 87 9 [.ref 3, .int (Int32.ofInt i), .int (Int32.ofInt h)] σ (fun r τ => r = some (.int (Int32.ofInt (σ.1 6 (8 * i + h).toNat).toInt)) ∧ an_GB pm_B τ ∧ FQ [] σ τ) := by
  refine Sp.at rfl rfl ?_
  refine sg_cha0 i h hB ⟨by omega, hh, trivial⟩ ?_
  intro τ y hB1 F1 _ _ _ _
  refine Ok.cv rfl rfl rfl rfl rfl rfl rfl ?_
  refine (x_h82 i S hB1 (by omega) ((congrArg Int32.toInt (F1 3 0 rfl)).trans eS)).use (by decide) (fun r τ2 q => ?_)
  obtain ⟨hB2, F2, ⟨q, rfl, -⟩ | ⟨q, rfl, -⟩⟩ := q
  · exfalso
    omega
  · refine sg_cha3 i h hB2 ⟨by omega, hh, trivial⟩ ?_
    intro τ3 y3 hB3 F3 f _ d _
    have e2 := mulI (by omega) d.1
    have e3 := addI (by omega) (by omega) d.2.1
    have e : y3 3 = 8 * i + h := by omega
    refine Ok.ald (n := 80) rfl rfl rfl (by decide) (by omega) (by omega) ?_
    refine sg_cha17 i h _ hB3 ⟨by omega, hh, ai_rng _, trivial⟩ ?_
    intro τ4 y4 hB4 F4 _ _ _ _
    refine ⟨?_, hB4, FQ.tr (FQ.tr (FQ.tr F1 F2) F3) F4⟩
    rw [F3 6 _ rfl, F2 6 _ rfl, F1 6 _ rfl, e]
abbrev PCh (r : Nat → Int32) (s h v S : Int) : Prop := 0 ≤ s ∧ s < S ∧ 0 ≤ h ∧ h ≤ 7 ∧ 0 ≤ v ∧ v ≤ 100 ∧ chS r s h S.toNat + v ≤ 100
abbrev QCh (p : Nat) (F : List (Nat × Nat)) (σ : pm_S) (s h v S : Int) : Option Value → pm_S → Prop := fun r τ => an_GB pm_B τ ∧ ((¬ PCh (σ.1 p) s h v S ∧ r = some (.int (Int32.ofInt 0)) ∧ FQ F σ τ) ∨ (PCh (σ.1 p) s h v S ∧ r = some (.int (Int32.ofInt 1)) ∧ FQ ((p, 9999) :: F) σ τ ∧ ∀ j, τ.1 p j = if j = (8 * s + h).toNat then Int32.ofInt v else σ.1 p j))
set_option maxRecDepth 20000 in
theorem x_tcL {σ τ0 : pm_S} (s h v S : Int) (hs : 0 ≤ s ∧ s < S) (hS : S ≤ 10) (hh : 0 ≤ h ∧ h ≤ 7) (hv : 0 ≤ v ∧ v ≤ 100) (hBσ : an_GB pm_B σ) (hB0 : an_GB pm_B τ0) (F0 : FQ [] σ τ0) (eS : (σ.1 3 0).toInt = S) : Ok 86 21 20 [.ref 3, .int (Int32.ofInt s), .int (Int32.ofInt h), .int (Int32.ofInt v), .int (Int32.ofInt 0), .int (Int32.ofInt 0)] [] τ0 (QCh 6 [] σ s h v S) := by
  have hr : ∀ j, j < 80 → (0 : Int) ≤ (σ.1 6 j).toInt ∧ (σ.1 6 j).toInt ≤ 100 := fun j hj => hBσ 6 j hj
  refine Ok.loop (fun i L τ => 0 ≤ i ∧ i ≤ S ∧ (∃ acc : Int, acc = chS (σ.1 6) s h i.toNat ∧ L = [.ref 3, .int (Int32.ofInt s), .int (Int32.ofInt h), .int (Int32.ofInt v), .int (Int32.ofInt acc), .int (Int32.ofInt i)]) ∧ an_GB pm_B τ ∧ FQ [] σ τ) S (fun i L τ h => h.2.1) ?_ 0 _ τ0 ⟨by decide, by omega, ⟨0, rfl, rfl⟩, hB0, F0⟩
  rintro i L τ ⟨i0, i1, ⟨acc, ea, rfl⟩, hB1, F1⟩ ih
  have b := chS_b hr hh (s := s) i.toNat (by omega)
  have bi : (i.toNat : Int) = i := by omega
  refine sg_tc20 s h v acc i S hB1 ⟨by omega, by omega, by omega, by omega, by omega, by omega, trivial⟩ ⟨(congrArg Int32.toInt (F1 3 0 rfl)).trans eS, trivial⟩ ?_
  intro τ2 y2 hB2 F2 _ _ _ _
  have G2 : FQ [] σ τ2 := FQ.tr F1 (FQ.up (G := []) rfl F2)
  refine Ok.ic rfl rfl (by omega) (by omega) (by omega) (by omega) (fun z => ?_) (fun z => ?_)
  · have z : S ≤ i := z
    have ei : i = S := by omega
    rw [ei] at ea
    refine sg_tc38 s h v acc i hB2 ⟨by omega, by omega, by omega, by omega, by omega, trivial⟩ ?_ ?_
    · intro τ3 y3 hB3 F3 f _ d _
      have f5 := f.2.2.2.2.2.1
      have e5 := addI (by omega) (by omega) d.1
      have e6 := mulI (by omega) d.2.1
      have e7 := addI (by omega) (by omega) d.2.2.1
      have ey : y3 7 = 8 * s + h := by omega
      refine Ok.ast (n := 80) rfl rfl rfl (by decide) (by omega) (by omega) ?_
      have hB4 : an_GB pm_B (put τ3 6 (y3 7).toNat (Int32.ofInt v)) := put_GB hB3 (by
        show (0 : Int) ≤ (Int32.ofInt v).toInt ∧ (Int32.ofInt v).toInt ≤ 100
        rw [ti_of (by omega) (by omega)]
        omega)
      refine sg_tc54 s h v acc i hB4 ⟨by omega, by omega, by omega, by omega, by omega, trivial⟩ ?_
      intro τ5 y5 hB5 F5 _ _ _ _
      have G3 : FQ [] σ τ3 := FQ.tr G2 (FQ.up (G := []) rfl F3)
      refine ⟨hB5, Or.inr ⟨⟨hs.1, hs.2, hh.1, hh.2, hv.1, hv.2, by omega⟩, rfl, FQ.tr (FQ.up (G := []) rfl G3) (FQ.tr (FQ.put rfl) (FQ.up (G := []) rfl F5)), fun j => ?_⟩⟩
      rw [F5 6 j rfl, put_get, G3 6 j rfl, ey]
      by_cases e : j = (8 * s + h).toNat
      · rw [if_pos ⟨rfl, e⟩, if_pos e]
      · rw [if_neg (fun z => e z.2), if_neg e]
    · intro τ3 y3 hB3 F3 f _ d _
      have f5 := f.2.2.2.2.2.1
      have e5 := addI (by omega) (by omega) d.1
      exact ⟨hB3, Or.inl ⟨by omega, rfl, FQ.tr G2 (FQ.up (G := []) rfl F3)⟩⟩
  · have z : i < S := z
    refine sg_tc24 s h v acc i hB2 ⟨by omega, by omega, by omega, by omega, by omega, trivial⟩ ?_
    intro τ3 y3 hB3 F3 _ _ _ _
    have G3 : FQ [] σ τ3 := FQ.tr G2 (FQ.up (G := []) rfl F3)
    have bv : (0 : Int) ≤ (σ.1 6 (8 * i + h).toNat).toInt ∧ (σ.1 6 (8 * i + h).toNat).toInt ≤ 100 := hr _ (by omega)
    refine Ok.ic rfl rfl (by omega) (by omega) (by omega) (by omega) (fun w => ?_) (fun w => ?_)
    · have w : i ≠ s := w
      refine sg_tc30 s h v acc i hB3 ⟨by omega, by omega, by omega, by omega, by omega, trivial⟩ ?_
      intro τ4 y4 hB4 F4 _ _ _ _
      have G4 : FQ [] σ τ4 := FQ.tr G3 F4
      refine Ok.cv rfl rfl rfl rfl rfl rfl rfl ?_
      refine (x_chAt i h S hB4 ⟨i0, z⟩ hS hh ((congrArg Int32.toInt (G4 3 0 rfl)).trans eS)).use (by decide) (fun r τ5 q => ?_)
      obtain ⟨rfl, hB5, F5⟩ := q
      rw [G4 6 _ rfl]
      refine sg_tc34 s h v acc i _ hB5 ⟨by omega, by omega, by omega, by omega, by omega, bv, trivial⟩ ?_
      intro τ6 y6 hB6 F6 f _ d _
      have e6 := addI (by omega) (by omega) d.1
      exact ih _ τ6 ⟨by omega, by omega, ⟨y6 6, by rw [chS_n i0 w]; omega, rfl⟩, hB6, FQ.tr G4 (FQ.tr F5 F6)⟩
    · have w : i = s := w
      refine sg_tc28 s h v acc i hB3 ⟨by omega, by omega, by omega, by omega, by omega, trivial⟩ ?_
      intro τ4 y4 hB4 F4 _ _ _ _
      exact ih _ τ4 ⟨by omega, by omega, ⟨acc, by rw [chS_s i0 w]; exact ea, rfl⟩, hB4, FQ.tr G3 (FQ.up (G := []) rfl F4)⟩
set_option maxRecDepth 20000 in
theorem x_mcL {σ τ0 : pm_S} (s h v S : Int) (hs : 0 ≤ s ∧ s < S) (hS : S ≤ 10) (hh : 0 ≤ h ∧ h ≤ 7) (hv : 0 ≤ v ∧ v ≤ 100) (hBσ : an_GB pm_B σ) (hB0 : an_GB pm_B τ0) (F0 : FQ [(93, 0)] σ τ0) (eS : (σ.1 93 2).toInt = S) : Ok 230 21 25 [.ref 93, .int (Int32.ofInt s), .int (Int32.ofInt h), .int (Int32.ofInt v), .int (Int32.ofInt v), .int (Int32.ofInt 0)] [] τ0 (QCh 113 [(93, 0)] σ s h v S) := by
  have hr : ∀ j, j < 80 → (0 : Int) ≤ (σ.1 113 j).toInt ∧ (σ.1 113 j).toInt ≤ 100 := fun j hj => hBσ 113 j hj
  refine Ok.loop (fun i L τ => 0 ≤ i ∧ i ≤ S ∧ (∃ acc : Int, acc = v + chS (σ.1 113) s h i.toNat ∧ L = [.ref 93, .int (Int32.ofInt s), .int (Int32.ofInt h), .int (Int32.ofInt v), .int (Int32.ofInt acc), .int (Int32.ofInt i)]) ∧ an_GB pm_B τ ∧ FQ [(93, 0)] σ τ) S (fun i L τ h => h.2.1) ?_ 0 _ τ0 ⟨by decide, by omega, ⟨v, (Int.add_zero v).symm, rfl⟩, hB0, F0⟩
  rintro i L τ ⟨i0, i1, ⟨acc, ea, rfl⟩, hB1, F1⟩ ih
  have b := chS_b hr hh (s := s) i.toNat (by omega)
  have bi : (i.toNat : Int) = i := by omega
  refine sg_mc25 s h v acc i S hB1 ⟨by omega, by omega, by omega, by omega, by omega, by omega, trivial⟩ ⟨(congrArg Int32.toInt (F1 93 2 rfl)).trans eS, trivial⟩ ?_
  intro τ2 y2 hB2 F2 _ _ _ _
  have G2 : FQ [(93, 0)] σ τ2 := FQ.tr F1 (FQ.up (G := []) rfl F2)
  refine Ok.ic rfl rfl (by omega) (by omega) (by omega) (by omega) (fun z => ?_) (fun z => ?_)
  · have z : S ≤ i := z
    have ei : i = S := by omega
    rw [ei] at ea
    refine sg_mc45 s h v acc i hB2 ⟨by omega, by omega, by omega, by omega, by omega, trivial⟩ ?_ ?_
    · intro τ3 y3 hB3 F3 f _ d _
      have f5 := f.2.2.2.1
      have e6 := mulJ (by omega) d.1
      have e7 := addI (by omega) (by omega) d.2.1
      have ey : y3 6 = 8 * s + h := by omega
      refine Ok.ast (n := 80) rfl rfl rfl (by decide) (by omega) (by omega) ?_
      have hB4 : an_GB pm_B (put τ3 113 (y3 6).toNat (Int32.ofInt v)) := put_GB hB3 (by
        show (0 : Int) ≤ (Int32.ofInt v).toInt ∧ (Int32.ofInt v).toInt ≤ 100
        rw [ti_of (by omega) (by omega)]
        omega)
      refine sg_mc59 s h v acc i hB4 ⟨by omega, by omega, by omega, by omega, by omega, trivial⟩ ?_
      intro τ5 y5 hB5 F5 _ _ _ _
      have G3 : FQ [(93, 0)] σ τ3 := FQ.tr G2 (FQ.up (G := []) rfl F3)
      refine ⟨hB5, Or.inr ⟨⟨hs.1, hs.2, hh.1, hh.2, hv.1, hv.2, by omega⟩, rfl, FQ.tr (FQ.up (G := [(93, 0)]) rfl G3) (FQ.tr (FQ.put rfl) (FQ.up (G := []) rfl F5)), fun j => ?_⟩⟩
      rw [F5 113 j rfl, put_get, G3 113 j rfl, ey]
      by_cases e : j = (8 * s + h).toNat
      · rw [if_pos ⟨rfl, e⟩, if_pos e]
      · rw [if_neg (fun z => e z.2), if_neg e]
    · intro τ3 y3 hB3 F3 f _ d _
      have f5 := f.2.2.2.1
      exact ⟨hB3, Or.inl ⟨by omega, rfl, FQ.tr G2 (FQ.up (G := []) rfl F3)⟩⟩
  · have z : i < S := z
    refine sg_mc29 s h v acc i hB2 ⟨by omega, by omega, by omega, by omega, by omega, trivial⟩ ?_
    intro τ3 y3 hB3 F3 _ _ _ _
    have G3 : FQ [(93, 0)] σ τ3 := FQ.tr G2 (FQ.up (G := []) rfl F3)
    have bv : (0 : Int) ≤ (σ.1 113 (8 * i + h).toNat).toInt ∧ (σ.1 113 (8 * i + h).toNat).toInt ≤ 100 := hr _ (by omega)
    refine Ok.ic rfl rfl (by omega) (by omega) (by omega) (by omega) (fun w => ?_) (fun w => ?_)
    · have w : i = s := w
      refine sg_mc43 s h v acc i hB3 ⟨by omega, by omega, by omega, by omega, by omega, trivial⟩ ?_
      intro τ4 y4 hB4 F4 _ _ _ _
      exact ih _ τ4 ⟨by omega, by omega, ⟨acc, by rw [chS_s i0 w]; exact ea, rfl⟩, hB4, FQ.tr G3 (FQ.up (G := []) rfl F4)⟩
    · have w : i ≠ s := w
      refine sg_mc32 s h v acc i hB3 ⟨by omega, by omega, by omega, by omega, by omega, trivial⟩ ?_
      intro τ4 y4 hB4 F4 f _ d _
      have G4 : FQ [(93, 0)] σ τ4 := FQ.tr G3 (FQ.up (G := []) rfl F4)
      have e5 := mulJ (by omega) d.1
      have e6 := addI (by omega) (by omega) d.2.1
      have ey : y4 6 = 8 * i + h := by omega
      refine Ok.ald (n := 80) rfl rfl rfl (by decide) (by omega) (by omega) ?_
      rw [ey, G4 113 _ rfl]
      refine sg_mc41 s h v acc i _ hB4 ⟨by omega, by omega, by omega, by omega, by omega, bv, trivial⟩ ?_
      intro τ6 y6 hB6 F6 f2 _ d2 _
      have e7 := addI (by omega) (by omega) d2.1
      exact ih _ τ6 ⟨by omega, by omega, ⟨y6 6, by rw [chS_n i0 w]; omega, rfl⟩, hB6, FQ.tr G4 (FQ.up (G := []) rfl F6)⟩
set_option maxRecDepth 20000 in
theorem x_tell2 {σ : pm_S} (s h v S : Int) (hB : an_GB pm_B σ) (rs : (-2147483648) ≤ s ∧ s ≤ 2147483647) (rh : (-2147483648) ≤ h ∧ h ≤ 2147483647) (rv : (-2147483648) ≤ v ∧ v ≤ 2147483647) (hS : 0 ≤ S ∧ S ≤ 10) (eS : (σ.1 3 0).toInt = S) : Sp 86 21 [.ref 3, .int (Int32.ofInt s), .int (Int32.ofInt h), .int (Int32.ofInt v)] σ (QCh 6 [] σ s h v S) := by
  refine Sp.at rfl rfl ?_
  refine sg_tc0 s h v _ _ rfl rfl hB ⟨rs, rh, rv, trivial⟩ ?_
  intro τ y v4 v5 h4 h5 hB1 F1 _ _ _ _
  refine Ok.cv rfl rfl rfl rfl rfl rfl rfl ?_
  refine (x_h82 s S hB1 rs ((congrArg Int32.toInt (F1 3 0 rfl)).trans eS)).use (by decide) (fun r τ2 q => ?_)
  obtain ⟨hB2, F2, ⟨q, rfl, -⟩ | ⟨q, rfl, -⟩⟩ := q
  · refine sg_tc3n _ _ _ v4 v5 rfl rfl rfl h4 h5 hB2 ?_
    intro τ3 y3 hB3 F3 _ _ _ _
    exact ⟨hB3, Or.inl ⟨by omega, rfl, FQ.tr (FQ.tr F1 F2) F3⟩⟩
  · refine sg_tc3 s h v v4 v5 h4 h5 hB2 ⟨by omega, rh, rv, trivial⟩ ?_ ?_ ?_ ?_ ?_
    · intro τ3 y3 hB3 F3 f _ _ _
      have f1 := f.2.1
      exact ⟨hB3, Or.inl ⟨by omega, rfl, FQ.tr (FQ.tr F1 F2) F3⟩⟩
    · intro τ3 y3 hB3 F3 f _ _ _
      have f1 := f.2.1
      exact ⟨hB3, Or.inl ⟨by omega, rfl, FQ.tr (FQ.tr F1 F2) F3⟩⟩
    · intro τ3 y3 hB3 F3 f _ _ _
      have f1 := f.2.2.1
      exact ⟨hB3, Or.inl ⟨by omega, rfl, FQ.tr (FQ.tr F1 F2) F3⟩⟩
    · intro τ3 y3 hB3 F3 f _ _ _
      exact x_tcL s h v S q hS.2 f.2.1 f.2.2.1 hB hB3 (FQ.tr (FQ.tr F1 F2) F3) eS
    · intro τ3 y3 hB3 F3 f _ _ _
      have f1 := f.2.2.1
      exact ⟨hB3, Or.inl ⟨by omega, rfl, FQ.tr (FQ.tr F1 F2) F3⟩⟩
set_option maxRecDepth 20000 in
theorem xc_chance {σ : pm_S} (s h v S : Int) (hB : an_GB pm_B σ) (rs : (-2147483648) ≤ s ∧ s ≤ 2147483647) (rh : (-2147483648) ≤ h ∧ h ≤ 2147483647) (rv : (-2147483648) ≤ v ∧ v ≤ 2147483647) (hS : 0 ≤ S ∧ S ≤ 10) (eS : (σ.1 3 0).toInt = S) : Sp 147 23 [.ref 0, .int (Int32.ofInt s), .int (Int32.ofInt h), .int (Int32.ofInt v)] σ (QCh 6 [] σ s h v S) := by
  refine Sp.at rfl rfl ?_
  refine sg_cc0 s h v hB ⟨rs, rh, rv, trivial⟩ ?_
  intro τ y hB1 F1 _ _ _ _
  refine Ok.cv rfl rfl rfl rfl rfl rfl rfl ?_
  refine (x_tell2 s h v S hB1 rs rh rv hS ((congrArg Int32.toInt (F1 3 0 rfl)).trans eS)).use (by decide) (fun r τ2 q => ?_)
  have er : τ.1 6 = σ.1 6 := funext (fun j => F1 6 j rfl)
  obtain ⟨hB2, ⟨q, rfl, F2⟩ | ⟨q, rfl, F2, q2⟩⟩ := q
  · rw [er] at q
    refine sg_cc7 s h v 0 hB2 ⟨rs, rh, rv, by decide, trivial⟩ ?_
    intro τ3 y3 hB3 F3 _ _ _ _
    exact ⟨hB3, Or.inl ⟨q, rfl, FQ.tr (FQ.tr F1 F2) F3⟩⟩
  · rw [er] at q q2
    refine sg_cc7 s h v 1 hB2 ⟨rs, rh, rv, by decide, trivial⟩ ?_
    intro τ3 y3 hB3 F3 _ _ _ _
    exact ⟨hB3, Or.inr ⟨q, rfl, FQ.tr (FQ.tr (FQ.up (G := []) rfl F1) F2) (FQ.up (G := []) rfl F3), fun j => (F3 6 j rfl).trans (q2 j)⟩⟩
set_option maxRecDepth 20000 in
theorem xm_chance {σ : pm_S} (s h v S : Int) (hB : an_GB pm_B σ) (rs : (-2147483648) ≤ s ∧ s ≤ 2147483647) (rh : (-2147483648) ≤ h ∧ h ≤ 2147483647) (rv : (-2147483648) ≤ v ∧ v ≤ 2147483647) (hS : 0 ≤ S ∧ S ≤ 10) (eS : cI σ 2 = S) : Sp 230 21 [.ref 93, .int (Int32.ofInt s), .int (Int32.ofInt h), .int (Int32.ofInt v)] σ (QCh 113 [(93, 0)] σ s h v S) := by
  refine Sp.at rfl rfl ?_
  refine sg_mc0 s h v S _ _ rfl rfl hB ⟨rs, rh, rv, hS, trivial⟩ ⟨eS, trivial⟩ ?_
  intro τ y v4 v5 h4 h5 hB1 F1 _ _ _ c
  refine Ok.cv rfl rfl rfl rfl rfl rfl rfl ?_
  refine (x_h163 s S hB1 rs c.1).use (by decide) (fun r τ2 q => ?_)
  obtain ⟨hB2, F2, ⟨q, rfl, -⟩ | ⟨q, rfl, -⟩⟩ := q
  · refine sg_mc6n _ _ _ v4 v5 rfl rfl rfl h4 h5 hB2 ?_
    intro τ3 y3 hB3 F3 _ _ _ _
    exact ⟨hB3, Or.inl ⟨by omega, rfl, FQ.tr F1 (FQ.up (G := []) rfl (FQ.tr F2 F3))⟩⟩
  · refine sg_mc6 s h v v4 v5 h4 h5 hB2 ⟨by omega, rh, rv, trivial⟩ ?_ ?_ ?_ ?_ ?_
    · intro τ3 y3 hB3 F3 f _ _ _
      have f1 := f.2.1
      exact ⟨hB3, Or.inl ⟨by omega, rfl, FQ.tr F1 (FQ.up (G := []) rfl (FQ.tr F2 F3))⟩⟩
    · intro τ3 y3 hB3 F3 f _ _ _
      have f1 := f.2.1
      exact ⟨hB3, Or.inl ⟨by omega, rfl, FQ.tr F1 (FQ.up (G := []) rfl (FQ.tr F2 F3))⟩⟩
    · intro τ3 y3 hB3 F3 f _ _ _
      have f1 := f.2.2.1
      exact ⟨hB3, Or.inl ⟨by omega, rfl, FQ.tr F1 (FQ.up (G := []) rfl (FQ.tr F2 F3))⟩⟩
    · intro τ3 y3 hB3 F3 f _ _ _
      have f1 := f.2.2.1
      exact ⟨hB3, Or.inl ⟨by omega, rfl, FQ.tr F1 (FQ.up (G := []) rfl (FQ.tr F2 F3))⟩⟩
    · intro τ3 y3 hB3 F3 f _ _ _
      exact x_mcL s h v S q hS.2 f.2.1 f.2.2.1 hB hB3 (FQ.tr F1 (FQ.up (G := []) rfl (FQ.tr F2 F3))) eS
abbrev K21 : KY := [(3, 0, 93, 2), (0, 2, 93, 64), (36, 0, 133, 1), (6, 0, 113, 0), (6, 1, 113, 1), (6, 2, 113, 2), (6, 3, 113, 3), (6, 4, 113, 4), (6, 5, 113, 5), (6, 6, 113, 6), (6, 7, 113, 7), (6, 8, 113, 8), (6, 9, 113, 9), (6, 10, 113, 10), (6, 11, 113, 11), (6, 12, 113, 12), (6, 13, 113, 13), (6, 14, 113, 14), (6, 15, 113, 15), (6, 16, 113, 16), (6, 17, 113, 17), (6, 18, 113, 18), (6, 19, 113, 19), (6, 20, 113, 20), (6, 21, 113, 21), (6, 22, 113, 22), (6, 23, 113, 23), (6, 24, 113, 24), (6, 25, 113, 25), (6, 26, 113, 26), (6, 27, 113, 27), (6, 28, 113, 28), (6, 29, 113, 29), (6, 30, 113, 30), (6, 31, 113, 31), (6, 32, 113, 32), (6, 33, 113, 33), (6, 34, 113, 34), (6, 35, 113, 35), (6, 36, 113, 36), (6, 37, 113, 37), (6, 38, 113, 38), (6, 39, 113, 39), (6, 40, 113, 40), (6, 41, 113, 41), (6, 42, 113, 42), (6, 43, 113, 43), (6, 44, 113, 44), (6, 45, 113, 45), (6, 46, 113, 46), (6, 47, 113, 47), (6, 48, 113, 48), (6, 49, 113, 49), (6, 50, 113, 50), (6, 51, 113, 51), (6, 52, 113, 52), (6, 53, 113, 53), (6, 54, 113, 54), (6, 55, 113, 55), (6, 56, 113, 56), (6, 57, 113, 57), (6, 58, 113, 58), (6, 59, 113, 59), (6, 60, 113, 60), (6, 61, 113, 61), (6, 62, 113, 62), (6, 63, 113, 63), (6, 64, 113, 64), (6, 65, 113, 65), (6, 66, 113, 66), (6, 67, 113, 67), (6, 68, 113, 68), (6, 69, 113, 69), (6, 70, 113, 70), (6, 71, 113, 71), (6, 72, 113, 72), (6, 73, 113, 73), (6, 74, 113, 74), (6, 75, 113, 75), (6, 76, 113, 76), (6, 77, 113, 77), (6, 78, 113, 78), (6, 79, 113, 79), (39, 0, 133, 112), (39, 1, 133, 113), (39, 2, 133, 114), (39, 3, 133, 115), (39, 4, 133, 116), (39, 5, 133, 117), (39, 6, 133, 118), (39, 7, 133, 119), (39, 8, 133, 120), (39, 9, 133, 121), (39, 10, 133, 122), (39, 11, 133, 123), (39, 12, 133, 124), (39, 13, 133, 125), (39, 14, 133, 126), (39, 15, 133, 127), (39, 16, 133, 128), (39, 17, 133, 129), (39, 18, 133, 130), (39, 19, 133, 131), (39, 20, 133, 132), (39, 21, 133, 133), (39, 22, 133, 134), (39, 23, 133, 135), (39, 24, 133, 136), (39, 25, 133, 137), (39, 26, 133, 138), (39, 27, 133, 139), (39, 28, 133, 140), (39, 29, 133, 141), (39, 30, 133, 142), (39, 31, 133, 143), (39, 32, 133, 144), (39, 33, 133, 145), (39, 34, 133, 146), (39, 35, 133, 147), (39, 36, 133, 148), (39, 37, 133, 149), (39, 38, 133, 150), (39, 39, 133, 151), (39, 40, 133, 152), (39, 41, 133, 153), (39, 42, 133, 154), (39, 43, 133, 155), (39, 44, 133, 156), (39, 45, 133, 157), (39, 46, 133, 158), (39, 47, 133, 159), (39, 48, 133, 160), (39, 49, 133, 161), (39, 50, 133, 162), (39, 51, 133, 163), (39, 52, 133, 164), (39, 53, 133, 165), (39, 54, 133, 166), (39, 55, 133, 167), (39, 56, 133, 168), (39, 57, 133, 169), (39, 58, 133, 170), (39, 59, 133, 171), (39, 60, 133, 172), (39, 61, 133, 173), (39, 62, 133, 174), (39, 63, 133, 175), (39, 64, 133, 176), (39, 65, 133, 177), (39, 66, 133, 178), (39, 67, 133, 179), (39, 68, 133, 180), (39, 69, 133, 181), (39, 70, 133, 182), (39, 71, 133, 183), (39, 72, 133, 184), (39, 73, 133, 185), (39, 74, 133, 186), (39, 75, 133, 187), (39, 76, 133, 188), (39, 77, 133, 189), (39, 78, 133, 190), (39, 79, 133, 191)]
abbrev K21r : KY := [(3, 0, 93, 2), (0, 2, 93, 64), (36, 0, 133, 1), (39, 0, 133, 112), (39, 1, 133, 113), (39, 2, 133, 114), (39, 3, 133, 115), (39, 4, 133, 116), (39, 5, 133, 117), (39, 6, 133, 118), (39, 7, 133, 119), (39, 8, 133, 120), (39, 9, 133, 121), (39, 10, 133, 122), (39, 11, 133, 123), (39, 12, 133, 124), (39, 13, 133, 125), (39, 14, 133, 126), (39, 15, 133, 127), (39, 16, 133, 128), (39, 17, 133, 129), (39, 18, 133, 130), (39, 19, 133, 131), (39, 20, 133, 132), (39, 21, 133, 133), (39, 22, 133, 134), (39, 23, 133, 135), (39, 24, 133, 136), (39, 25, 133, 137), (39, 26, 133, 138), (39, 27, 133, 139), (39, 28, 133, 140), (39, 29, 133, 141), (39, 30, 133, 142), (39, 31, 133, 143), (39, 32, 133, 144), (39, 33, 133, 145), (39, 34, 133, 146), (39, 35, 133, 147), (39, 36, 133, 148), (39, 37, 133, 149), (39, 38, 133, 150), (39, 39, 133, 151), (39, 40, 133, 152), (39, 41, 133, 153), (39, 42, 133, 154), (39, 43, 133, 155), (39, 44, 133, 156), (39, 45, 133, 157), (39, 46, 133, 158), (39, 47, 133, 159), (39, 48, 133, 160), (39, 49, 133, 161), (39, 50, 133, 162), (39, 51, 133, 163), (39, 52, 133, 164), (39, 53, 133, 165), (39, 54, 133, 166), (39, 55, 133, 167), (39, 56, 133, 168), (39, 57, 133, 169), (39, 58, 133, 170), (39, 59, 133, 171), (39, 60, 133, 172), (39, 61, 133, 173), (39, 62, 133, 174), (39, 63, 133, 175), (39, 64, 133, 176), (39, 65, 133, 177), (39, 66, 133, 178), (39, 67, 133, 179), (39, 68, 133, 180), (39, 69, 133, 181), (39, 70, 133, 182), (39, 71, 133, 183), (39, 72, 133, 184), (39, 73, 133, 185), (39, 74, 133, 186), (39, 75, 133, 187), (39, 76, 133, 188), (39, 77, 133, 189), (39, 78, 133, 190), (39, 79, 133, 191)]
theorem K21.row {σ : pm_S} (h : KE K21 σ) {j : Nat} (hj : j < 80) : σ.1 6 j = σ.1 113 j := h (6, j, 113, j) (by
  have z : ∀ j, j < 80 → (6, j, 113, j) ∈ K21 := by decide +kernel
  exact z j hj)
theorem K21.sub {σ : pm_S} (h : KE K21 σ) : KE K21r σ := fun q hq => h q ((show ∀ q ∈ K21r, q ∈ K21 by decide +kernel) q hq)
theorem K21.mk {σ : pm_S} (h : KE K21r σ) (hr : ∀ j, j < 80 → σ.1 6 j = σ.1 113 j) : KE K21 σ := fun q hq => by
  rcases (show ∀ q ∈ K21, q ∈ K21r ∨ (q.1 = 6 ∧ q.2.2.1 = 113 ∧ q.2.1 = q.2.2.2 ∧ q.2.1 < 80) by decide +kernel) q hq with z | z
  · exact h q z
  · rw [z.1, z.2.1, ← z.2.2.1]
    exact hr _ z.2.2.2
theorem tc_image (a1 : Int32) (hw : a1 = 0 ∨ a1 = 1) : Two 1 true (IK K21) (IK K21) 151 245 [.int a1] := tK_image (by decide +kernel) a1 hw
theorem tc_chance (a1 a2 a3 : Int32) : Two 1 true (IK K21) (IK K21) 147 230 [.int a1, .int a2, .int a3] := by
  intro σ hI
  have k2 : (σ.1 3 0).toInt = cI σ 2 := hI.2.2.g (q := (3, 0, 93, 2)) (by decide)
  have g2 : 0 ≤ cI σ 2 ∧ cI σ 2 ≤ 10 := hI.1 93 2 (by decide)
  rw [← oI a1, ← oI a2, ← oI a3]
  refine (xc_chance a1.toInt a2.toInt a3.toInt (cI σ 2) hI.1 (ai_rng a1) (ai_rng a2) (ai_rng a3) g2 k2).use (by decide) (fun r τ q => ?_)
  obtain ⟨hB1, q⟩ := q
  have go : ∀ (c : Int), FQ [(6, 9999)] σ τ → (PCh (σ.1 6) a1.toInt a2.toInt a3.toInt (cI σ 2) ∧ c = 1 ∧ (∀ j, τ.1 6 j = if j = (8 * a1.toInt + a2.toInt).toNat then Int32.ofInt a3.toInt else σ.1 6 j) ∨ ¬ PCh (σ.1 6) a1.toInt a2.toInt a3.toInt (cI σ 2) ∧ c = 0 ∧ (∀ j, τ.1 6 j = σ.1 6 j)) → an_sh 1 (some (.int (Int32.ofInt c))) ∧ Sp 230 1200 (.ref 93 :: [.int (Int32.ofInt a1.toInt), .int (Int32.ofInt a2.toInt), .int (Int32.ofInt a3.toInt)]) τ (fun r2 τ2 => an_sh 1 r2 ∧ (true = true → some (Value.int (Int32.ofInt c)) = r2) ∧ IK K21 τ2) := by
    intro c F1 hc
    have hPτ : mP τ := mP93 σ τ (fun p j hp => F1 p j (an_foot93 rfl hp)) hI.2.1
    have er : τ.1 113 = σ.1 113 := funext (fun j => F1 113 j rfl)
    refine ⟨⟨_, rfl⟩, (xm_chance a1.toInt a2.toInt a3.toInt (cI σ 2) hB1 (ai_rng a1) (ai_rng a2) (ai_rng a3) g2 (F1.c 2 rfl)).use (by decide) (fun r2 τ2 p => ?_)⟩
    have pe : ∀ (A : 0 ≤ a2.toInt ∧ a2.toInt ≤ 7), chS (τ.1 113) a1.toInt a2.toInt (cI σ 2).toNat = chS (σ.1 6) a1.toInt a2.toInt (cI σ 2).toNat := fun A => by
      rw [er]
      exact (chS_e (fun j hj => K21.row hI.2.2 hj) A _ (by omega)).symm
    obtain ⟨hB2, ⟨p, rfl, F2⟩ | ⟨p, rfl, F2, p2⟩⟩ := p
    · rcases hc with ⟨h1, -, -⟩ | ⟨h1, rfl, h3⟩
      · exfalso
        refine p ⟨h1.1, h1.2.1, h1.2.2.1, h1.2.2.2.1, h1.2.2.2.2.1, h1.2.2.2.2.2.1, ?_⟩
        rw [pe ⟨h1.2.2.1, h1.2.2.2.1⟩]
        exact h1.2.2.2.2.2.2
      · refine ⟨⟨_, rfl⟩, fun _ => rfl, hB2, mP.fr _ rfl rfl rfl rfl rfl rfl rfl rfl rfl rfl rfl rfl F2 hPτ, K21.mk ((KX.of (by decide +kernel) F2).ke ((KX.of (by decide +kernel) F1).ke (K21.sub hI.2.2))) (fun j hj => ?_)⟩
        rw [F2 6 j rfl, F2 113 j rfl, h3 j, er]
        exact K21.row hI.2.2 hj
    · rcases hc with ⟨h1, rfl, h3⟩ | ⟨h1, -, -⟩
      · have F3 : FQ [(113, 9999), (93, 0)] τ τ2 := F2
        refine ⟨⟨_, rfl⟩, fun _ => rfl, hB2, mP.fr _ rfl rfl rfl rfl rfl rfl rfl rfl rfl rfl rfl rfl F3 hPτ, K21.mk ((KX.of (by decide +kernel) F3).ke ((KX.of (by decide +kernel) F1).ke (K21.sub hI.2.2))) (fun j hj => ?_)⟩
        rw [F3 6 j rfl, p2 j, h3 j, er]
        split
        · rfl
        · exact K21.row hI.2.2 hj
      · exfalso
        refine h1 ⟨p.1, p.2.1, p.2.2.1, p.2.2.2.1, p.2.2.2.2.1, p.2.2.2.2.2.1, ?_⟩
        rw [← pe ⟨p.2.2.1, p.2.2.2.1⟩]
        exact p.2.2.2.2.2.2
  rcases q with ⟨q, rfl, F1⟩ | ⟨q, rfl, F1, q2⟩
  · exact go 0 (FQ.up (G := []) rfl F1) (Or.inr ⟨q, rfl, fun j => F1 6 j rfl⟩)
  · exact go 1 F1 (Or.inl ⟨q, rfl, q2⟩)
def KU (K : KY) (q0 : Nat × Nat × Nat × Nat) (G1 G2 : List (Nat × Nat)) : Bool := K.all (fun q => decide (q = q0) || (!an_inF G1 q.1 q.2.1 && !an_inF G1 q.2.2.1 q.2.2.2 && !an_inF G2 q.1 q.2.1 && !an_inF G2 q.2.2.1 q.2.2.2))
theorem KE.upd {K : KY} {q0 : Nat × Nat × Nat × Nat} {G1 G2 : List (Nat × Nat)} {σ τ υ : pm_S} (hc : KU K q0 G1 G2 = true) (hF1 : FQ G1 σ τ) (hF2 : FQ G2 τ υ) (he : KE K σ) (h0 : (υ.1 q0.1 q0.2.1).toInt = (υ.1 q0.2.2.1 q0.2.2.2).toInt) : KE K υ := fun q hq => by
  have h1 := List.all_eq_true.mp hc q hq
  rw [Bool.or_eq_true] at h1
  rcases h1 with h1 | h1
  · have e : q = q0 := of_decide_eq_true h1
    rw [e]
    exact Int32.toInt_inj.mp h0
  · rw [Bool.and_eq_true, Bool.and_eq_true, Bool.and_eq_true, Bool.not_eq_true', Bool.not_eq_true', Bool.not_eq_true', Bool.not_eq_true'] at h1
    rw [hF2 _ _ h1.1.2, hF2 _ _ h1.2, hF1 _ _ h1.1.1.1, hF1 _ _ h1.1.1.2]
    exact he q hq
theorem tc_spot (a1 : Int32) : Two 1 true (IK K21) (IK K21) 129 166 [.int a1] := by
  intro σ hI
  have e : (σ.1 3 0).toInt = cI σ 2 := hI.2.2.g (q := (3, 0, 93, 2)) (by decide)
  have g : 0 ≤ cI σ 2 ∧ cI σ 2 ≤ 10 := hI.1 93 2 (by decide)
  have fin : ∀ (τ τ2 : pm_S) (v n : Int), FQ [(3, 0), (4, 9999)] σ τ → FQ [(93, 0), (93, 2), (94, 9999)] τ τ2 → an_GB pm_B τ2 → (τ.1 3 0).toInt = n → (τ2.1 93 2).toInt = n → (n = cI σ 2 ∨ 1 ≤ n) → an_sh 1 (some (.int (Int32.ofInt v))) ∧ (true = true → some (Value.int (Int32.ofInt v)) = some (.int (Int32.ofInt v))) ∧ IK K21 τ2 := by
    intro τ τ2 v n hF1 hF2 hB2 c1 c2 h1
    have hPτ : mP τ := mP93 σ τ (fun p j hp => hF1 p j (an_foot93 rfl hp)) hI.2.1
    have e2 : cI τ 2 = cI σ 2 := hF1.c 2 rfl
    have e5 : cI τ2 5 = cI τ 5 := hF2.c 5 rfl
    have c2' : cI τ2 2 = n := c2
    refine ⟨⟨_, rfl⟩, fun _ => rfl, hB2, ⟨⟨pPP.fr _ rfl rfl rfl rfl rfl rfl rfl rfl hF2 hPτ.1.1, ?_⟩, mP_img (hF2.c 64 rfl) (fun i => hF2 133 i rfl) hPτ⟩, KE.upd (q0 := (3, 0, 93, 2)) (by decide +kernel) hF1 hF2 hI.2.2 ?_⟩
    · rcases h1 with h | h
      · unfold sPP
        rw [e5, c2', h, ← e2]
        exact hPτ.1.2
      · exact Or.inl (by omega)
    · show (τ2.1 3 0).toInt = (τ2.1 93 2).toInt
      rw [hF2 3 0 rfl]
      omega
  refine Sp.up (D := 21) ?_ (by decide)
  refine Sp.at rfl rfl ?_
  show Ok 129 21 0 [.ref 0, .int a1] [] σ _
  rw [← oI a1]
  refine sg_csp a1.toInt (cI σ 2) hI.1 ⟨ai_rng a1, g, trivial⟩ ⟨e, trivial⟩ ?_ ?_ ?_ ?_ <;>
  · intro τ y hB1 hF1 f _ _ c
    have f1 := f.1
    have f2 := f.2.1
    refine ⟨⟨_, rfl⟩, Sp.up (D := 21) ?_ (by decide)⟩
    refine Sp.at rfl rfl ?_
    refine sg_msp a1.toInt (cI σ 2) hB1 ⟨ai_rng a1, g, trivial⟩ ⟨hF1.c 2 rfl, trivial⟩ ?_ ?_ ?_ ?_ <;>
    · intro τ2 y2 hB2 hF2 f3 _ _ c2
      have f4 := f3.1
      have f5 := f3.2.1
      first
        | (exfalso; omega)
        | exact fin τ τ2 _ _ hF1 hF2 hB2 c.1 c2.1 (by omega)
