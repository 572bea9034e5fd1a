/-! spot, person, debt, set: by program, each checked by the kernel -/
/-- Model.spot -/
abbrev sx_spot : an_S := (166, 1000, [(2, 93, 0, 0), (1, 0, (-2147483648), 2147483647)], [(93, 2, 1, 10)], (1, (-1), 9), [(93, 0), (93, 2), (94, 9999)], [(93, 2, 1, 10)])
set_option maxRecDepth 100000 in
theorem sx_spot_ok : an_sok pm_B sx_spot := an_sum (T := []) (S := []) (H := []) (f := 43) (fun _ h => absurd h List.not_mem_nil) (by decide +kernel)
/-- Model.person -/
abbrev sx_person : an_S := (168, 1000, [(2, 93, 0, 0), (1, 0, (-2147483648), 2147483647), (1, 0, (-2147483648), 2147483647), (1, 0, (-2147483648), 2147483647)], [(93, 2, 0, 0), (93, 5, 0, 0)], (1, (-1), (-1)), [(93, 0)], [(93, 5, 0, 0)])
set_option maxRecDepth 100000 in
theorem sx_person_ok : an_sok pm_B sx_person := an_sum (T := []) (S := []) (H := []) (f := 21) (fun _ h => absurd h List.not_mem_nil) (by decide +kernel)
/-- PaidWhereMade.set -/
abbrev sx_cs0 : an_S := (133, 1000, [(2, 0, 0, 0), (1, 0, (-2147483648), (-1)), (1, 0, (-2147483648), 2147483647)], [], (1, 0, 0), [], [])
set_option maxRecDepth 100000 in
theorem sx_cs0_ok : an_sok pm_B sx_cs0 := an_sum (T := []) (S := []) (H := []) (f := 14) (fun _ h => absurd h List.not_mem_nil) (by decide +kernel)
/-- Model.set -/
abbrev sx_ms0 : an_S := (172, 1000, [(2, 93, 0, 0), (1, 0, (-2147483648), (-1)), (1, 0, (-2147483648), 2147483647)], [], (1, 0, 0), [(93, 0)], [])
set_option maxRecDepth 100000 in
theorem sx_ms0_ok : an_sok pm_B sx_ms0 := an_sum (T := []) (S := []) (H := []) (f := 20) (fun _ h => absurd h List.not_mem_nil) (by decide +kernel)
/-- PaidWhereMade.set -/
abbrev sx_cs1 : an_S := (133, 1000, [(2, 0, 0, 0), (1, 0, 4, 2147483647), (1, 0, (-2147483648), 2147483647)], [], (1, 0, 0), [], [])
set_option maxRecDepth 100000 in
theorem sx_cs1_ok : an_sok pm_B sx_cs1 := an_sum (T := []) (S := []) (H := []) (f := 17) (fun _ h => absurd h List.not_mem_nil) (by decide +kernel)
/-- Model.set -/
abbrev sx_ms1 : an_S := (172, 1000, [(2, 93, 0, 0), (1, 0, 4, 2147483647), (1, 0, (-2147483648), 2147483647)], [], (1, 0, 0), [(93, 0)], [])
set_option maxRecDepth 100000 in
theorem sx_ms1_ok : an_sok pm_B sx_ms1 := an_sum (T := []) (S := []) (H := []) (f := 23) (fun _ h => absurd h List.not_mem_nil) (by decide +kernel)
/-- PaidWhereMade.set -/
abbrev sx_cs2 : an_S := (133, 1000, [(2, 0, 0, 0), (1, 0, 0, 0), (1, 0, (-2147483648), (-1))], [], (1, 0, 0), [], [])
set_option maxRecDepth 100000 in
theorem sx_cs2_ok : an_sok pm_B sx_cs2 := an_sum (T := []) (S := []) (H := []) (f := 26) (fun _ h => absurd h List.not_mem_nil) (by decide +kernel)
/-- Model.set -/
abbrev sx_ms2 : an_S := (172, 1000, [(2, 93, 0, 0), (1, 0, 0, 0), (1, 0, (-2147483648), (-1))], [], (1, 0, 0), [(93, 0)], [])
set_option maxRecDepth 100000 in
theorem sx_ms2_ok : an_sok pm_B sx_ms2 := an_sum (T := []) (S := []) (H := []) (f := 49) (fun _ h => absurd h List.not_mem_nil) (by decide +kernel)
/-- PaidWhereMade.set -/
abbrev sx_cs3 : an_S := (133, 1000, [(2, 0, 0, 0), (1, 0, 0, 0), (1, 0, 0, 100)], [], (1, 1, 1), [(2, 9999)], [])
set_option maxRecDepth 100000 in
theorem sx_cs3_ok : an_sok pm_B sx_cs3 := an_sum (T := []) (S := []) (H := []) (f := 39) (fun _ h => absurd h List.not_mem_nil) (by decide +kernel)
/-- Model.set -/
abbrev sx_ms3 : an_S := (172, 1000, [(2, 93, 0, 0), (1, 0, 0, 0), (1, 0, 0, 100)], [], (1, 1, 1), [(93, 0), (108, 9999)], [])
set_option maxRecDepth 100000 in
theorem sx_ms3_ok : an_sok pm_B sx_ms3 := an_sum (T := []) (S := []) (H := []) (f := 58) (fun _ h => absurd h List.not_mem_nil) (by decide +kernel)
/-- PaidWhereMade.set -/
abbrev sx_cs4 : an_S := (133, 1000, [(2, 0, 0, 0), (1, 0, 0, 0), (1, 0, 101, 2147483647)], [], (1, 0, 0), [], [])
set_option maxRecDepth 100000 in
theorem sx_cs4_ok : an_sok pm_B sx_cs4 := an_sum (T := []) (S := []) (H := []) (f := 34) (fun _ h => absurd h List.not_mem_nil) (by decide +kernel)
/-- Model.set -/
abbrev sx_ms4 : an_S := (172, 1000, [(2, 93, 0, 0), (1, 0, 0, 0), (1, 0, 101, 2147483647)], [], (1, 0, 0), [(93, 0)], [])
set_option maxRecDepth 100000 in
theorem sx_ms4_ok : an_sok pm_B sx_ms4 := an_sum (T := []) (S := []) (H := []) (f := 52) (fun _ h => absurd h List.not_mem_nil) (by decide +kernel)
/-- PaidWhereMade.set -/
abbrev sx_cs5 : an_S := (133, 1000, [(2, 0, 0, 0), (1, 0, 1, 1), (1, 0, (-2147483648), (-1))], [], (1, 0, 0), [], [])
set_option maxRecDepth 100000 in
theorem sx_cs5_ok : an_sok pm_B sx_cs5 := an_sum (T := []) (S := []) (H := []) (f := 26) (fun _ h => absurd h List.not_mem_nil) (by decide +kernel)
/-- Model.set -/
abbrev sx_ms5 : an_S := (172, 1000, [(2, 93, 0, 0), (1, 0, 1, 1), (1, 0, (-2147483648), (-1))], [], (1, 0, 0), [(93, 0)], [])
set_option maxRecDepth 100000 in
theorem sx_ms5_ok : an_sok pm_B sx_ms5 := an_sum (T := []) (S := []) (H := []) (f := 52) (fun _ h => absurd h List.not_mem_nil) (by decide +kernel)
/-- PaidWhereMade.set -/
abbrev sx_cs6 : an_S := (133, 1000, [(2, 0, 0, 0), (1, 0, 1, 1), (1, 0, 0, 99)], [], (1, 1, 1), [(2, 9999)], [])
set_option maxRecDepth 100000 in
theorem sx_cs6_ok : an_sok pm_B sx_cs6 := an_sum (T := []) (S := []) (H := []) (f := 39) (fun _ h => absurd h List.not_mem_nil) (by decide +kernel)
/-- Model.set -/
abbrev sx_ms6 : an_S := (172, 1000, [(2, 93, 0, 0), (1, 0, 1, 1), (1, 0, 0, 99)], [], (1, 1, 1), [(93, 0), (108, 9999)], [])
set_option maxRecDepth 100000 in
theorem sx_ms6_ok : an_sok pm_B sx_ms6 := an_sum (T := []) (S := []) (H := []) (f := 61) (fun _ h => absurd h List.not_mem_nil) (by decide +kernel)
/-- PaidWhereMade.set -/
abbrev sx_cs7 : an_S := (133, 1000, [(2, 0, 0, 0), (1, 0, 1, 1), (1, 0, 100, 2147483647)], [], (1, 0, 0), [], [])
set_option maxRecDepth 100000 in
theorem sx_cs7_ok : an_sok pm_B sx_cs7 := an_sum (T := []) (S := []) (H := []) (f := 34) (fun _ h => absurd h List.not_mem_nil) (by decide +kernel)
/-- Model.set -/
abbrev sx_ms7 : an_S := (172, 1000, [(2, 93, 0, 0), (1, 0, 1, 1), (1, 0, 100, 2147483647)], [], (1, 0, 0), [(93, 0)], [])
set_option maxRecDepth 100000 in
theorem sx_ms7_ok : an_sok pm_B sx_ms7 := an_sum (T := []) (S := []) (H := []) (f := 55) (fun _ h => absurd h List.not_mem_nil) (by decide +kernel)
/-- PaidWhereMade.set -/
abbrev sx_cs8 : an_S := (133, 1000, [(2, 0, 0, 0), (1, 0, 2, 2), (1, 0, (-2147483648), (-1))], [], (1, 0, 0), [], [])
set_option maxRecDepth 100000 in
theorem sx_cs8_ok : an_sok pm_B sx_cs8 := an_sum (T := []) (S := []) (H := []) (f := 26) (fun _ h => absurd h List.not_mem_nil) (by decide +kernel)
/-- Model.set -/
abbrev sx_ms8 : an_S := (172, 1000, [(2, 93, 0, 0), (1, 0, 2, 2), (1, 0, (-2147483648), (-1))], [], (1, 0, 0), [(93, 0)], [])
set_option maxRecDepth 100000 in
theorem sx_ms8_ok : an_sok pm_B sx_ms8 := an_sum (T := []) (S := []) (H := []) (f := 55) (fun _ h => absurd h List.not_mem_nil) (by decide +kernel)
/-- PaidWhereMade.set -/
abbrev sx_cs9 : an_S := (133, 1000, [(2, 0, 0, 0), (1, 0, 2, 2), (1, 0, 0, 1)], [], (1, 1, 1), [(2, 9999)], [])
set_option maxRecDepth 100000 in
theorem sx_cs9_ok : an_sok pm_B sx_cs9 := an_sum (T := []) (S := []) (H := []) (f := 39) (fun _ h => absurd h List.not_mem_nil) (by decide +kernel)
/-- Model.set -/
abbrev sx_ms9 : an_S := (172, 1000, [(2, 93, 0, 0), (1, 0, 2, 2), (1, 0, 0, 1)], [], (1, 1, 1), [(93, 0), (108, 9999)], [])
set_option maxRecDepth 100000 in
theorem sx_ms9_ok : an_sok pm_B sx_ms9 := an_sum (T := []) (S := []) (H := []) (f := 64) (fun _ h => absurd h List.not_mem_nil) (by decide +kernel)
/-- PaidWhereMade.set -/
abbrev sx_cs10 : an_S := (133, 1000, [(2, 0, 0, 0), (1, 0, 2, 2), (1, 0, 2, 2147483647)], [], (1, 0, 0), [], [])
set_option maxRecDepth 100000 in
theorem sx_cs10_ok : an_sok pm_B sx_cs10 := an_sum (T := []) (S := []) (H := []) (f := 34) (fun _ h => absurd h List.not_mem_nil) (by decide +kernel)
/-- Model.set -/
abbrev sx_ms10 : an_S := (172, 1000, [(2, 93, 0, 0), (1, 0, 2, 2), (1, 0, 2, 2147483647)], [], (1, 0, 0), [(93, 0)], [])
set_option maxRecDepth 100000 in
theorem sx_ms10_ok : an_sok pm_B sx_ms10 := an_sum (T := []) (S := []) (H := []) (f := 58) (fun _ h => absurd h List.not_mem_nil) (by decide +kernel)
/-- PaidWhereMade.set -/
abbrev sx_cs11 : an_S := (133, 1000, [(2, 0, 0, 0), (1, 0, 3, 3), (1, 0, (-2147483648), 0)], [], (1, 0, 0), [], [])
set_option maxRecDepth 100000 in
theorem sx_cs11_ok : an_sok pm_B sx_cs11 := an_sum (T := []) (S := []) (H := []) (f := 27) (fun _ h => absurd h List.not_mem_nil) (by decide +kernel)
/-- Model.set -/
abbrev sx_ms11 : an_S := (172, 1000, [(2, 93, 0, 0), (1, 0, 3, 3), (1, 0, (-2147483648), 0)], [], (1, 0, 0), [(93, 0)], [])
set_option maxRecDepth 100000 in
theorem sx_ms11_ok : an_sok pm_B sx_ms11 := an_sum (T := []) (S := []) (H := []) (f := 55) (fun _ h => absurd h List.not_mem_nil) (by decide +kernel)
/-- PaidWhereMade.set -/
abbrev sx_cs12 : an_S := (133, 1000, [(2, 0, 0, 0), (1, 0, 3, 3), (1, 0, 1, 52)], [], (1, 1, 1), [(2, 9999)], [])
set_option maxRecDepth 100000 in
theorem sx_cs12_ok : an_sok pm_B sx_cs12 := an_sum (T := []) (S := []) (H := []) (f := 40) (fun _ h => absurd h List.not_mem_nil) (by decide +kernel)
/-- Model.set -/
abbrev sx_ms12 : an_S := (172, 1000, [(2, 93, 0, 0), (1, 0, 3, 3), (1, 0, 1, 52)], [], (1, 1, 1), [(93, 0), (108, 9999)], [])
set_option maxRecDepth 100000 in
theorem sx_ms12_ok : an_sok pm_B sx_ms12 := an_sum (T := []) (S := []) (H := []) (f := 64) (fun _ h => absurd h List.not_mem_nil) (by decide +kernel)
/-- PaidWhereMade.set -/
abbrev sx_cs13 : an_S := (133, 1000, [(2, 0, 0, 0), (1, 0, 3, 3), (1, 0, 53, 2147483647)], [], (1, 0, 0), [], [])
set_option maxRecDepth 100000 in
theorem sx_cs13_ok : an_sok pm_B sx_cs13 := an_sum (T := []) (S := []) (H := []) (f := 35) (fun _ h => absurd h List.not_mem_nil) (by decide +kernel)
/-- Model.set -/
abbrev sx_ms13 : an_S := (172, 1000, [(2, 93, 0, 0), (1, 0, 3, 3), (1, 0, 53, 2147483647)], [], (1, 0, 0), [(93, 0)], [])
set_option maxRecDepth 100000 in
theorem sx_ms13_ok : an_sok pm_B sx_ms13 := an_sum (T := []) (S := []) (H := []) (f := 58) (fun _ h => absurd h List.not_mem_nil) (by decide +kernel)
set_option maxRecDepth 100000 in
theorem sg_db0 {σ : pm_S} {Q : Option Value → pm_S → Prop} (x0 x1 x2 x3 : Int)  (hB : an_GB pm_B σ) (eF : ((-2147483648) ≤ x0 ∧ x0 ≤ 2147483647) ∧ ((-2147483648) ≤ x1 ∧ x1 ≤ 2147483647) ∧ ((-2147483648) ≤ x2 ∧ x2 ≤ 2147483647) ∧ ((-2147483648) ≤ x3 ∧ x3 ≤ 2147483647) ∧ True)
    (l0 : ∀ (τ : pm_S) (y : Nat → Int), an_GB pm_B τ → FQ [(93, 0)] σ τ → (((-2147483648) ≤ x0 ∧ x0 ≤ 2147483647) ∧ ((-2147483648) ≤ x1 ∧ x1 ≤ 2147483647) ∧ ((-2147483648) ≤ x2 ∧ x2 ≤ 2147483647) ∧ ((-2147483648) ≤ x3 ∧ x3 ≤ 2147483647) ∧ True) → (True) → (True) → (True) → Q (some (.int (Int32.ofInt (-1)))) τ)
    (l1 : ∀ (τ : pm_S) (y : Nat → Int), an_GB pm_B τ → FQ [(93, 0)] σ τ → ((0 ≤ x0 ∧ x0 ≤ 9) ∧ (0 ≤ x1 ∧ x1 ≤ 9) ∧ ((-2147483648) ≤ x2 ∧ x2 ≤ 2147483647) ∧ ((-2147483648) ≤ x3 ∧ x3 ≤ 2147483647) ∧ True) → (True) → (True) → (True) → Ok 169 21 13 [.ref 93, .int (Int32.ofInt (x0)), .int (Int32.ofInt (x1)), .int (Int32.ofInt (x2)), .int (Int32.ofInt (x3))] [.int (Int32.ofInt (x1)), .int (Int32.ofInt (x0))] τ Q)
    : Ok 169 21 0 [.ref 93, .int (Int32.ofInt (x0)), .int (Int32.ofInt (x1)), .int (Int32.ofInt (x2)), .int (Int32.ofInt (x3))] [] σ Q := by
  refine an_seg (B := pm_B) (F := [(93, 0)]) (T := []) (S := []) (fun _ h => absurd h List.not_mem_nil) (k := 169) (d := 20) (cs := [13]) 33 0 4 [(0, (-2147483648), 2147483647), (1, (-2147483648), 2147483647), (2, (-2147483648), 2147483647), (3, (-2147483648), 2147483647)] [] [(2, 93, 0), (0, 0, 0), (0, 1, 0), (0, 2, 0), (0, 3, 0)] [] [(9999, [], [(1, 0, (-1))], [(0, (-2147483648), 2147483647), (1, (-2147483648), 2147483647), (2, (-2147483648), 2147483647), (3, (-2147483648), 2147483647)], [], [], []),
    (13, [(2, 93, 0), (0, 0, 0), (0, 1, 0), (0, 2, 0), (0, 3, 0)], [(0, 1, 0), (0, 0, 0)], [(0, 0, 9), (1, 0, 9), (2, (-2147483648), 2147483647), (3, (-2147483648), 2147483647)], [], [], [])] (by decide +kernel) (ρ0 := (fun s => [x0, x1, x2, x3].getD s 0)) hB eF trivial ⟨rfl, ⟨rfl, ⟨rfl, ⟨rfl, ⟨rfl, trivial⟩⟩⟩⟩⟩ trivial ?_
  refine List.forall_mem_cons.mpr ⟨?_, List.forall_mem_cons.mpr ⟨?_, fun _ h => absurd h List.not_mem_nil⟩⟩
  · intro ρ τ Lc stc hx g1 g2 g3 g4 g5 g6 g7 g8
    have e0 : ρ 0 = x0 := hx 0 (by decide)
    have e1 : ρ 1 = x1 := hx 1 (by decide)
    have e2 : ρ 2 = x2 := hx 2 (by decide)
    have e3 : ρ 3 = x3 := hx 3 (by decide)
    subst e0
    subst e1
    subst e2
    subst e3
    match stc, g8 with
    | [_], ⟨h, _⟩ => cases h; exact l0 τ ρ g1 g2 g3 g4 g5 g6
  · intro ρ τ Lc stc hx g1 g2 g3 g4 g5 g6 g7 g8
    have e0 : ρ 0 = x0 := hx 0 (by decide)
    have e1 : ρ 1 = x1 := hx 1 (by decide)
    have e2 : ρ 2 = x2 := hx 2 (by decide)
    have e3 : ρ 3 = x3 := hx 3 (by decide)
    subst e0
    subst e1
    subst e2
    subst e3
    have g7 := g7 (by decide)
    match Lc, stc, g7, g8 with
    | [v0, v1, v2, v3, v4], [w0, w1], ⟨hv0, hv1, hv2, hv3, hv4, _⟩, ⟨hw0, hw1, _⟩ =>
      cases hv0
      cases hv1
      cases hv2
      cases hv3
      cases hv4
      cases hw0
      cases hw1
      exact l1 τ ρ  g1 g2 g3 g4 g5 g6
set_option maxRecDepth 100000 in
theorem sg_db14 {σ : pm_S} {Q : Option Value → pm_S → Prop} (x0 x1 x2 x3 x4 : Int)  (hB : an_GB pm_B σ) (eF : (0 ≤ x0 ∧ x0 ≤ 9) ∧ (0 ≤ x1 ∧ x1 ≤ 9) ∧ ((-2147483648) ≤ x2 ∧ x2 ≤ 2147483647) ∧ ((-2147483648) ≤ x3 ∧ x3 ≤ 2147483647) ∧ (0 ≤ x4 ∧ x4 ≤ 30) ∧ True) (eC : (σ.1 93 11).toInt = x4 ∧ True)
    (l0 : ∀ (τ : pm_S) (y : Nat → Int), an_GB pm_B τ → FQ [] σ τ → ((0 ≤ x0 ∧ x0 ≤ 9) ∧ (0 ≤ x1 ∧ x1 ≤ 9) ∧ ((-2147483648) ≤ x2 ∧ x2 ≤ 2147483647) ∧ ((-2147483648) ≤ x3 ∧ x3 ≤ 2147483647) ∧ (0 ≤ x4 ∧ x4 ≤ 30) ∧ True) → (True) → (True) → (True) → Q (some (.int (Int32.ofInt (-1)))) τ)
    (l1 : ∀ (τ : pm_S) (y : Nat → Int), an_GB pm_B τ → FQ [] σ τ → ((0 ≤ x0 ∧ x0 ≤ 9) ∧ (0 ≤ x1 ∧ x1 ≤ 9) ∧ (1 ≤ x2 ∧ x2 ≤ 9999) ∧ (0 ≤ x3 ∧ x3 ≤ 9) ∧ (0 ≤ x4 ∧ x4 ≤ 29) ∧ True) → (True) → (True) → (True) → Ok 169 21 35 [.ref 93, .int (Int32.ofInt (x0)), .int (Int32.ofInt (x1)), .int (Int32.ofInt (x2)), .int (Int32.ofInt (x3))] [.int (Int32.ofInt (x0)), .int (Int32.ofInt (x4)), .ref 101] τ Q)
    : Ok 169 21 14 [.ref 93, .int (Int32.ofInt (x0)), .int (Int32.ofInt (x1)), .int (Int32.ofInt (x2)), .int (Int32.ofInt (x3))] [] σ Q := by
  refine an_seg (B := pm_B) (F := []) (T := []) (S := []) (fun _ h => absurd h List.not_mem_nil) (k := 169) (d := 20) (cs := [35]) 39 14 5 [(0, 0, 9), (1, 0, 9), (2, (-2147483648), 2147483647), (3, (-2147483648), 2147483647), (4, 0, 30)] [(93, (1, 0, 11), (0, 4, 0))] [(2, 93, 0), (0, 0, 0), (0, 1, 0), (0, 2, 0), (0, 3, 0)] [] [(9999, [], [(1, 0, (-1))], [(0, 0, 9), (1, 0, 9), (2, (-2147483648), 2147483647), (3, (-2147483648), 2147483647), (4, 0, 30)], [], [], []),
    (35, [(2, 93, 0), (0, 0, 0), (0, 1, 0), (0, 2, 0), (0, 3, 0)], [(0, 0, 0), (0, 4, 0), (2, 101, 0)], [(0, 0, 9), (1, 0, 9), (2, 1, 9999), (3, 0, 9), (4, 0, 29)], [], [], [])] (by decide +kernel) (ρ0 := (fun s => [x0, x1, x2, x3, x4].getD s 0)) hB eF eC ⟨rfl, ⟨rfl, ⟨rfl, ⟨rfl, ⟨rfl, trivial⟩⟩⟩⟩⟩ trivial ?_
  refine List.forall_mem_cons.mpr ⟨?_, List.forall_mem_cons.mpr ⟨?_, fun _ h => absurd h List.not_mem_nil⟩⟩
  · intro ρ τ Lc stc hx g1 g2 g3 g4 g5 g6 g7 g8
    have e0 : ρ 0 = x0 := hx 0 (by decide)
    have e1 : ρ 1 = x1 := hx 1 (by decide)
    have e2 : ρ 2 = x2 := hx 2 (by decide)
    have e3 : ρ 3 = x3 := hx 3 (by decide)
    have e4 : ρ 4 = x4 := hx 4 (by decide)
    subst e0
    subst e1
    subst e2
    subst e3
    subst e4
    match stc, g8 with
    | [_], ⟨h, _⟩ => cases h; exact l0 τ ρ g1 g2 g3 g4 g5 g6
  · intro ρ τ Lc stc hx g1 g2 g3 g4 g5 g6 g7 g8
    have e0 : ρ 0 = x0 := hx 0 (by decide)
    have e1 : ρ 1 = x1 := hx 1 (by decide)
    have e2 : ρ 2 = x2 := hx 2 (by decide)
    have e3 : ρ 3 = x3 := hx 3 (by decide)
    have e4 : ρ 4 = x4 := hx 4 (by decide)
    subst e0
    subst e1
    subst e2
    subst e3
    subst e4
    have g7 := g7 (by decide)
    match Lc, stc, g7, g8 with
    | [v0, v1, v2, v3, v4], [w0, w1, w2], ⟨hv0, hv1, hv2, hv3, hv4, _⟩, ⟨hw0, hw1, hw2, _⟩ =>
      cases hv0
      cases hv1
      cases hv2
      cases hv3
      cases hv4
      cases hw0
      cases hw1
      cases hw2
      exact l1 τ ρ  g1 g2 g3 g4 g5 g6
set_option maxRecDepth 100000 in
theorem sg_db28 {σ : pm_S} {Q : Option Value → pm_S → Prop} (v1 : Value) (v2 : Value) (v3 : Value) (v4 : Value) (hv1 : v1.category = 1) (hv2 : v2.category = 1) (hv3 : v3.category = 1) (hv4 : v4.category = 1) (hB : an_GB pm_B σ)
    (l0 : ∀ (τ : pm_S) (y : Nat → Int), an_GB pm_B τ → FQ [] σ τ → (True) → (True) → (True) → (True) → Q (some (.int (Int32.ofInt (-1)))) τ)
    : Ok 169 21 28 [.ref 93, v1, v2, v3, v4] [] σ Q := by
  refine an_seg (B := pm_B) (F := []) (T := []) (S := []) (fun _ h => absurd h List.not_mem_nil) (k := 169) (d := 20) (cs := []) 4 28 0 [] [] [(2, 93, 0), (5, 0, 0), (5, 0, 0), (5, 0, 0), (5, 0, 0)] [] [(9999, [], [(1, 0, (-1))], [], [], [], [])] (by decide +kernel) (ρ0 := (fun s => [].getD s 0)) hB trivial trivial ⟨rfl, ⟨hv1, ⟨hv2, ⟨hv3, ⟨hv4, trivial⟩⟩⟩⟩⟩ trivial ?_
  refine List.forall_mem_cons.mpr ⟨?_, fun _ h => absurd h List.not_mem_nil⟩
  · intro ρ τ Lc stc hx g1 g2 g3 g4 g5 g6 g7 g8
    match stc, g8 with
    | [_], ⟨h, _⟩ => cases h; exact l0 τ ρ g1 g2 g3 g4 g5 g6
set_option maxRecDepth 100000 in
theorem sg_db36 {σ : pm_S} {Q : Option Value → pm_S → Prop} (x0 x1 x2 x3 x4 : Int)  (hB : an_GB pm_B σ) (eF : (0 ≤ x0 ∧ x0 ≤ 9) ∧ (0 ≤ x1 ∧ x1 ≤ 9) ∧ (1 ≤ x2 ∧ x2 ≤ 9999) ∧ (0 ≤ x3 ∧ x3 ≤ 9) ∧ (0 ≤ x4 ∧ x4 ≤ 29) ∧ True) (eC : (σ.1 93 11).toInt = x4 ∧ True)
    (l0 : ∀ (τ : pm_S) (y : Nat → Int), an_GB pm_B τ → FQ [] σ τ → ((0 ≤ x0 ∧ x0 ≤ 9) ∧ (0 ≤ x1 ∧ x1 ≤ 9) ∧ (1 ≤ x2 ∧ x2 ≤ 9999) ∧ (0 ≤ x3 ∧ x3 ≤ 9) ∧ (0 ≤ x4 ∧ x4 ≤ 29) ∧ True) → (True) → (True) → (True) → Ok 169 21 41 [.ref 93, .int (Int32.ofInt (x0)), .int (Int32.ofInt (x1)), .int (Int32.ofInt (x2)), .int (Int32.ofInt (x3))] [.int (Int32.ofInt (x1)), .int (Int32.ofInt (x4)), .ref 102] τ Q)
    : Ok 169 21 36 [.ref 93, .int (Int32.ofInt (x0)), .int (Int32.ofInt (x1)), .int (Int32.ofInt (x2)), .int (Int32.ofInt (x3))] [] σ Q := by
  refine an_seg (B := pm_B) (F := []) (T := []) (S := []) (fun _ h => absurd h List.not_mem_nil) (k := 169) (d := 20) (cs := [41]) 7 36 5 [(0, 0, 9), (1, 0, 9), (2, 1, 9999), (3, 0, 9), (4, 0, 29)] [(93, (1, 0, 11), (0, 4, 0))] [(2, 93, 0), (0, 0, 0), (0, 1, 0), (0, 2, 0), (0, 3, 0)] [] [(41, [(2, 93, 0), (0, 0, 0), (0, 1, 0), (0, 2, 0), (0, 3, 0)], [(0, 1, 0), (0, 4, 0), (2, 102, 0)], [(0, 0, 9), (1, 0, 9), (2, 1, 9999), (3, 0, 9), (4, 0, 29)], [], [], [])] (by decide +kernel) (ρ0 := (fun s => [x0, x1, x2, x3, x4].getD s 0)) hB eF eC ⟨rfl, ⟨rfl, ⟨rfl, ⟨rfl, ⟨rfl, trivial⟩⟩⟩⟩⟩ trivial ?_
  refine List.forall_mem_cons.mpr ⟨?_, fun _ h => absurd h List.not_mem_nil⟩
  · intro ρ τ Lc stc hx g1 g2 g3 g4 g5 g6 g7 g8
    have e0 : ρ 0 = x0 := hx 0 (by decide)
    have e1 : ρ 1 = x1 := hx 1 (by decide)
    have e2 : ρ 2 = x2 := hx 2 (by decide)
    have e3 : ρ 3 = x3 := hx 3 (by decide)
    have e4 : ρ 4 = x4 := hx 4 (by decide)
    subst e0
    subst e1
    subst e2
    subst e3
    subst e4
    have g7 := g7 (by decide)
    match Lc, stc, g7, g8 with
    | [v0, v1, v2, v3, v4], [w0, w1, w2], ⟨hv0, hv1, hv2, hv3, hv4, _⟩, ⟨hw0, hw1, hw2, _⟩ =>
      cases hv0
      cases hv1
      cases hv2
      cases hv3
      cases hv4
      cases hw0
      cases hw1
      cases hw2
      exact l0 τ ρ  g1 g2 g3 g4 g5 g6
set_option maxRecDepth 100000 in
theorem sg_db42 {σ : pm_S} {Q : Option Value → pm_S → Prop} (x0 x1 x2 x3 x4 : Int)  (hB : an_GB pm_B σ) (eF : (0 ≤ x0 ∧ x0 ≤ 9) ∧ (0 ≤ x1 ∧ x1 ≤ 9) ∧ (1 ≤ x2 ∧ x2 ≤ 9999) ∧ (0 ≤ x3 ∧ x3 ≤ 9) ∧ (0 ≤ x4 ∧ x4 ≤ 29) ∧ True) (eC : (σ.1 93 11).toInt = x4 ∧ True)
    (l0 : ∀ (τ : pm_S) (y : Nat → Int), an_GB pm_B τ → FQ [(93, 11), (103, 9999), (104, 9999), (105, 9999), (106, 9999), (107, 9999)] σ τ → ((0 ≤ x0 ∧ x0 ≤ 9) ∧ (0 ≤ x1 ∧ x1 ≤ 9) ∧ (1 ≤ x2 ∧ x2 ≤ 9999) ∧ (0 ≤ x3 ∧ x3 ≤ 9) ∧ (0 ≤ x4 ∧ x4 ≤ 29) ∧ True) → (True) → (True) → ((τ.1 93 11).toInt = x4 + 1 ∧ True) → Q (some (.int (Int32.ofInt (x4)))) τ)
    : Ok 169 21 42 [.ref 93, .int (Int32.ofInt (x0)), .int (Int32.ofInt (x1)), .int (Int32.ofInt (x2)), .int (Int32.ofInt (x3))] [] σ Q := by
  refine an_seg (B := pm_B) (F := [(93, 11), (103, 9999), (104, 9999), (105, 9999), (106, 9999), (107, 9999)]) (T := []) (S := []) (fun _ h => absurd h List.not_mem_nil) (k := 169) (d := 20) (cs := []) 44 42 5 [(0, 0, 9), (1, 0, 9), (2, 1, 9999), (3, 0, 9), (4, 0, 29)] [(93, (1, 0, 11), (0, 4, 0))] [(2, 93, 0), (0, 0, 0), (0, 1, 0), (0, 2, 0), (0, 3, 0)] [] [(9999, [], [(0, 4, 0)], [(0, 0, 9), (1, 0, 9), (2, 1, 9999), (3, 0, 9), (4, 0, 29)], [], [], [(93, (1, 0, 11), (0, 4, 1))])] (by decide +kernel) (ρ0 := (fun s => [x0, x1, x2, x3, x4].getD s 0)) hB eF eC ⟨rfl, ⟨rfl, ⟨rfl, ⟨rfl, ⟨rfl, trivial⟩⟩⟩⟩⟩ trivial ?_
  refine List.forall_mem_cons.mpr ⟨?_, fun _ h => absurd h List.not_mem_nil⟩
  · intro ρ τ Lc stc hx g1 g2 g3 g4 g5 g6 g7 g8
    have e0 : ρ 0 = x0 := hx 0 (by decide)
    have e1 : ρ 1 = x1 := hx 1 (by decide)
    have e2 : ρ 2 = x2 := hx 2 (by decide)
    have e3 : ρ 3 = x3 := hx 3 (by decide)
    have e4 : ρ 4 = x4 := hx 4 (by decide)
    subst e0
    subst e1
    subst e2
    subst e3
    subst e4
    match stc, g8 with
    | [_], ⟨h, _⟩ => cases h; exact l0 τ ρ g1 g2 g3 g4 g5 g6
