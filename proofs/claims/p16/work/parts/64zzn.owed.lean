/-! owed: what one is told of a debt, both sides -/
set_option maxRecDepth 20000 in
theorem x_h1 {σ : pm_S} (v S : Int) (hB : an_GB pm_B σ) (hv : (-2147483648) ≤ v ∧ v ≤ 2147483647) (hS : (σ.1 13 0).toInt = S) : Sp 1 2 [.ref 13, .int (Int32.ofInt v)] σ (fun r τ => an_GB pm_B τ ∧ FQ [] σ τ ∧ ((¬ (0 ≤ v ∧ v < S) ∧ r = some (.int (Int32.ofInt 0)) ∧ True) ∨ ((0 ≤ v ∧ v < S) ∧ r = some (.int (Int32.ofInt 1)) ∧ True))) := by
  subst hS
  refine Sp.at rfl rfl ?_
  refine O_Debts_has [1] 400 (fun R cl Z hR hcl hZ => ?_)
  conv => whnf
  refine hR _ _ _ _ ?_
  refine Ok.if1 rfl rfl (fun q => ?_) (fun q => ?_)
  · have q0 : v < 0 := by
      have q' : Int32.ofInt v < 0 := q
      rw [Int32.lt_iff_toInt_lt, ti_of (by omega) (by omega)] at q'
      exact q'
    refine O_Debts_has [] 400 (fun R cl Z hR hcl hZ => ?_)
    conv => whnf
    exact ⟨fun _ => hZ _ _ ⟨hB, FQ.rf _ _, Or.inl ⟨by omega, congrArg (fun w => some (Value.int w)) o0, trivial⟩⟩, fun z => absurd (by decide) z⟩
  · have q0 : 0 ≤ v := by
      have q' : ¬ (Int32.ofInt v < 0) := q
      rw [Int32.lt_iff_toInt_lt, ti_of (by omega) (by omega)] at q'
      have e0 : (0 : Int32).toInt = 0 := rfl
      omega
    refine O_Debts_has [5] 400 (fun R cl Z hR hcl hZ => ?_)
    conv => whnf
    refine hR _ _ _ _ ?_
    have eo : (Int32.ofInt (σ.1 13 0).toInt).toInt = (σ.1 13 0).toInt := by rw [oI]
    rw [← oI (σ.1 13 0)]
    refine Ok.ic rfl rfl (by omega) (by omega) (ai_rng _).1 (ai_rng _).2 (fun q2 => ?_) (fun q2 => ?_)
    · have q2 : (σ.1 13 0).toInt ≤ v := q2
      refine O_Debts_has [] 400 (fun R cl Z hR hcl hZ => ?_)
      conv => whnf
      exact ⟨fun _ => hZ _ _ ⟨hB, FQ.rf _ _, Or.inl ⟨by omega, congrArg (fun w => some (Value.int w)) o0, trivial⟩⟩, fun z => absurd (by decide) z⟩
    · have q2 : v < (σ.1 13 0).toInt := q2
      refine O_Debts_has [] 400 (fun R cl Z hR hcl hZ => ?_)
      conv => whnf
      exact ⟨fun _ => hZ _ _ ⟨hB, FQ.rf _ _, Or.inr ⟨⟨q0, by omega⟩, congrArg (fun w => some (Value.int w)) o1, trivial⟩⟩, fun z => absurd (by decide) z⟩
set_option maxRecDepth 100000 in
theorem zc_w0 {σ : pm_S} {Q : Option Value → pm_S → Prop} (x0 x1 : Int)  (hB : an_GB pm_B σ) (eF : ((-2147483648) ≤ x0 ∧ x0 ≤ 2147483647) ∧ ((-2147483648) ≤ x1 ∧ x1 ≤ 2147483647) ∧ True)
    (l0 : ∀ (τ : pm_S) (y : Nat → Int), an_GB pm_B τ → FQ [] σ τ → (((-2147483648) ≤ x0 ∧ x0 ≤ 2147483647) ∧ ((-2147483648) ≤ x1 ∧ x1 ≤ 2147483647) ∧ True) → (True) → (True) → (True) → Ok 142 22 4 [.ref 0, .int (Int32.ofInt (x0)), .int (Int32.ofInt (x1))] [.int (Int32.ofInt (x0)), .ref 13] τ Q)
    : Ok 142 22 0 [.ref 0, .int (Int32.ofInt (x0)), .int (Int32.ofInt (x1))] [] σ Q := by
  refine an_seg (B := pm_B) (F := []) (T := []) (S := []) (fun _ h => absurd h List.not_mem_nil) (k := 142) (d := 21) (cs := [4]) 6 0 2 [(0, (-2147483648), 2147483647), (1, (-2147483648), 2147483647)] [] [(2, 0, 0), (0, 0, 0), (0, 1, 0)] [] [(4, [(2, 0, 0), (0, 0, 0), (0, 1, 0)], [(0, 0, 0), (2, 13, 0)], [(0, (-2147483648), 2147483647), (1, (-2147483648), 2147483647)], [], [], [])] (by decide +kernel) (ρ0 := (fun s => [x0, x1].getD s 0)) hB eF trivial ⟨rfl, ⟨rfl, ⟨rfl, trivial⟩⟩⟩ trivial ?_
  refine List.forall_mem_cons.mpr ⟨?_, fun _ h => absurd h List.not_mem_nil⟩
  · intro ρ τ Lc stc hx g1 g2 g3 g4 g5 g6 g7 g8
    have e0 : ρ 0 = x0 := hx 0 (by decide)
    have e1 : ρ 1 = x1 := hx 1 (by decide)
    subst e0
    subst e1
    have g7 := g7 (by decide)
    match Lc, stc, g7, g8 with
    | [v0, v1, v2], [w0, w1], ⟨hv0, hv1, hv2, _⟩, ⟨hw0, hw1, _⟩ =>
      cases hv0
      cases hv1
      cases hv2
      cases hw0
      cases hw1
      exact l0 τ ρ  g1 g2 g3 g4 g5 g6
set_option maxRecDepth 100000 in
theorem zc_w5n {σ : pm_S} {Q : Option Value → pm_S → Prop} (x0 x1 : Int)  (hB : an_GB pm_B σ) (eF : ((-2147483648) ≤ x0 ∧ x0 ≤ 2147483647) ∧ ((-2147483648) ≤ x1 ∧ x1 ≤ 2147483647) ∧ True)
    (l0 : ∀ (τ : pm_S) (y : Nat → Int), an_GB pm_B τ → FQ [] σ τ → (((-2147483648) ≤ x0 ∧ x0 ≤ 2147483647) ∧ ((-2147483648) ≤ x1 ∧ x1 ≤ 2147483647) ∧ True) → (True) → (True) → (True) → Q (some (.int (Int32.ofInt (-2)))) τ)
    : Ok 142 22 5 [.ref 0, .int (Int32.ofInt (x0)), .int (Int32.ofInt (x1))] [.int (Int32.ofInt 0)] σ Q := by
  refine an_seg (B := pm_B) (F := []) (T := []) (S := []) (fun _ h => absurd h List.not_mem_nil) (k := 142) (d := 21) (cs := []) 5 5 2 [(0, (-2147483648), 2147483647), (1, (-2147483648), 2147483647)] [] [(2, 0, 0), (0, 0, 0), (0, 1, 0)] [(1, 0, 0)] [(9999, [], [(1, 0, (-2))], [(0, (-2147483648), 2147483647), (1, (-2147483648), 2147483647)], [], [], [])] (by decide +kernel) (ρ0 := (fun s => [x0, x1].getD s 0)) hB eF trivial ⟨rfl, ⟨rfl, ⟨rfl, trivial⟩⟩⟩ ⟨rfl, trivial⟩ ?_
  refine List.forall_mem_cons.mpr ⟨?_, fun _ h => absurd h List.not_mem_nil⟩
  · intro ρ τ Lc stc hx g1 g2 g3 g4 g5 g6 g7 g8
    have e0 : ρ 0 = x0 := hx 0 (by decide)
    have e1 : ρ 1 = x1 := hx 1 (by decide)
    subst e0
    subst e1
    match stc, g8 with
    | [_], ⟨h, _⟩ => cases h; exact l0 τ ρ g1 g2 g3 g4 g5 g6
set_option maxRecDepth 100000 in
theorem zc_w5 {σ : pm_S} {Q : Option Value → pm_S → Prop} (x0 x1 x2 x3 x4 x5 x6 x7 x8 : Int)  (hB : an_GB pm_B σ) (eF : (0 ≤ x0 ∧ x0 ≤ 29) ∧ ((-2147483648) ≤ x1 ∧ x1 ≤ 2147483647) ∧ (0 ≤ x2 ∧ x2 ≤ 9) ∧ (0 ≤ x3 ∧ x3 ≤ 9) ∧ ((-2147483648) ≤ x4 ∧ x4 ≤ 2147483647) ∧ (0 ≤ x5 ∧ x5 ≤ 9) ∧ ((-2147483648) ≤ x6 ∧ x6 ≤ 2147483647) ∧ ((-2147483648) ≤ x7 ∧ x7 ≤ 2147483647) ∧ ((-2147483648) ≤ x8 ∧ x8 ≤ 2147483647) ∧ True) (eC : (σ.1 14 (x0).toNat).toInt = x2 ∧ (σ.1 15 (x0).toNat).toInt = x3 ∧ (σ.1 16 (x0).toNat).toInt = x4 ∧ (σ.1 17 (x0).toNat).toInt = x5 ∧ (σ.1 18 (x0).toNat).toInt = x6 ∧ (σ.1 19 (x0).toNat).toInt = x7 ∧ (σ.1 20 (x0).toNat).toInt = x8 ∧ True)
    (l0 : ∀ (τ : pm_S) (y : Nat → Int), an_GB pm_B τ → FQ [] σ τ → ((0 ≤ x0 ∧ x0 ≤ 29) ∧ ((-2147483648) ≤ x1 ∧ x1 ≤ 2147483647) ∧ (0 ≤ x2 ∧ x2 ≤ 9) ∧ (0 ≤ x3 ∧ x3 ≤ 9) ∧ ((-2147483648) ≤ x4 ∧ x4 ≤ 2147483647) ∧ (0 ≤ x5 ∧ x5 ≤ 9) ∧ ((-2147483648) ≤ x6 ∧ x6 ≤ 2147483647) ∧ ((-2147483648) ≤ x7 ∧ x7 ≤ 2147483647) ∧ ((-2147483648) ≤ x8 ∧ x8 ≤ 2147483647) ∧ True) → (x1 ≠ 7 ∧ x1 ≠ 6 ∧ x1 ≠ 5 ∧ x1 ≠ 4 ∧ x1 ≠ 3 ∧ x1 ≠ 2 ∧ x1 ≠ 1 ∧ x1 ≠ 0 ∧ True) → (True) → ((τ.1 14 (x0).toNat).toInt = x2 ∧ (τ.1 15 (x0).toNat).toInt = x3 ∧ (τ.1 16 (x0).toNat).toInt = x4 ∧ (τ.1 17 (x0).toNat).toInt = x5 ∧ (τ.1 18 (x0).toNat).toInt = x6 ∧ (τ.1 19 (x0).toNat).toInt = x7 ∧ (τ.1 20 (x0).toNat).toInt = x8 ∧ True) → Q (some (.int (Int32.ofInt (-2)))) τ)
    (l1 : ∀ (τ : pm_S) (y : Nat → Int), an_GB pm_B τ → FQ [] σ τ → ((0 ≤ x0 ∧ x0 ≤ 29) ∧ (7 ≤ x1 ∧ x1 ≤ 7) ∧ (0 ≤ x2 ∧ x2 ≤ 9) ∧ (0 ≤ x3 ∧ x3 ≤ 9) ∧ ((-2147483648) ≤ x4 ∧ x4 ≤ 2147483647) ∧ (0 ≤ x5 ∧ x5 ≤ 9) ∧ ((-2147483648) ≤ x6 ∧ x6 ≤ 2147483647) ∧ ((-2147483648) ≤ x7 ∧ x7 ≤ 2147483647) ∧ ((-2147483648) ≤ x8 ∧ x8 ≤ 2147483647) ∧ True) → (x1 ≠ 6 ∧ x1 ≠ 5 ∧ x1 ≠ 4 ∧ x1 ≠ 3 ∧ x1 ≠ 2 ∧ x1 ≠ 1 ∧ x1 ≠ 0 ∧ True) → (True) → ((τ.1 14 (x0).toNat).toInt = x2 ∧ (τ.1 15 (x0).toNat).toInt = x3 ∧ (τ.1 16 (x0).toNat).toInt = x4 ∧ (τ.1 17 (x0).toNat).toInt = x5 ∧ (τ.1 18 (x0).toNat).toInt = x6 ∧ (τ.1 19 (x0).toNat).toInt = x7 ∧ (τ.1 20 (x0).toNat).toInt = x8 ∧ True) → Ok 142 22 63 [.ref 0, .int (Int32.ofInt (x0)), .int (Int32.ofInt (x1))] [.int (Int32.ofInt (x0)), .ref 13] τ Q)
    (l2 : ∀ (τ : pm_S) (y : Nat → Int), an_GB pm_B τ → FQ [] σ τ → ((0 ≤ x0 ∧ x0 ≤ 29) ∧ (6 ≤ x1 ∧ x1 ≤ 6) ∧ (0 ≤ x2 ∧ x2 ≤ 9) ∧ (0 ≤ x3 ∧ x3 ≤ 9) ∧ ((-2147483648) ≤ x4 ∧ x4 ≤ 2147483647) ∧ (0 ≤ x5 ∧ x5 ≤ 9) ∧ ((-2147483648) ≤ x6 ∧ x6 ≤ 2147483647) ∧ ((-2147483648) ≤ x7 ∧ x7 ≤ 2147483647) ∧ ((-2147483648) ≤ x8 ∧ x8 ≤ 2147483647) ∧ True) → (x1 ≠ 5 ∧ x1 ≠ 4 ∧ x1 ≠ 3 ∧ x1 ≠ 2 ∧ x1 ≠ 1 ∧ x1 ≠ 0 ∧ True) → (True) → ((τ.1 14 (x0).toNat).toInt = x2 ∧ (τ.1 15 (x0).toNat).toInt = x3 ∧ (τ.1 16 (x0).toNat).toInt = x4 ∧ (τ.1 17 (x0).toNat).toInt = x5 ∧ (τ.1 18 (x0).toNat).toInt = x6 ∧ (τ.1 19 (x0).toNat).toInt = x7 ∧ (τ.1 20 (x0).toNat).toInt = x8 ∧ True) → Q (some (.int (Int32.ofInt (x8)))) τ)
    (l3 : ∀ (τ : pm_S) (y : Nat → Int), an_GB pm_B τ → FQ [] σ τ → ((0 ≤ x0 ∧ x0 ≤ 29) ∧ (5 ≤ x1 ∧ x1 ≤ 5) ∧ (0 ≤ x2 ∧ x2 ≤ 9) ∧ (0 ≤ x3 ∧ x3 ≤ 9) ∧ ((-2147483648) ≤ x4 ∧ x4 ≤ 2147483647) ∧ (0 ≤ x5 ∧ x5 ≤ 9) ∧ ((-2147483648) ≤ x6 ∧ x6 ≤ 2147483647) ∧ ((-2147483648) ≤ x7 ∧ x7 ≤ 2147483647) ∧ ((-2147483648) ≤ x8 ∧ x8 ≤ 2147483647) ∧ True) → (x1 ≠ 4 ∧ x1 ≠ 3 ∧ x1 ≠ 2 ∧ x1 ≠ 1 ∧ x1 ≠ 0 ∧ True) → (True) → ((τ.1 14 (x0).toNat).toInt = x2 ∧ (τ.1 15 (x0).toNat).toInt = x3 ∧ (τ.1 16 (x0).toNat).toInt = x4 ∧ (τ.1 17 (x0).toNat).toInt = x5 ∧ (τ.1 18 (x0).toNat).toInt = x6 ∧ (τ.1 19 (x0).toNat).toInt = x7 ∧ (τ.1 20 (x0).toNat).toInt = x8 ∧ True) → Q (some (.int (Int32.ofInt (x7)))) τ)
    (l4 : ∀ (τ : pm_S) (y : Nat → Int), an_GB pm_B τ → FQ [] σ τ → ((0 ≤ x0 ∧ x0 ≤ 29) ∧ (4 ≤ x1 ∧ x1 ≤ 4) ∧ (0 ≤ x2 ∧ x2 ≤ 9) ∧ (0 ≤ x3 ∧ x3 ≤ 9) ∧ ((-2147483648) ≤ x4 ∧ x4 ≤ 2147483647) ∧ (0 ≤ x5 ∧ x5 ≤ 9) ∧ ((-2147483648) ≤ x6 ∧ x6 ≤ 2147483647) ∧ ((-2147483648) ≤ x7 ∧ x7 ≤ 2147483647) ∧ ((-2147483648) ≤ x8 ∧ x8 ≤ 2147483647) ∧ True) → (x1 ≠ 3 ∧ x1 ≠ 2 ∧ x1 ≠ 1 ∧ x1 ≠ 0 ∧ True) → (True) → ((τ.1 14 (x0).toNat).toInt = x2 ∧ (τ.1 15 (x0).toNat).toInt = x3 ∧ (τ.1 16 (x0).toNat).toInt = x4 ∧ (τ.1 17 (x0).toNat).toInt = x5 ∧ (τ.1 18 (x0).toNat).toInt = x6 ∧ (τ.1 19 (x0).toNat).toInt = x7 ∧ (τ.1 20 (x0).toNat).toInt = x8 ∧ True) → Q (some (.int (Int32.ofInt (x6)))) τ)
    (l5 : ∀ (τ : pm_S) (y : Nat → Int), an_GB pm_B τ → FQ [] σ τ → ((0 ≤ x0 ∧ x0 ≤ 29) ∧ (3 ≤ x1 ∧ x1 ≤ 3) ∧ (0 ≤ x2 ∧ x2 ≤ 9) ∧ (0 ≤ x3 ∧ x3 ≤ 9) ∧ ((-2147483648) ≤ x4 ∧ x4 ≤ 2147483647) ∧ (0 ≤ x5 ∧ x5 ≤ 9) ∧ ((-2147483648) ≤ x6 ∧ x6 ≤ 2147483647) ∧ ((-2147483648) ≤ x7 ∧ x7 ≤ 2147483647) ∧ ((-2147483648) ≤ x8 ∧ x8 ≤ 2147483647) ∧ True) → (x1 ≠ 2 ∧ x1 ≠ 1 ∧ x1 ≠ 0 ∧ True) → (True) → ((τ.1 14 (x0).toNat).toInt = x2 ∧ (τ.1 15 (x0).toNat).toInt = x3 ∧ (τ.1 16 (x0).toNat).toInt = x4 ∧ (τ.1 17 (x0).toNat).toInt = x5 ∧ (τ.1 18 (x0).toNat).toInt = x6 ∧ (τ.1 19 (x0).toNat).toInt = x7 ∧ (τ.1 20 (x0).toNat).toInt = x8 ∧ True) → Q (some (.int (Int32.ofInt (x5)))) τ)
    (l6 : ∀ (τ : pm_S) (y : Nat → Int), an_GB pm_B τ → FQ [] σ τ → ((0 ≤ x0 ∧ x0 ≤ 29) ∧ (2 ≤ x1 ∧ x1 ≤ 2) ∧ (0 ≤ x2 ∧ x2 ≤ 9) ∧ (0 ≤ x3 ∧ x3 ≤ 9) ∧ ((-2147483648) ≤ x4 ∧ x4 ≤ 2147483647) ∧ (0 ≤ x5 ∧ x5 ≤ 9) ∧ ((-2147483648) ≤ x6 ∧ x6 ≤ 2147483647) ∧ ((-2147483648) ≤ x7 ∧ x7 ≤ 2147483647) ∧ ((-2147483648) ≤ x8 ∧ x8 ≤ 2147483647) ∧ True) → (x1 ≠ 1 ∧ x1 ≠ 0 ∧ True) → (True) → ((τ.1 14 (x0).toNat).toInt = x2 ∧ (τ.1 15 (x0).toNat).toInt = x3 ∧ (τ.1 16 (x0).toNat).toInt = x4 ∧ (τ.1 17 (x0).toNat).toInt = x5 ∧ (τ.1 18 (x0).toNat).toInt = x6 ∧ (τ.1 19 (x0).toNat).toInt = x7 ∧ (τ.1 20 (x0).toNat).toInt = x8 ∧ True) → Q (some (.int (Int32.ofInt (x4)))) τ)
    (l7 : ∀ (τ : pm_S) (y : Nat → Int), an_GB pm_B τ → FQ [] σ τ → ((0 ≤ x0 ∧ x0 ≤ 29) ∧ (1 ≤ x1 ∧ x1 ≤ 1) ∧ (0 ≤ x2 ∧ x2 ≤ 9) ∧ (0 ≤ x3 ∧ x3 ≤ 9) ∧ ((-2147483648) ≤ x4 ∧ x4 ≤ 2147483647) ∧ (0 ≤ x5 ∧ x5 ≤ 9) ∧ ((-2147483648) ≤ x6 ∧ x6 ≤ 2147483647) ∧ ((-2147483648) ≤ x7 ∧ x7 ≤ 2147483647) ∧ ((-2147483648) ≤ x8 ∧ x8 ≤ 2147483647) ∧ True) → (x1 ≠ 0 ∧ True) → (True) → ((τ.1 14 (x0).toNat).toInt = x2 ∧ (τ.1 15 (x0).toNat).toInt = x3 ∧ (τ.1 16 (x0).toNat).toInt = x4 ∧ (τ.1 17 (x0).toNat).toInt = x5 ∧ (τ.1 18 (x0).toNat).toInt = x6 ∧ (τ.1 19 (x0).toNat).toInt = x7 ∧ (τ.1 20 (x0).toNat).toInt = x8 ∧ True) → Q (some (.int (Int32.ofInt (x3)))) τ)
    (l8 : ∀ (τ : pm_S) (y : Nat → Int), an_GB pm_B τ → FQ [] σ τ → ((0 ≤ x0 ∧ x0 ≤ 29) ∧ (0 ≤ x1 ∧ x1 ≤ 0) ∧ (0 ≤ x2 ∧ x2 ≤ 9) ∧ (0 ≤ x3 ∧ x3 ≤ 9) ∧ ((-2147483648) ≤ x4 ∧ x4 ≤ 2147483647) ∧ (0 ≤ x5 ∧ x5 ≤ 9) ∧ ((-2147483648) ≤ x6 ∧ x6 ≤ 2147483647) ∧ ((-2147483648) ≤ x7 ∧ x7 ≤ 2147483647) ∧ ((-2147483648) ≤ x8 ∧ x8 ≤ 2147483647) ∧ True) → (True) → (True) → ((τ.1 14 (x0).toNat).toInt = x2 ∧ (τ.1 15 (x0).toNat).toInt = x3 ∧ (τ.1 16 (x0).toNat).toInt = x4 ∧ (τ.1 17 (x0).toNat).toInt = x5 ∧ (τ.1 18 (x0).toNat).toInt = x6 ∧ (τ.1 19 (x0).toNat).toInt = x7 ∧ (τ.1 20 (x0).toNat).toInt = x8 ∧ True) → Q (some (.int (Int32.ofInt (x2)))) τ)
    : Ok 142 22 5 [.ref 0, .int (Int32.ofInt (x0)), .int (Int32.ofInt (x1))] [.int (Int32.ofInt 1)] σ Q := by
  refine an_seg (B := pm_B) (F := []) (T := [14, 15, 16, 17, 18, 19, 20]) (S := []) (fun _ h => absurd h List.not_mem_nil) (k := 142) (d := 21) (cs := [63]) 12 5 9 [(0, 0, 29), (1, (-2147483648), 2147483647), (2, 0, 9), (3, 0, 9), (4, (-2147483648), 2147483647), (5, 0, 9), (6, (-2147483648), 2147483647), (7, (-2147483648), 2147483647), (8, (-2147483648), 2147483647)] [(14, (0, 0, 0), (0, 2, 0)), (15, (0, 0, 0), (0, 3, 0)), (16, (0, 0, 0), (0, 4, 0)), (17, (0, 0, 0), (0, 5, 0)), (18, (0, 0, 0), (0, 6, 0)), (19, (0, 0, 0), (0, 7, 0)), (20, (0, 0, 0), (0, 8, 0))] [(2, 0, 0), (0, 0, 0), (0, 1, 0)] [(1, 0, 1)] [(9999, [], [(1, 0, (-2))], [(0, 0, 29), (1, (-2147483648), 2147483647), (2, 0, 9), (3, 0, 9), (4, (-2147483648), 2147483647), (5, 0, 9), (6, (-2147483648), 2147483647), (7, (-2147483648), 2147483647), (8, (-2147483648), 2147483647)], [(3, 1, 1, 7), (3, 1, 1, 6), (3, 1, 1, 5), (3, 1, 1, 4), (3, 1, 1, 3), (3, 1, 1, 2), (3, 1, 1, 1), (3, 1, 1, 0)], [], [(14, (0, 0, 0), (0, 2, 0)), (15, (0, 0, 0), (0, 3, 0)), (16, (0, 0, 0), (0, 4, 0)), (17, (0, 0, 0), (0, 5, 0)), (18, (0, 0, 0), (0, 6, 0)), (19, (0, 0, 0), (0, 7, 0)), (20, (0, 0, 0), (0, 8, 0))]),
    (63, [(2, 0, 0), (0, 0, 0), (0, 1, 0)], [(0, 0, 0), (2, 13, 0)], [(0, 0, 29), (1, 7, 7), (2, 0, 9), (3, 0, 9), (4, (-2147483648), 2147483647), (5, 0, 9), (6, (-2147483648), 2147483647), (7, (-2147483648), 2147483647), (8, (-2147483648), 2147483647)], [(3, 1, 1, 6), (3, 1, 1, 5), (3, 1, 1, 4), (3, 1, 1, 3), (3, 1, 1, 2), (3, 1, 1, 1), (3, 1, 1, 0)], [], [(14, (0, 0, 0), (0, 2, 0)), (15, (0, 0, 0), (0, 3, 0)), (16, (0, 0, 0), (0, 4, 0)), (17, (0, 0, 0), (0, 5, 0)), (18, (0, 0, 0), (0, 6, 0)), (19, (0, 0, 0), (0, 7, 0)), (20, (0, 0, 0), (0, 8, 0))]),
    (9999, [], [(0, 8, 0)], [(0, 0, 29), (1, 6, 6), (2, 0, 9), (3, 0, 9), (4, (-2147483648), 2147483647), (5, 0, 9), (6, (-2147483648), 2147483647), (7, (-2147483648), 2147483647), (8, (-2147483648), 2147483647)], [(3, 1, 1, 5), (3, 1, 1, 4), (3, 1, 1, 3), (3, 1, 1, 2), (3, 1, 1, 1), (3, 1, 1, 0)], [], [(14, (0, 0, 0), (0, 2, 0)), (15, (0, 0, 0), (0, 3, 0)), (16, (0, 0, 0), (0, 4, 0)), (17, (0, 0, 0), (0, 5, 0)), (18, (0, 0, 0), (0, 6, 0)), (19, (0, 0, 0), (0, 7, 0)), (20, (0, 0, 0), (0, 8, 0))]),
    (9999, [], [(0, 7, 0)], [(0, 0, 29), (1, 5, 5), (2, 0, 9), (3, 0, 9), (4, (-2147483648), 2147483647), (5, 0, 9), (6, (-2147483648), 2147483647), (7, (-2147483648), 2147483647), (8, (-2147483648), 2147483647)], [(3, 1, 1, 4), (3, 1, 1, 3), (3, 1, 1, 2), (3, 1, 1, 1), (3, 1, 1, 0)], [], [(14, (0, 0, 0), (0, 2, 0)), (15, (0, 0, 0), (0, 3, 0)), (16, (0, 0, 0), (0, 4, 0)), (17, (0, 0, 0), (0, 5, 0)), (18, (0, 0, 0), (0, 6, 0)), (19, (0, 0, 0), (0, 7, 0)), (20, (0, 0, 0), (0, 8, 0))]),
    (9999, [], [(0, 6, 0)], [(0, 0, 29), (1, 4, 4), (2, 0, 9), (3, 0, 9), (4, (-2147483648), 2147483647), (5, 0, 9), (6, (-2147483648), 2147483647), (7, (-2147483648), 2147483647), (8, (-2147483648), 2147483647)], [(3, 1, 1, 3), (3, 1, 1, 2), (3, 1, 1, 1), (3, 1, 1, 0)], [], [(14, (0, 0, 0), (0, 2, 0)), (15, (0, 0, 0), (0, 3, 0)), (16, (0, 0, 0), (0, 4, 0)), (17, (0, 0, 0), (0, 5, 0)), (18, (0, 0, 0), (0, 6, 0)), (19, (0, 0, 0), (0, 7, 0)), (20, (0, 0, 0), (0, 8, 0))]),
    (9999, [], [(0, 5, 0)], [(0, 0, 29), (1, 3, 3), (2, 0, 9), (3, 0, 9), (4, (-2147483648), 2147483647), (5, 0, 9), (6, (-2147483648), 2147483647), (7, (-2147483648), 2147483647), (8, (-2147483648), 2147483647)], [(3, 1, 1, 2), (3, 1, 1, 1), (3, 1, 1, 0)], [], [(14, (0, 0, 0), (0, 2, 0)), (15, (0, 0, 0), (0, 3, 0)), (16, (0, 0, 0), (0, 4, 0)), (17, (0, 0, 0), (0, 5, 0)), (18, (0, 0, 0), (0, 6, 0)), (19, (0, 0, 0), (0, 7, 0)), (20, (0, 0, 0), (0, 8, 0))]),
    (9999, [], [(0, 4, 0)], [(0, 0, 29), (1, 2, 2), (2, 0, 9), (3, 0, 9), (4, (-2147483648), 2147483647), (5, 0, 9), (6, (-2147483648), 2147483647), (7, (-2147483648), 2147483647), (8, (-2147483648), 2147483647)], [(3, 1, 1, 1), (3, 1, 1, 0)], [], [(14, (0, 0, 0), (0, 2, 0)), (15, (0, 0, 0), (0, 3, 0)), (16, (0, 0, 0), (0, 4, 0)), (17, (0, 0, 0), (0, 5, 0)), (18, (0, 0, 0), (0, 6, 0)), (19, (0, 0, 0), (0, 7, 0)), (20, (0, 0, 0), (0, 8, 0))]),
    (9999, [], [(0, 3, 0)], [(0, 0, 29), (1, 1, 1), (2, 0, 9), (3, 0, 9), (4, (-2147483648), 2147483647), (5, 0, 9), (6, (-2147483648), 2147483647), (7, (-2147483648), 2147483647), (8, (-2147483648), 2147483647)], [(3, 1, 1, 0)], [], [(14, (0, 0, 0), (0, 2, 0)), (15, (0, 0, 0), (0, 3, 0)), (16, (0, 0, 0), (0, 4, 0)), (17, (0, 0, 0), (0, 5, 0)), (18, (0, 0, 0), (0, 6, 0)), (19, (0, 0, 0), (0, 7, 0)), (20, (0, 0, 0), (0, 8, 0))]),
    (9999, [], [(0, 2, 0)], [(0, 0, 29), (1, 0, 0), (2, 0, 9), (3, 0, 9), (4, (-2147483648), 2147483647), (5, 0, 9), (6, (-2147483648), 2147483647), (7, (-2147483648), 2147483647), (8, (-2147483648), 2147483647)], [], [], [(14, (0, 0, 0), (0, 2, 0)), (15, (0, 0, 0), (0, 3, 0)), (16, (0, 0, 0), (0, 4, 0)), (17, (0, 0, 0), (0, 5, 0)), (18, (0, 0, 0), (0, 6, 0)), (19, (0, 0, 0), (0, 7, 0)), (20, (0, 0, 0), (0, 8, 0))])] (by decide +kernel) (ρ0 := (fun s => [x0, x1, x2, x3, x4, x5, x6, x7, x8].getD s 0)) hB eF eC ⟨rfl, ⟨rfl, ⟨rfl, trivial⟩⟩⟩ ⟨rfl, trivial⟩ ?_
  refine List.forall_mem_cons.mpr ⟨?_, List.forall_mem_cons.mpr ⟨?_, List.forall_mem_cons.mpr ⟨?_, List.forall_mem_cons.mpr ⟨?_, List.forall_mem_cons.mpr ⟨?_, List.forall_mem_cons.mpr ⟨?_, List.forall_mem_cons.mpr ⟨?_, List.forall_mem_cons.mpr ⟨?_, List.forall_mem_cons.mpr ⟨?_, fun _ h => absurd h List.not_mem_nil⟩⟩⟩⟩⟩⟩⟩⟩⟩
  · intro ρ τ Lc stc hx g1 g2 g3 g4 g5 g6 g7 g8
    have e0 : ρ 0 = x0 := hx 0 (by decide)
    have e1 : ρ 1 = x1 := hx 1 (by decide)
    have e2 : ρ 2 = x2 := hx 2 (by decide)
    have e3 : ρ 3 = x3 := hx 3 (by decide)
    have e4 : ρ 4 = x4 := hx 4 (by decide)
    have e5 : ρ 5 = x5 := hx 5 (by decide)
    have e6 : ρ 6 = x6 := hx 6 (by decide)
    have e7 : ρ 7 = x7 := hx 7 (by decide)
    have e8 : ρ 8 = x8 := hx 8 (by decide)
    subst e0
    subst e1
    subst e2
    subst e3
    subst e4
    subst e5
    subst e6
    subst e7
    subst e8
    match stc, g8 with
    | [_], ⟨h, _⟩ => cases h; exact l0 τ ρ g1 g2 g3 g4 g5 g6
  · intro ρ τ Lc stc hx g1 g2 g3 g4 g5 g6 g7 g8
    have e0 : ρ 0 = x0 := hx 0 (by decide)
    have e1 : ρ 1 = x1 := hx 1 (by decide)
    have e2 : ρ 2 = x2 := hx 2 (by decide)
    have e3 : ρ 3 = x3 := hx 3 (by decide)
    have e4 : ρ 4 = x4 := hx 4 (by decide)
    have e5 : ρ 5 = x5 := hx 5 (by decide)
    have e6 : ρ 6 = x6 := hx 6 (by decide)
    have e7 : ρ 7 = x7 := hx 7 (by decide)
    have e8 : ρ 8 = x8 := hx 8 (by decide)
    subst e0
    subst e1
    subst e2
    subst e3
    subst e4
    subst e5
    subst e6
    subst e7
    subst e8
    have g7 := g7 (by decide)
    match Lc, stc, g7, g8 with
    | [v0, v1, v2], [w0, w1], ⟨hv0, hv1, hv2, _⟩, ⟨hw0, hw1, _⟩ =>
      cases hv0
      cases hv1
      cases hv2
      cases hw0
      cases hw1
      exact l1 τ ρ  g1 g2 g3 g4 g5 g6
  · intro ρ τ Lc stc hx g1 g2 g3 g4 g5 g6 g7 g8
    have e0 : ρ 0 = x0 := hx 0 (by decide)
    have e1 : ρ 1 = x1 := hx 1 (by decide)
    have e2 : ρ 2 = x2 := hx 2 (by decide)
    have e3 : ρ 3 = x3 := hx 3 (by decide)
    have e4 : ρ 4 = x4 := hx 4 (by decide)
    have e5 : ρ 5 = x5 := hx 5 (by decide)
    have e6 : ρ 6 = x6 := hx 6 (by decide)
    have e7 : ρ 7 = x7 := hx 7 (by decide)
    have e8 : ρ 8 = x8 := hx 8 (by decide)
    subst e0
    subst e1
    subst e2
    subst e3
    subst e4
    subst e5
    subst e6
    subst e7
    subst e8
    match stc, g8 with
    | [_], ⟨h, _⟩ => cases h; exact l2 τ ρ g1 g2 g3 g4 g5 g6
  · intro ρ τ Lc stc hx g1 g2 g3 g4 g5 g6 g7 g8
    have e0 : ρ 0 = x0 := hx 0 (by decide)
    have e1 : ρ 1 = x1 := hx 1 (by decide)
    have e2 : ρ 2 = x2 := hx 2 (by decide)
    have e3 : ρ 3 = x3 := hx 3 (by decide)
    have e4 : ρ 4 = x4 := hx 4 (by decide)
    have e5 : ρ 5 = x5 := hx 5 (by decide)
    have e6 : ρ 6 = x6 := hx 6 (by decide)
    have e7 : ρ 7 = x7 := hx 7 (by decide)
    have e8 : ρ 8 = x8 := hx 8 (by decide)
    subst e0
    subst e1
    subst e2
    subst e3
    subst e4
    subst e5
    subst e6
    subst e7
    subst e8
    match stc, g8 with
    | [_], ⟨h, _⟩ => cases h; exact l3 τ ρ g1 g2 g3 g4 g5 g6
  · intro ρ τ Lc stc hx g1 g2 g3 g4 g5 g6 g7 g8
    have e0 : ρ 0 = x0 := hx 0 (by decide)
    have e1 : ρ 1 = x1 := hx 1 (by decide)
    have e2 : ρ 2 = x2 := hx 2 (by decide)
    have e3 : ρ 3 = x3 := hx 3 (by decide)
    have e4 : ρ 4 = x4 := hx 4 (by decide)
    have e5 : ρ 5 = x5 := hx 5 (by decide)
    have e6 : ρ 6 = x6 := hx 6 (by decide)
    have e7 : ρ 7 = x7 := hx 7 (by decide)
    have e8 : ρ 8 = x8 := hx 8 (by decide)
    subst e0
    subst e1
    subst e2
    subst e3
    subst e4
    subst e5
    subst e6
    subst e7
    subst e8
    match stc, g8 with
    | [_], ⟨h, _⟩ => cases h; exact l4 τ ρ g1 g2 g3 g4 g5 g6
  · intro ρ τ Lc stc hx g1 g2 g3 g4 g5 g6 g7 g8
    have e0 : ρ 0 = x0 := hx 0 (by decide)
    have e1 : ρ 1 = x1 := hx 1 (by decide)
    have e2 : ρ 2 = x2 := hx 2 (by decide)
    have e3 : ρ 3 = x3 := hx 3 (by decide)
    have e4 : ρ 4 = x4 := hx 4 (by decide)
    have e5 : ρ 5 = x5 := hx 5 (by decide)
    have e6 : ρ 6 = x6 := hx 6 (by decide)
    have e7 : ρ 7 = x7 := hx 7 (by decide)
    have e8 : ρ 8 = x8 := hx 8 (by decide)
    subst e0
    subst e1
    subst e2
    subst e3
    subst e4
    subst e5
    subst e6
    subst e7
    subst e8
    match stc, g8 with
    | [_], ⟨h, _⟩ => cases h; exact l5 τ ρ g1 g2 g3 g4 g5 g6
  · intro ρ τ Lc stc hx g1 g2 g3 g4 g5 g6 g7 g8
    have e0 : ρ 0 = x0 := hx 0 (by decide)
    have e1 : ρ 1 = x1 := hx 1 (by decide)
    have e2 : ρ 2 = x2 := hx 2 (by decide)
    have e3 : ρ 3 = x3 := hx 3 (by decide)
    have e4 : ρ 4 = x4 := hx 4 (by decide)
    have e5 : ρ 5 = x5 := hx 5 (by decide)
    have e6 : ρ 6 = x6 := hx 6 (by decide)
    have e7 : ρ 7 = x7 := hx 7 (by decide)
    have e8 : ρ 8 = x8 := hx 8 (by decide)
    subst e0
    subst e1
    subst e2
    subst e3
    subst e4
    subst e5
    subst e6
    subst e7
    subst e8
    match stc, g8 with
    | [_], ⟨h, _⟩ => cases h; exact l6 τ ρ g1 g2 g3 g4 g5 g6
  · intro ρ τ Lc stc hx g1 g2 g3 g4 g5 g6 g7 g8
    have e0 : ρ 0 = x0 := hx 0 (by decide)
    have e1 : ρ 1 = x1 := hx 1 (by decide)
    have e2 : ρ 2 = x2 := hx 2 (by decide)
    have e3 : ρ 3 = x3 := hx 3 (by decide)
    have e4 : ρ 4 = x4 := hx 4 (by decide)
    have e5 : ρ 5 = x5 := hx 5 (by decide)
    have e6 : ρ 6 = x6 := hx 6 (by decide)
    have e7 : ρ 7 = x7 := hx 7 (by decide)
    have e8 : ρ 8 = x8 := hx 8 (by decide)
    subst e0
    subst e1
    subst e2
    subst e3
    subst e4
    subst e5
    subst e6
    subst e7
    subst e8
    match stc, g8 with
    | [_], ⟨h, _⟩ => cases h; exact l7 τ ρ g1 g2 g3 g4 g5 g6
  · intro ρ τ Lc stc hx g1 g2 g3 g4 g5 g6 g7 g8
    have e0 : ρ 0 = x0 := hx 0 (by decide)
    have e1 : ρ 1 = x1 := hx 1 (by decide)
    have e2 : ρ 2 = x2 := hx 2 (by decide)
    have e3 : ρ 3 = x3 := hx 3 (by decide)
    have e4 : ρ 4 = x4 := hx 4 (by decide)
    have e5 : ρ 5 = x5 := hx 5 (by decide)
    have e6 : ρ 6 = x6 := hx 6 (by decide)
    have e7 : ρ 7 = x7 := hx 7 (by decide)
    have e8 : ρ 8 = x8 := hx 8 (by decide)
    subst e0
    subst e1
    subst e2
    subst e3
    subst e4
    subst e5
    subst e6
    subst e7
    subst e8
    match stc, g8 with
    | [_], ⟨h, _⟩ => cases h; exact l8 τ ρ g1 g2 g3 g4 g5 g6
set_option maxRecDepth 100000 in
theorem zc_w64n {σ : pm_S} {Q : Option Value → pm_S → Prop} (x0 x1 : Int)  (hB : an_GB pm_B σ) (eF : (0 ≤ x0 ∧ x0 ≤ 29) ∧ ((-2147483648) ≤ x1 ∧ x1 ≤ 2147483647) ∧ True)
    (l0 : ∀ (τ : pm_S) (y : Nat → Int), an_GB pm_B τ → FQ [] σ τ → ((0 ≤ x0 ∧ x0 ≤ 29) ∧ ((-2147483648) ≤ x1 ∧ x1 ≤ 2147483647) ∧ True) → (True) → (True) → (True) → Q (some (.int (Int32.ofInt 0))) τ)
    : Ok 142 22 64 [.ref 0, .int (Int32.ofInt (x0)), .int (Int32.ofInt (x1))] [.int (Int32.ofInt 0)] σ Q := by
  refine an_seg (B := pm_B) (F := []) (T := []) (S := []) (fun _ h => absurd h List.not_mem_nil) (k := 142) (d := 21) (cs := []) 5 64 2 [(0, 0, 29), (1, (-2147483648), 2147483647)] [] [(2, 0, 0), (0, 0, 0), (0, 1, 0)] [(1, 0, 0)] [(9999, [], [(1, 0, 0)], [(0, 0, 29), (1, (-2147483648), 2147483647)], [], [], [])] (by decide +kernel) (ρ0 := (fun s => [x0, x1].getD s 0)) hB eF trivial ⟨rfl, ⟨rfl, ⟨rfl, trivial⟩⟩⟩ ⟨rfl, trivial⟩ ?_
  refine List.forall_mem_cons.mpr ⟨?_, fun _ h => absurd h List.not_mem_nil⟩
  · intro ρ τ Lc stc hx g1 g2 g3 g4 g5 g6 g7 g8
    have e0 : ρ 0 = x0 := hx 0 (by decide)
    have e1 : ρ 1 = x1 := hx 1 (by decide)
    subst e0
    subst e1
    match stc, g8 with
    | [_], ⟨h, _⟩ => cases h; exact l0 τ ρ g1 g2 g3 g4 g5 g6
set_option maxRecDepth 100000 in
theorem zc_w64 {σ : pm_S} {Q : Option Value → pm_S → Prop} (x0 x1 : Int)  (hB : an_GB pm_B σ) (eF : (0 ≤ x0 ∧ x0 ≤ 29) ∧ ((-2147483648) ≤ x1 ∧ x1 ≤ 2147483647) ∧ True)
    (l0 : ∀ (τ : pm_S) (y : Nat → Int), an_GB pm_B τ → FQ [] σ τ → ((0 ≤ x0 ∧ x0 ≤ 29) ∧ ((-2147483648) ≤ x1 ∧ x1 ≤ 2147483647) ∧ True) → (True) → (True) → (True) → Ok 142 22 68 [.ref 0, .int (Int32.ofInt (x0)), .int (Int32.ofInt (x1))] [.int (Int32.ofInt (x0)), .ref 74] τ Q)
    : Ok 142 22 64 [.ref 0, .int (Int32.ofInt (x0)), .int (Int32.ofInt (x1))] [.int (Int32.ofInt 1)] σ Q := by
  refine an_seg (B := pm_B) (F := []) (T := []) (S := []) (fun _ h => absurd h List.not_mem_nil) (k := 142) (d := 21) (cs := [68]) 6 64 2 [(0, 0, 29), (1, (-2147483648), 2147483647)] [] [(2, 0, 0), (0, 0, 0), (0, 1, 0)] [(1, 0, 1)] [(68, [(2, 0, 0), (0, 0, 0), (0, 1, 0)], [(0, 0, 0), (2, 74, 0)], [(0, 0, 29), (1, (-2147483648), 2147483647)], [], [], [])] (by decide +kernel) (ρ0 := (fun s => [x0, x1].getD s 0)) hB eF trivial ⟨rfl, ⟨rfl, ⟨rfl, trivial⟩⟩⟩ ⟨rfl, trivial⟩ ?_
  refine List.forall_mem_cons.mpr ⟨?_, fun _ h => absurd h List.not_mem_nil⟩
  · intro ρ τ Lc stc hx g1 g2 g3 g4 g5 g6 g7 g8
    have e0 : ρ 0 = x0 := hx 0 (by decide)
    have e1 : ρ 1 = x1 := hx 1 (by decide)
    subst e0
    subst e1
    have g7 := g7 (by decide)
    match Lc, stc, g7, g8 with
    | [v0, v1, v2], [w0, w1], ⟨hv0, hv1, hv2, _⟩, ⟨hw0, hw1, _⟩ =>
      cases hv0
      cases hv1
      cases hv2
      cases hw0
      cases hw1
      exact l0 τ ρ  g1 g2 g3 g4 g5 g6
set_option maxRecDepth 100000 in
theorem zc_w69n {σ : pm_S} {Q : Option Value → pm_S → Prop} (x0 x1 : Int)  (hB : an_GB pm_B σ) (eF : (0 ≤ x0 ∧ x0 ≤ 29) ∧ ((-2147483648) ≤ x1 ∧ x1 ≤ 2147483647) ∧ True)
    (l0 : ∀ (τ : pm_S) (y : Nat → Int), an_GB pm_B τ → FQ [] σ τ → ((0 ≤ x0 ∧ x0 ≤ 29) ∧ ((-2147483648) ≤ x1 ∧ x1 ≤ 2147483647) ∧ True) → (True) → (True) → (True) → Q (some (.int (Int32.ofInt 0))) τ)
    : Ok 142 22 69 [.ref 0, .int (Int32.ofInt (x0)), .int (Int32.ofInt (x1))] [.int (Int32.ofInt 0)] σ Q := by
  refine an_seg (B := pm_B) (F := []) (T := []) (S := []) (fun _ h => absurd h List.not_mem_nil) (k := 142) (d := 21) (cs := []) 5 69 2 [(0, 0, 29), (1, (-2147483648), 2147483647)] [] [(2, 0, 0), (0, 0, 0), (0, 1, 0)] [(1, 0, 0)] [(9999, [], [(1, 0, 0)], [(0, 0, 29), (1, (-2147483648), 2147483647)], [], [], [])] (by decide +kernel) (ρ0 := (fun s => [x0, x1].getD s 0)) hB eF trivial ⟨rfl, ⟨rfl, ⟨rfl, trivial⟩⟩⟩ ⟨rfl, trivial⟩ ?_
  refine List.forall_mem_cons.mpr ⟨?_, fun _ h => absurd h List.not_mem_nil⟩
  · intro ρ τ Lc stc hx g1 g2 g3 g4 g5 g6 g7 g8
    have e0 : ρ 0 = x0 := hx 0 (by decide)
    have e1 : ρ 1 = x1 := hx 1 (by decide)
    subst e0
    subst e1
    match stc, g8 with
    | [_], ⟨h, _⟩ => cases h; exact l0 τ ρ g1 g2 g3 g4 g5 g6
set_option maxRecDepth 100000 in
theorem zc_w69 {σ : pm_S} {Q : Option Value → pm_S → Prop} (x0 x1 : Int)  (hB : an_GB pm_B σ) (eF : (0 ≤ x0 ∧ x0 ≤ 29) ∧ ((-2147483648) ≤ x1 ∧ x1 ≤ 2147483647) ∧ True)
    (l0 : ∀ (τ : pm_S) (y : Nat → Int), an_GB pm_B τ → FQ [] σ τ → ((0 ≤ x0 ∧ x0 ≤ 29) ∧ ((-2147483648) ≤ x1 ∧ x1 ≤ 2147483647) ∧ True) → (True) → (True) → (True) → Q (some (.int (Int32.ofInt 1))) τ)
    : Ok 142 22 69 [.ref 0, .int (Int32.ofInt (x0)), .int (Int32.ofInt (x1))] [.int (Int32.ofInt 1)] σ Q := by
  refine an_seg (B := pm_B) (F := []) (T := []) (S := []) (fun _ h => absurd h List.not_mem_nil) (k := 142) (d := 21) (cs := []) 6 69 2 [(0, 0, 29), (1, (-2147483648), 2147483647)] [] [(2, 0, 0), (0, 0, 0), (0, 1, 0)] [(1, 0, 1)] [(9999, [], [(1, 0, 1)], [(0, 0, 29), (1, (-2147483648), 2147483647)], [], [], [])] (by decide +kernel) (ρ0 := (fun s => [x0, x1].getD s 0)) hB eF trivial ⟨rfl, ⟨rfl, ⟨rfl, trivial⟩⟩⟩ ⟨rfl, trivial⟩ ?_
  refine List.forall_mem_cons.mpr ⟨?_, fun _ h => absurd h List.not_mem_nil⟩
  · intro ρ τ Lc stc hx g1 g2 g3 g4 g5 g6 g7 g8
    have e0 : ρ 0 = x0 := hx 0 (by decide)
    have e1 : ρ 1 = x1 := hx 1 (by decide)
    subst e0
    subst e1
    match stc, g8 with
    | [_], ⟨h, _⟩ => cases h; exact l0 τ ρ g1 g2 g3 g4 g5 g6
set_option maxRecDepth 100000 in
theorem zm_w0 {σ : pm_S} {Q : Option Value → pm_S → Prop} (x0 x1 x2 : Int)  (hB : an_GB pm_B σ) (eF : ((-2147483648) ≤ x0 ∧ x0 ≤ 2147483647) ∧ ((-2147483648) ≤ x1 ∧ x1 ≤ 2147483647) ∧ (0 ≤ x2 ∧ x2 ≤ 30) ∧ True) (eC : (σ.1 93 11).toInt = x2 ∧ True)
    (l0 : ∀ (τ : pm_S) (y : Nat → Int), an_GB pm_B τ → FQ [(93, 0)] σ τ → (((-2147483648) ≤ x0 ∧ x0 ≤ 2147483647) ∧ ((-2147483648) ≤ x1 ∧ x1 ≤ 2147483647) ∧ (0 ≤ x2 ∧ x2 ≤ 30) ∧ True) → (True) → (True) → ((τ.1 93 0).toInt = 0 ∧ (τ.1 93 11).toInt = x2 ∧ True) → Ok 215 22 10 [.ref 93, .int (Int32.ofInt (x0)), .int (Int32.ofInt (x1))] [.int (Int32.ofInt (x2 + (-1))), .int (Int32.ofInt 0), .int (Int32.ofInt (x0)), .ref 93] τ Q)
    : Ok 215 22 0 [.ref 93, .int (Int32.ofInt (x0)), .int (Int32.ofInt (x1))] [] σ Q := by
  refine an_seg (B := pm_B) (F := [(93, 0)]) (T := []) (S := []) (fun _ h => absurd h List.not_mem_nil) (k := 215) (d := 21) (cs := [10]) 12 0 3 [(0, (-2147483648), 2147483647), (1, (-2147483648), 2147483647), (2, 0, 30)] [(93, (1, 0, 11), (0, 2, 0))] [(2, 93, 0), (0, 0, 0), (0, 1, 0)] [] [(10, [(2, 93, 0), (0, 0, 0), (0, 1, 0)], [(0, 2, (-1)), (1, 0, 0), (0, 0, 0), (2, 93, 0)], [(0, (-2147483648), 2147483647), (1, (-2147483648), 2147483647), (2, 0, 30)], [], [], [(93, (1, 0, 0), (1, 0, 0)), (93, (1, 0, 11), (0, 2, 0))])] (by decide +kernel) (ρ0 := (fun s => [x0, x1, x2].getD s 0)) hB eF eC ⟨rfl, ⟨rfl, ⟨rfl, trivial⟩⟩⟩ trivial ?_
  refine List.forall_mem_cons.mpr ⟨?_, fun _ h => absurd h List.not_mem_nil⟩
  · intro ρ τ Lc stc hx g1 g2 g3 g4 g5 g6 g7 g8
    have e0 : ρ 0 = x0 := hx 0 (by decide)
    have e1 : ρ 1 = x1 := hx 1 (by decide)
    have e2 : ρ 2 = x2 := hx 2 (by decide)
    subst e0
    subst e1
    subst e2
    have g7 := g7 (by decide)
    match Lc, stc, g7, g8 with
    | [v0, v1, v2], [w0, w1, w2, w3], ⟨hv0, hv1, hv2, _⟩, ⟨hw0, hw1, hw2, hw3, _⟩ =>
      cases hv0
      cases hv1
      cases hv2
      cases hw0
      cases hw1
      cases hw2
      cases hw3
      exact l0 τ ρ  g1 g2 g3 g4 g5 g6
set_option maxRecDepth 100000 in
theorem zm_w11n {σ : pm_S} {Q : Option Value → pm_S → Prop} (x0 x1 : Int)  (hB : an_GB pm_B σ) (eF : ((-2147483648) ≤ x0 ∧ x0 ≤ 2147483647) ∧ ((-2147483648) ≤ x1 ∧ x1 ≤ 2147483647) ∧ True)
    (l0 : ∀ (τ : pm_S) (y : Nat → Int), an_GB pm_B τ → FQ [] σ τ → (((-2147483648) ≤ x0 ∧ x0 ≤ 2147483647) ∧ ((-2147483648) ≤ x1 ∧ x1 ≤ 2147483647) ∧ True) → (True) → (True) → (True) → Q (some (.int (Int32.ofInt (-2)))) τ)
    : Ok 215 22 11 [.ref 93, .int (Int32.ofInt (x0)), .int (Int32.ofInt (x1))] [.int (Int32.ofInt 0)] σ Q := by
  refine an_seg (B := pm_B) (F := []) (T := []) (S := []) (fun _ h => absurd h List.not_mem_nil) (k := 215) (d := 21) (cs := []) 5 11 2 [(0, (-2147483648), 2147483647), (1, (-2147483648), 2147483647)] [] [(2, 93, 0), (0, 0, 0), (0, 1, 0)] [(1, 0, 0)] [(9999, [], [(1, 0, (-2))], [(0, (-2147483648), 2147483647), (1, (-2147483648), 2147483647)], [], [], [])] (by decide +kernel) (ρ0 := (fun s => [x0, x1].getD s 0)) hB eF trivial ⟨rfl, ⟨rfl, ⟨rfl, trivial⟩⟩⟩ ⟨rfl, trivial⟩ ?_
  refine List.forall_mem_cons.mpr ⟨?_, fun _ h => absurd h List.not_mem_nil⟩
  · intro ρ τ Lc stc hx g1 g2 g3 g4 g5 g6 g7 g8
    have e0 : ρ 0 = x0 := hx 0 (by decide)
    have e1 : ρ 1 = x1 := hx 1 (by decide)
    subst e0
    subst e1
    match stc, g8 with
    | [_], ⟨h, _⟩ => cases h; exact l0 τ ρ g1 g2 g3 g4 g5 g6
set_option maxRecDepth 100000 in
theorem zm_w11 {σ : pm_S} {Q : Option Value → pm_S → Prop} (x0 x1 x2 x3 x4 x5 x6 x7 x8 : Int)  (hB : an_GB pm_B σ) (eF : (0 ≤ x0 ∧ x0 ≤ 29) ∧ ((-2147483648) ≤ x1 ∧ x1 ≤ 2147483647) ∧ (0 ≤ x2 ∧ x2 ≤ 9) ∧ (0 ≤ x3 ∧ x3 ≤ 9) ∧ (0 ≤ x4 ∧ x4 ≤ 99999) ∧ (0 ≤ x5 ∧ x5 ≤ 9) ∧ ((-2147483648) ≤ x6 ∧ x6 ≤ 2147483647) ∧ ((-2147483648) ≤ x7 ∧ x7 ≤ 2147483647) ∧ ((-2147483648) ≤ x8 ∧ x8 ≤ 2147483647) ∧ True) (eC : (σ.1 101 (x0).toNat).toInt = x2 ∧ (σ.1 102 (x0).toNat).toInt = x3 ∧ (σ.1 103 (x0).toNat).toInt = x4 ∧ (σ.1 104 (x0).toNat).toInt = x5 ∧ (σ.1 105 (x0).toNat).toInt = x6 ∧ (σ.1 106 (x0).toNat).toInt = x7 ∧ (σ.1 107 (x0).toNat).toInt = x8 ∧ True)
    (l0 : ∀ (τ : pm_S) (y : Nat → Int), an_GB pm_B τ → FQ [] σ τ → ((0 ≤ x0 ∧ x0 ≤ 29) ∧ ((-2147483648) ≤ x1 ∧ x1 ≤ 2147483647) ∧ (0 ≤ x2 ∧ x2 ≤ 9) ∧ (0 ≤ x3 ∧ x3 ≤ 9) ∧ (0 ≤ x4 ∧ x4 ≤ 99999) ∧ (0 ≤ x5 ∧ x5 ≤ 9) ∧ ((-2147483648) ≤ x6 ∧ x6 ≤ 2147483647) ∧ ((-2147483648) ≤ x7 ∧ x7 ≤ 2147483647) ∧ ((-2147483648) ≤ x8 ∧ x8 ≤ 2147483647) ∧ True) → (x1 ≠ 7 ∧ x1 ≠ 6 ∧ x1 ≠ 5 ∧ x1 ≠ 4 ∧ x1 ≠ 3 ∧ x1 ≠ 2 ∧ x1 ≠ 1 ∧ x1 ≠ 0 ∧ True) → (True) → ((τ.1 101 (x0).toNat).toInt = x2 ∧ (τ.1 102 (x0).toNat).toInt = x3 ∧ (τ.1 103 (x0).toNat).toInt = x4 ∧ (τ.1 104 (x0).toNat).toInt = x5 ∧ (τ.1 105 (x0).toNat).toInt = x6 ∧ (τ.1 106 (x0).toNat).toInt = x7 ∧ (τ.1 107 (x0).toNat).toInt = x8 ∧ True) → Q (some (.int (Int32.ofInt (-2)))) τ)
    (l1 : ∀ (τ : pm_S) (y : Nat → Int), an_GB pm_B τ → FQ [] σ τ → ((0 ≤ x0 ∧ x0 ≤ 29) ∧ (7 ≤ x1 ∧ x1 ≤ 7) ∧ (0 ≤ x2 ∧ x2 ≤ 9) ∧ (0 ≤ x3 ∧ x3 ≤ 9) ∧ (0 ≤ x4 ∧ x4 ≤ 99999) ∧ (0 ≤ x5 ∧ x5 ≤ 9) ∧ ((-2147483648) ≤ x6 ∧ x6 ≤ 2147483647) ∧ ((-2147483648) ≤ x7 ∧ x7 ≤ 2147483647) ∧ ((-2147483648) ≤ x8 ∧ x8 ≤ 2147483647) ∧ True) → (x8 ≠ 0 ∧ x1 ≠ 6 ∧ x1 ≠ 5 ∧ x1 ≠ 4 ∧ x1 ≠ 3 ∧ x1 ≠ 2 ∧ x1 ≠ 1 ∧ x1 ≠ 0 ∧ True) → (True) → ((τ.1 101 (x0).toNat).toInt = x2 ∧ (τ.1 102 (x0).toNat).toInt = x3 ∧ (τ.1 103 (x0).toNat).toInt = x4 ∧ (τ.1 104 (x0).toNat).toInt = x5 ∧ (τ.1 105 (x0).toNat).toInt = x6 ∧ (τ.1 106 (x0).toNat).toInt = x7 ∧ (τ.1 107 (x0).toNat).toInt = x8 ∧ True) → Q (some (.int (Int32.ofInt 0))) τ)
    (l2 : ∀ (τ : pm_S) (y : Nat → Int), an_GB pm_B τ → FQ [] σ τ → ((0 ≤ x0 ∧ x0 ≤ 29) ∧ (7 ≤ x1 ∧ x1 ≤ 7) ∧ (0 ≤ x2 ∧ x2 ≤ 9) ∧ (0 ≤ x3 ∧ x3 ≤ 9) ∧ (0 ≤ x4 ∧ x4 ≤ 99999) ∧ (0 ≤ x5 ∧ x5 ≤ 9) ∧ ((-2147483648) ≤ x6 ∧ x6 ≤ 2147483647) ∧ ((-2147483648) ≤ x7 ∧ x7 ≤ 2147483647) ∧ (0 ≤ x8 ∧ x8 ≤ 0) ∧ True) → (x1 ≠ 6 ∧ x1 ≠ 5 ∧ x1 ≠ 4 ∧ x1 ≠ 3 ∧ x1 ≠ 2 ∧ x1 ≠ 1 ∧ x1 ≠ 0 ∧ True) → (True) → ((τ.1 101 (x0).toNat).toInt = x2 ∧ (τ.1 102 (x0).toNat).toInt = x3 ∧ (τ.1 103 (x0).toNat).toInt = x4 ∧ (τ.1 104 (x0).toNat).toInt = x5 ∧ (τ.1 105 (x0).toNat).toInt = x6 ∧ (τ.1 106 (x0).toNat).toInt = x7 ∧ (τ.1 107 (x0).toNat).toInt = x8 ∧ True) → Ok 215 22 78 [.ref 93, .int (Int32.ofInt (x0)), .int (Int32.ofInt (x1))] [.int (Int32.ofInt (x0)), .ref 93] τ Q)
    (l3 : ∀ (τ : pm_S) (y : Nat → Int), an_GB pm_B τ → FQ [] σ τ → ((0 ≤ x0 ∧ x0 ≤ 29) ∧ (6 ≤ x1 ∧ x1 ≤ 6) ∧ (0 ≤ x2 ∧ x2 ≤ 9) ∧ (0 ≤ x3 ∧ x3 ≤ 9) ∧ (0 ≤ x4 ∧ x4 ≤ 99999) ∧ (0 ≤ x5 ∧ x5 ≤ 9) ∧ ((-2147483648) ≤ x6 ∧ x6 ≤ 2147483647) ∧ ((-2147483648) ≤ x7 ∧ x7 ≤ 2147483647) ∧ ((-2147483648) ≤ x8 ∧ x8 ≤ 2147483647) ∧ True) → (x1 ≠ 5 ∧ x1 ≠ 4 ∧ x1 ≠ 3 ∧ x1 ≠ 2 ∧ x1 ≠ 1 ∧ x1 ≠ 0 ∧ True) → (True) → ((τ.1 101 (x0).toNat).toInt = x2 ∧ (τ.1 102 (x0).toNat).toInt = x3 ∧ (τ.1 103 (x0).toNat).toInt = x4 ∧ (τ.1 104 (x0).toNat).toInt = x5 ∧ (τ.1 105 (x0).toNat).toInt = x6 ∧ (τ.1 106 (x0).toNat).toInt = x7 ∧ (τ.1 107 (x0).toNat).toInt = x8 ∧ True) → Q (some (.int (Int32.ofInt (x8)))) τ)
    (l4 : ∀ (τ : pm_S) (y : Nat → Int), an_GB pm_B τ → FQ [] σ τ → ((0 ≤ x0 ∧ x0 ≤ 29) ∧ (5 ≤ x1 ∧ x1 ≤ 5) ∧ (0 ≤ x2 ∧ x2 ≤ 9) ∧ (0 ≤ x3 ∧ x3 ≤ 9) ∧ (0 ≤ x4 ∧ x4 ≤ 99999) ∧ (0 ≤ x5 ∧ x5 ≤ 9) ∧ ((-2147483648) ≤ x6 ∧ x6 ≤ 2147483647) ∧ ((-2147483648) ≤ x7 ∧ x7 ≤ 2147483647) ∧ ((-2147483648) ≤ x8 ∧ x8 ≤ 2147483647) ∧ True) → (x1 ≠ 4 ∧ x1 ≠ 3 ∧ x1 ≠ 2 ∧ x1 ≠ 1 ∧ x1 ≠ 0 ∧ True) → (True) → ((τ.1 101 (x0).toNat).toInt = x2 ∧ (τ.1 102 (x0).toNat).toInt = x3 ∧ (τ.1 103 (x0).toNat).toInt = x4 ∧ (τ.1 104 (x0).toNat).toInt = x5 ∧ (τ.1 105 (x0).toNat).toInt = x6 ∧ (τ.1 106 (x0).toNat).toInt = x7 ∧ (τ.1 107 (x0).toNat).toInt = x8 ∧ True) → Q (some (.int (Int32.ofInt (x7)))) τ)
    (l5 : ∀ (τ : pm_S) (y : Nat → Int), an_GB pm_B τ → FQ [] σ τ → ((0 ≤ x0 ∧ x0 ≤ 29) ∧ (4 ≤ x1 ∧ x1 ≤ 4) ∧ (0 ≤ x2 ∧ x2 ≤ 9) ∧ (0 ≤ x3 ∧ x3 ≤ 9) ∧ (0 ≤ x4 ∧ x4 ≤ 99999) ∧ (0 ≤ x5 ∧ x5 ≤ 9) ∧ ((-2147483648) ≤ x6 ∧ x6 ≤ 2147483647) ∧ ((-2147483648) ≤ x7 ∧ x7 ≤ 2147483647) ∧ ((-2147483648) ≤ x8 ∧ x8 ≤ 2147483647) ∧ True) → (x1 ≠ 3 ∧ x1 ≠ 2 ∧ x1 ≠ 1 ∧ x1 ≠ 0 ∧ True) → (True) → ((τ.1 101 (x0).toNat).toInt = x2 ∧ (τ.1 102 (x0).toNat).toInt = x3 ∧ (τ.1 103 (x0).toNat).toInt = x4 ∧ (τ.1 104 (x0).toNat).toInt = x5 ∧ (τ.1 105 (x0).toNat).toInt = x6 ∧ (τ.1 106 (x0).toNat).toInt = x7 ∧ (τ.1 107 (x0).toNat).toInt = x8 ∧ True) → Q (some (.int (Int32.ofInt (x6)))) τ)
    (l6 : ∀ (τ : pm_S) (y : Nat → Int), an_GB pm_B τ → FQ [] σ τ → ((0 ≤ x0 ∧ x0 ≤ 29) ∧ (3 ≤ x1 ∧ x1 ≤ 3) ∧ (0 ≤ x2 ∧ x2 ≤ 9) ∧ (0 ≤ x3 ∧ x3 ≤ 9) ∧ (0 ≤ x4 ∧ x4 ≤ 99999) ∧ (0 ≤ x5 ∧ x5 ≤ 9) ∧ ((-2147483648) ≤ x6 ∧ x6 ≤ 2147483647) ∧ ((-2147483648) ≤ x7 ∧ x7 ≤ 2147483647) ∧ ((-2147483648) ≤ x8 ∧ x8 ≤ 2147483647) ∧ True) → (x1 ≠ 2 ∧ x1 ≠ 1 ∧ x1 ≠ 0 ∧ True) → (True) → ((τ.1 101 (x0).toNat).toInt = x2 ∧ (τ.1 102 (x0).toNat).toInt = x3 ∧ (τ.1 103 (x0).toNat).toInt = x4 ∧ (τ.1 104 (x0).toNat).toInt = x5 ∧ (τ.1 105 (x0).toNat).toInt = x6 ∧ (τ.1 106 (x0).toNat).toInt = x7 ∧ (τ.1 107 (x0).toNat).toInt = x8 ∧ True) → Q (some (.int (Int32.ofInt (x5)))) τ)
    (l7 : ∀ (τ : pm_S) (y : Nat → Int), an_GB pm_B τ → FQ [] σ τ → ((0 ≤ x0 ∧ x0 ≤ 29) ∧ (2 ≤ x1 ∧ x1 ≤ 2) ∧ (0 ≤ x2 ∧ x2 ≤ 9) ∧ (0 ≤ x3 ∧ x3 ≤ 9) ∧ (0 ≤ x4 ∧ x4 ≤ 99999) ∧ (0 ≤ x5 ∧ x5 ≤ 9) ∧ ((-2147483648) ≤ x6 ∧ x6 ≤ 2147483647) ∧ ((-2147483648) ≤ x7 ∧ x7 ≤ 2147483647) ∧ ((-2147483648) ≤ x8 ∧ x8 ≤ 2147483647) ∧ True) → (x1 ≠ 1 ∧ x1 ≠ 0 ∧ True) → (True) → ((τ.1 101 (x0).toNat).toInt = x2 ∧ (τ.1 102 (x0).toNat).toInt = x3 ∧ (τ.1 103 (x0).toNat).toInt = x4 ∧ (τ.1 104 (x0).toNat).toInt = x5 ∧ (τ.1 105 (x0).toNat).toInt = x6 ∧ (τ.1 106 (x0).toNat).toInt = x7 ∧ (τ.1 107 (x0).toNat).toInt = x8 ∧ True) → Q (some (.int (Int32.ofInt (x4)))) τ)
    (l8 : ∀ (τ : pm_S) (y : Nat → Int), an_GB pm_B τ → FQ [] σ τ → ((0 ≤ x0 ∧ x0 ≤ 29) ∧ (1 ≤ x1 ∧ x1 ≤ 1) ∧ (0 ≤ x2 ∧ x2 ≤ 9) ∧ (0 ≤ x3 ∧ x3 ≤ 9) ∧ (0 ≤ x4 ∧ x4 ≤ 99999) ∧ (0 ≤ x5 ∧ x5 ≤ 9) ∧ ((-2147483648) ≤ x6 ∧ x6 ≤ 2147483647) ∧ ((-2147483648) ≤ x7 ∧ x7 ≤ 2147483647) ∧ ((-2147483648) ≤ x8 ∧ x8 ≤ 2147483647) ∧ True) → (x1 ≠ 0 ∧ True) → (True) → ((τ.1 101 (x0).toNat).toInt = x2 ∧ (τ.1 102 (x0).toNat).toInt = x3 ∧ (τ.1 103 (x0).toNat).toInt = x4 ∧ (τ.1 104 (x0).toNat).toInt = x5 ∧ (τ.1 105 (x0).toNat).toInt = x6 ∧ (τ.1 106 (x0).toNat).toInt = x7 ∧ (τ.1 107 (x0).toNat).toInt = x8 ∧ True) → Q (some (.int (Int32.ofInt (x3)))) τ)
    (l9 : ∀ (τ : pm_S) (y : Nat → Int), an_GB pm_B τ → FQ [] σ τ → ((0 ≤ x0 ∧ x0 ≤ 29) ∧ (0 ≤ x1 ∧ x1 ≤ 0) ∧ (0 ≤ x2 ∧ x2 ≤ 9) ∧ (0 ≤ x3 ∧ x3 ≤ 9) ∧ (0 ≤ x4 ∧ x4 ≤ 99999) ∧ (0 ≤ x5 ∧ x5 ≤ 9) ∧ ((-2147483648) ≤ x6 ∧ x6 ≤ 2147483647) ∧ ((-2147483648) ≤ x7 ∧ x7 ≤ 2147483647) ∧ ((-2147483648) ≤ x8 ∧ x8 ≤ 2147483647) ∧ True) → (True) → (True) → ((τ.1 101 (x0).toNat).toInt = x2 ∧ (τ.1 102 (x0).toNat).toInt = x3 ∧ (τ.1 103 (x0).toNat).toInt = x4 ∧ (τ.1 104 (x0).toNat).toInt = x5 ∧ (τ.1 105 (x0).toNat).toInt = x6 ∧ (τ.1 106 (x0).toNat).toInt = x7 ∧ (τ.1 107 (x0).toNat).toInt = x8 ∧ True) → Q (some (.int (Int32.ofInt (x2)))) τ)
    : Ok 215 22 11 [.ref 93, .int (Int32.ofInt (x0)), .int (Int32.ofInt (x1))] [.int (Int32.ofInt 1)] σ Q := by
  refine an_seg (B := pm_B) (F := []) (T := [101, 102, 103, 104, 105, 106, 107]) (S := []) (fun _ h => absurd h List.not_mem_nil) (k := 215) (d := 21) (cs := [78]) 40 11 9 [(0, 0, 29), (1, (-2147483648), 2147483647), (2, 0, 9), (3, 0, 9), (4, 0, 99999), (5, 0, 9), (6, (-2147483648), 2147483647), (7, (-2147483648), 2147483647), (8, (-2147483648), 2147483647)] [(101, (0, 0, 0), (0, 2, 0)), (102, (0, 0, 0), (0, 3, 0)), (103, (0, 0, 0), (0, 4, 0)), (104, (0, 0, 0), (0, 5, 0)), (105, (0, 0, 0), (0, 6, 0)), (106, (0, 0, 0), (0, 7, 0)), (107, (0, 0, 0), (0, 8, 0))] [(2, 93, 0), (0, 0, 0), (0, 1, 0)] [(1, 0, 1)] [(9999, [], [(1, 0, (-2))], [(0, 0, 29), (1, (-2147483648), 2147483647), (2, 0, 9), (3, 0, 9), (4, 0, 99999), (5, 0, 9), (6, (-2147483648), 2147483647), (7, (-2147483648), 2147483647), (8, (-2147483648), 2147483647)], [(3, 1, 1, 7), (3, 1, 1, 6), (3, 1, 1, 5), (3, 1, 1, 4), (3, 1, 1, 3), (3, 1, 1, 2), (3, 1, 1, 1), (3, 1, 1, 0)], [], [(101, (0, 0, 0), (0, 2, 0)), (102, (0, 0, 0), (0, 3, 0)), (103, (0, 0, 0), (0, 4, 0)), (104, (0, 0, 0), (0, 5, 0)), (105, (0, 0, 0), (0, 6, 0)), (106, (0, 0, 0), (0, 7, 0)), (107, (0, 0, 0), (0, 8, 0))]),
    (9999, [], [(1, 0, 0)], [(0, 0, 29), (1, 7, 7), (2, 0, 9), (3, 0, 9), (4, 0, 99999), (5, 0, 9), (6, (-2147483648), 2147483647), (7, (-2147483648), 2147483647), (8, (-2147483648), 2147483647)], [(3, 8, 8, 0), (3, 1, 1, 6), (3, 1, 1, 5), (3, 1, 1, 4), (3, 1, 1, 3), (3, 1, 1, 2), (3, 1, 1, 1), (3, 1, 1, 0)], [], [(101, (0, 0, 0), (0, 2, 0)), (102, (0, 0, 0), (0, 3, 0)), (103, (0, 0, 0), (0, 4, 0)), (104, (0, 0, 0), (0, 5, 0)), (105, (0, 0, 0), (0, 6, 0)), (106, (0, 0, 0), (0, 7, 0)), (107, (0, 0, 0), (0, 8, 0))]),
    (78, [(2, 93, 0), (0, 0, 0), (0, 1, 0)], [(0, 0, 0), (2, 93, 0)], [(0, 0, 29), (1, 7, 7), (2, 0, 9), (3, 0, 9), (4, 0, 99999), (5, 0, 9), (6, (-2147483648), 2147483647), (7, (-2147483648), 2147483647), (8, 0, 0)], [(3, 1, 1, 6), (3, 1, 1, 5), (3, 1, 1, 4), (3, 1, 1, 3), (3, 1, 1, 2), (3, 1, 1, 1), (3, 1, 1, 0)], [], [(101, (0, 0, 0), (0, 2, 0)), (102, (0, 0, 0), (0, 3, 0)), (103, (0, 0, 0), (0, 4, 0)), (104, (0, 0, 0), (0, 5, 0)), (105, (0, 0, 0), (0, 6, 0)), (106, (0, 0, 0), (0, 7, 0)), (107, (0, 0, 0), (0, 8, 0))]),
    (9999, [], [(0, 8, 0)], [(0, 0, 29), (1, 6, 6), (2, 0, 9), (3, 0, 9), (4, 0, 99999), (5, 0, 9), (6, (-2147483648), 2147483647), (7, (-2147483648), 2147483647), (8, (-2147483648), 2147483647)], [(3, 1, 1, 5), (3, 1, 1, 4), (3, 1, 1, 3), (3, 1, 1, 2), (3, 1, 1, 1), (3, 1, 1, 0)], [], [(101, (0, 0, 0), (0, 2, 0)), (102, (0, 0, 0), (0, 3, 0)), (103, (0, 0, 0), (0, 4, 0)), (104, (0, 0, 0), (0, 5, 0)), (105, (0, 0, 0), (0, 6, 0)), (106, (0, 0, 0), (0, 7, 0)), (107, (0, 0, 0), (0, 8, 0))]),
    (9999, [], [(0, 7, 0)], [(0, 0, 29), (1, 5, 5), (2, 0, 9), (3, 0, 9), (4, 0, 99999), (5, 0, 9), (6, (-2147483648), 2147483647), (7, (-2147483648), 2147483647), (8, (-2147483648), 2147483647)], [(3, 1, 1, 4), (3, 1, 1, 3), (3, 1, 1, 2), (3, 1, 1, 1), (3, 1, 1, 0)], [], [(101, (0, 0, 0), (0, 2, 0)), (102, (0, 0, 0), (0, 3, 0)), (103, (0, 0, 0), (0, 4, 0)), (104, (0, 0, 0), (0, 5, 0)), (105, (0, 0, 0), (0, 6, 0)), (106, (0, 0, 0), (0, 7, 0)), (107, (0, 0, 0), (0, 8, 0))]),
    (9999, [], [(0, 6, 0)], [(0, 0, 29), (1, 4, 4), (2, 0, 9), (3, 0, 9), (4, 0, 99999), (5, 0, 9), (6, (-2147483648), 2147483647), (7, (-2147483648), 2147483647), (8, (-2147483648), 2147483647)], [(3, 1, 1, 3), (3, 1, 1, 2), (3, 1, 1, 1), (3, 1, 1, 0)], [], [(101, (0, 0, 0), (0, 2, 0)), (102, (0, 0, 0), (0, 3, 0)), (103, (0, 0, 0), (0, 4, 0)), (104, (0, 0, 0), (0, 5, 0)), (105, (0, 0, 0), (0, 6, 0)), (106, (0, 0, 0), (0, 7, 0)), (107, (0, 0, 0), (0, 8, 0))]),
    (9999, [], [(0, 5, 0)], [(0, 0, 29), (1, 3, 3), (2, 0, 9), (3, 0, 9), (4, 0, 99999), (5, 0, 9), (6, (-2147483648), 2147483647), (7, (-2147483648), 2147483647), (8, (-2147483648), 2147483647)], [(3, 1, 1, 2), (3, 1, 1, 1), (3, 1, 1, 0)], [], [(101, (0, 0, 0), (0, 2, 0)), (102, (0, 0, 0), (0, 3, 0)), (103, (0, 0, 0), (0, 4, 0)), (104, (0, 0, 0), (0, 5, 0)), (105, (0, 0, 0), (0, 6, 0)), (106, (0, 0, 0), (0, 7, 0)), (107, (0, 0, 0), (0, 8, 0))]),
    (9999, [], [(0, 4, 0)], [(0, 0, 29), (1, 2, 2), (2, 0, 9), (3, 0, 9), (4, 0, 99999), (5, 0, 9), (6, (-2147483648), 2147483647), (7, (-2147483648), 2147483647), (8, (-2147483648), 2147483647)], [(3, 1, 1, 1), (3, 1, 1, 0)], [], [(101, (0, 0, 0), (0, 2, 0)), (102, (0, 0, 0), (0, 3, 0)), (103, (0, 0, 0), (0, 4, 0)), (104, (0, 0, 0), (0, 5, 0)), (105, (0, 0, 0), (0, 6, 0)), (106, (0, 0, 0), (0, 7, 0)), (107, (0, 0, 0), (0, 8, 0))]),
    (9999, [], [(0, 3, 0)], [(0, 0, 29), (1, 1, 1), (2, 0, 9), (3, 0, 9), (4, 0, 99999), (5, 0, 9), (6, (-2147483648), 2147483647), (7, (-2147483648), 2147483647), (8, (-2147483648), 2147483647)], [(3, 1, 1, 0)], [], [(101, (0, 0, 0), (0, 2, 0)), (102, (0, 0, 0), (0, 3, 0)), (103, (0, 0, 0), (0, 4, 0)), (104, (0, 0, 0), (0, 5, 0)), (105, (0, 0, 0), (0, 6, 0)), (106, (0, 0, 0), (0, 7, 0)), (107, (0, 0, 0), (0, 8, 0))]),
    (9999, [], [(0, 2, 0)], [(0, 0, 29), (1, 0, 0), (2, 0, 9), (3, 0, 9), (4, 0, 99999), (5, 0, 9), (6, (-2147483648), 2147483647), (7, (-2147483648), 2147483647), (8, (-2147483648), 2147483647)], [], [], [(101, (0, 0, 0), (0, 2, 0)), (102, (0, 0, 0), (0, 3, 0)), (103, (0, 0, 0), (0, 4, 0)), (104, (0, 0, 0), (0, 5, 0)), (105, (0, 0, 0), (0, 6, 0)), (106, (0, 0, 0), (0, 7, 0)), (107, (0, 0, 0), (0, 8, 0))])] (by decide +kernel) (ρ0 := (fun s => [x0, x1, x2, x3, x4, x5, x6, x7, x8].getD s 0)) hB eF eC ⟨rfl, ⟨rfl, ⟨rfl, trivial⟩⟩⟩ ⟨rfl, trivial⟩ ?_
  refine List.forall_mem_cons.mpr ⟨?_, List.forall_mem_cons.mpr ⟨?_, List.forall_mem_cons.mpr ⟨?_, List.forall_mem_cons.mpr ⟨?_, List.forall_mem_cons.mpr ⟨?_, List.forall_mem_cons.mpr ⟨?_, List.forall_mem_cons.mpr ⟨?_, List.forall_mem_cons.mpr ⟨?_, List.forall_mem_cons.mpr ⟨?_, List.forall_mem_cons.mpr ⟨?_, fun _ h => absurd h List.not_mem_nil⟩⟩⟩⟩⟩⟩⟩⟩⟩⟩
  · intro ρ τ Lc stc hx g1 g2 g3 g4 g5 g6 g7 g8
    have e0 : ρ 0 = x0 := hx 0 (by decide)
    have e1 : ρ 1 = x1 := hx 1 (by decide)
    have e2 : ρ 2 = x2 := hx 2 (by decide)
    have e3 : ρ 3 = x3 := hx 3 (by decide)
    have e4 : ρ 4 = x4 := hx 4 (by decide)
    have e5 : ρ 5 = x5 := hx 5 (by decide)
    have e6 : ρ 6 = x6 := hx 6 (by decide)
    have e7 : ρ 7 = x7 := hx 7 (by decide)
    have e8 : ρ 8 = x8 := hx 8 (by decide)
    subst e0
    subst e1
    subst e2
    subst e3
    subst e4
    subst e5
    subst e6
    subst e7
    subst e8
    match stc, g8 with
    | [_], ⟨h, _⟩ => cases h; exact l0 τ ρ g1 g2 g3 g4 g5 g6
  · intro ρ τ Lc stc hx g1 g2 g3 g4 g5 g6 g7 g8
    have e0 : ρ 0 = x0 := hx 0 (by decide)
    have e1 : ρ 1 = x1 := hx 1 (by decide)
    have e2 : ρ 2 = x2 := hx 2 (by decide)
    have e3 : ρ 3 = x3 := hx 3 (by decide)
    have e4 : ρ 4 = x4 := hx 4 (by decide)
    have e5 : ρ 5 = x5 := hx 5 (by decide)
    have e6 : ρ 6 = x6 := hx 6 (by decide)
    have e7 : ρ 7 = x7 := hx 7 (by decide)
    have e8 : ρ 8 = x8 := hx 8 (by decide)
    subst e0
    subst e1
    subst e2
    subst e3
    subst e4
    subst e5
    subst e6
    subst e7
    subst e8
    match stc, g8 with
    | [_], ⟨h, _⟩ => cases h; exact l1 τ ρ g1 g2 g3 g4 g5 g6
  · intro ρ τ Lc stc hx g1 g2 g3 g4 g5 g6 g7 g8
    have e0 : ρ 0 = x0 := hx 0 (by decide)
    have e1 : ρ 1 = x1 := hx 1 (by decide)
    have e2 : ρ 2 = x2 := hx 2 (by decide)
    have e3 : ρ 3 = x3 := hx 3 (by decide)
    have e4 : ρ 4 = x4 := hx 4 (by decide)
    have e5 : ρ 5 = x5 := hx 5 (by decide)
    have e6 : ρ 6 = x6 := hx 6 (by decide)
    have e7 : ρ 7 = x7 := hx 7 (by decide)
    have e8 : ρ 8 = x8 := hx 8 (by decide)
    subst e0
    subst e1
    subst e2
    subst e3
    subst e4
    subst e5
    subst e6
    subst e7
    subst e8
    have g7 := g7 (by decide)
    match Lc, stc, g7, g8 with
    | [v0, v1, v2], [w0, w1], ⟨hv0, hv1, hv2, _⟩, ⟨hw0, hw1, _⟩ =>
      cases hv0
      cases hv1
      cases hv2
      cases hw0
      cases hw1
      exact l2 τ ρ  g1 g2 g3 g4 g5 g6
  · intro ρ τ Lc stc hx g1 g2 g3 g4 g5 g6 g7 g8
    have e0 : ρ 0 = x0 := hx 0 (by decide)
    have e1 : ρ 1 = x1 := hx 1 (by decide)
    have e2 : ρ 2 = x2 := hx 2 (by decide)
    have e3 : ρ 3 = x3 := hx 3 (by decide)
    have e4 : ρ 4 = x4 := hx 4 (by decide)
    have e5 : ρ 5 = x5 := hx 5 (by decide)
    have e6 : ρ 6 = x6 := hx 6 (by decide)
    have e7 : ρ 7 = x7 := hx 7 (by decide)
    have e8 : ρ 8 = x8 := hx 8 (by decide)
    subst e0
    subst e1
    subst e2
    subst e3
    subst e4
    subst e5
    subst e6
    subst e7
    subst e8
    match stc, g8 with
    | [_], ⟨h, _⟩ => cases h; exact l3 τ ρ g1 g2 g3 g4 g5 g6
  · intro ρ τ Lc stc hx g1 g2 g3 g4 g5 g6 g7 g8
    have e0 : ρ 0 = x0 := hx 0 (by decide)
    have e1 : ρ 1 = x1 := hx 1 (by decide)
    have e2 : ρ 2 = x2 := hx 2 (by decide)
    have e3 : ρ 3 = x3 := hx 3 (by decide)
    have e4 : ρ 4 = x4 := hx 4 (by decide)
    have e5 : ρ 5 = x5 := hx 5 (by decide)
    have e6 : ρ 6 = x6 := hx 6 (by decide)
    have e7 : ρ 7 = x7 := hx 7 (by decide)
    have e8 : ρ 8 = x8 := hx 8 (by decide)
    subst e0
    subst e1
    subst e2
    subst e3
    subst e4
    subst e5
    subst e6
    subst e7
    subst e8
    match stc, g8 with
    | [_], ⟨h, _⟩ => cases h; exact l4 τ ρ g1 g2 g3 g4 g5 g6
  · intro ρ τ Lc stc hx g1 g2 g3 g4 g5 g6 g7 g8
    have e0 : ρ 0 = x0 := hx 0 (by decide)
    have e1 : ρ 1 = x1 := hx 1 (by decide)
    have e2 : ρ 2 = x2 := hx 2 (by decide)
    have e3 : ρ 3 = x3 := hx 3 (by decide)
    have e4 : ρ 4 = x4 := hx 4 (by decide)
    have e5 : ρ 5 = x5 := hx 5 (by decide)
    have e6 : ρ 6 = x6 := hx 6 (by decide)
    have e7 : ρ 7 = x7 := hx 7 (by decide)
    have e8 : ρ 8 = x8 := hx 8 (by decide)
    subst e0
    subst e1
    subst e2
    subst e3
    subst e4
    subst e5
    subst e6
    subst e7
    subst e8
    match stc, g8 with
    | [_], ⟨h, _⟩ => cases h; exact l5 τ ρ g1 g2 g3 g4 g5 g6
  · intro ρ τ Lc stc hx g1 g2 g3 g4 g5 g6 g7 g8
    have e0 : ρ 0 = x0 := hx 0 (by decide)
    have e1 : ρ 1 = x1 := hx 1 (by decide)
    have e2 : ρ 2 = x2 := hx 2 (by decide)
    have e3 : ρ 3 = x3 := hx 3 (by decide)
    have e4 : ρ 4 = x4 := hx 4 (by decide)
    have e5 : ρ 5 = x5 := hx 5 (by decide)
    have e6 : ρ 6 = x6 := hx 6 (by decide)
    have e7 : ρ 7 = x7 := hx 7 (by decide)
    have e8 : ρ 8 = x8 := hx 8 (by decide)
    subst e0
    subst e1
    subst e2
    subst e3
    subst e4
    subst e5
    subst e6
    subst e7
    subst e8
    match stc, g8 with
    | [_], ⟨h, _⟩ => cases h; exact l6 τ ρ g1 g2 g3 g4 g5 g6
  · intro ρ τ Lc stc hx g1 g2 g3 g4 g5 g6 g7 g8
    have e0 : ρ 0 = x0 := hx 0 (by decide)
    have e1 : ρ 1 = x1 := hx 1 (by decide)
    have e2 : ρ 2 = x2 := hx 2 (by decide)
    have e3 : ρ 3 = x3 := hx 3 (by decide)
    have e4 : ρ 4 = x4 := hx 4 (by decide)
    have e5 : ρ 5 = x5 := hx 5 (by decide)
    have e6 : ρ 6 = x6 := hx 6 (by decide)
    have e7 : ρ 7 = x7 := hx 7 (by decide)
    have e8 : ρ 8 = x8 := hx 8 (by decide)
    subst e0
    subst e1
    subst e2
    subst e3
    subst e4
    subst e5
    subst e6
    subst e7
    subst e8
    match stc, g8 with
    | [_], ⟨h, _⟩ => cases h; exact l7 τ ρ g1 g2 g3 g4 g5 g6
  · intro ρ τ Lc stc hx g1 g2 g3 g4 g5 g6 g7 g8
    have e0 : ρ 0 = x0 := hx 0 (by decide)
    have e1 : ρ 1 = x1 := hx 1 (by decide)
    have e2 : ρ 2 = x2 := hx 2 (by decide)
    have e3 : ρ 3 = x3 := hx 3 (by decide)
    have e4 : ρ 4 = x4 := hx 4 (by decide)
    have e5 : ρ 5 = x5 := hx 5 (by decide)
    have e6 : ρ 6 = x6 := hx 6 (by decide)
    have e7 : ρ 7 = x7 := hx 7 (by decide)
    have e8 : ρ 8 = x8 := hx 8 (by decide)
    subst e0
    subst e1
    subst e2
    subst e3
    subst e4
    subst e5
    subst e6
    subst e7
    subst e8
    match stc, g8 with
    | [_], ⟨h, _⟩ => cases h; exact l8 τ ρ g1 g2 g3 g4 g5 g6
  · intro ρ τ Lc stc hx g1 g2 g3 g4 g5 g6 g7 g8
    have e0 : ρ 0 = x0 := hx 0 (by decide)
    have e1 : ρ 1 = x1 := hx 1 (by decide)
    have e2 : ρ 2 = x2 := hx 2 (by decide)
    have e3 : ρ 3 = x3 := hx 3 (by decide)
    have e4 : ρ 4 = x4 := hx 4 (by decide)
    have e5 : ρ 5 = x5 := hx 5 (by decide)
    have e6 : ρ 6 = x6 := hx 6 (by decide)
    have e7 : ρ 7 = x7 := hx 7 (by decide)
    have e8 : ρ 8 = x8 := hx 8 (by decide)
    subst e0
    subst e1
    subst e2
    subst e3
    subst e4
    subst e5
    subst e6
    subst e7
    subst e8
    match stc, g8 with
    | [_], ⟨h, _⟩ => cases h; exact l9 τ ρ g1 g2 g3 g4 g5 g6
set_option maxRecDepth 100000 in
theorem zm_w79n {σ : pm_S} {Q : Option Value → pm_S → Prop} (x0 x1 : Int)  (hB : an_GB pm_B σ) (eF : (0 ≤ x0 ∧ x0 ≤ 29) ∧ ((-2147483648) ≤ x1 ∧ x1 ≤ 2147483647) ∧ True)
    (l0 : ∀ (τ : pm_S) (y : Nat → Int), an_GB pm_B τ → FQ [] σ τ → ((0 ≤ x0 ∧ x0 ≤ 29) ∧ ((-2147483648) ≤ x1 ∧ x1 ≤ 2147483647) ∧ True) → (True) → (True) → (True) → Q (some (.int (Int32.ofInt 0))) τ)
    : Ok 215 22 79 [.ref 93, .int (Int32.ofInt (x0)), .int (Int32.ofInt (x1))] [.int (Int32.ofInt 0)] σ Q := by
  refine an_seg (B := pm_B) (F := []) (T := []) (S := []) (fun _ h => absurd h List.not_mem_nil) (k := 215) (d := 21) (cs := []) 6 79 2 [(0, 0, 29), (1, (-2147483648), 2147483647)] [] [(2, 93, 0), (0, 0, 0), (0, 1, 0)] [(1, 0, 0)] [(9999, [], [(1, 0, 0)], [(0, 0, 29), (1, (-2147483648), 2147483647)], [], [], [])] (by decide +kernel) (ρ0 := (fun s => [x0, x1].getD s 0)) hB eF trivial ⟨rfl, ⟨rfl, ⟨rfl, trivial⟩⟩⟩ ⟨rfl, trivial⟩ ?_
  refine List.forall_mem_cons.mpr ⟨?_, fun _ h => absurd h List.not_mem_nil⟩
  · intro ρ τ Lc stc hx g1 g2 g3 g4 g5 g6 g7 g8
    have e0 : ρ 0 = x0 := hx 0 (by decide)
    have e1 : ρ 1 = x1 := hx 1 (by decide)
    subst e0
    subst e1
    match stc, g8 with
    | [_], ⟨h, _⟩ => cases h; exact l0 τ ρ g1 g2 g3 g4 g5 g6
set_option maxRecDepth 100000 in
theorem zm_w79 {σ : pm_S} {Q : Option Value → pm_S → Prop} (x0 x1 : Int)  (hB : an_GB pm_B σ) (eF : (0 ≤ x0 ∧ x0 ≤ 29) ∧ ((-2147483648) ≤ x1 ∧ x1 ≤ 2147483647) ∧ True)
    (l0 : ∀ (τ : pm_S) (y : Nat → Int), an_GB pm_B τ → FQ [] σ τ → ((0 ≤ x0 ∧ x0 ≤ 29) ∧ ((-2147483648) ≤ x1 ∧ x1 ≤ 2147483647) ∧ True) → (True) → (True) → (True) → Q (some (.int (Int32.ofInt 1))) τ)
    : Ok 215 22 79 [.ref 93, .int (Int32.ofInt (x0)), .int (Int32.ofInt (x1))] [.int (Int32.ofInt 1)] σ Q := by
  refine an_seg (B := pm_B) (F := []) (T := []) (S := []) (fun _ h => absurd h List.not_mem_nil) (k := 215) (d := 21) (cs := []) 6 79 2 [(0, 0, 29), (1, (-2147483648), 2147483647)] [] [(2, 93, 0), (0, 0, 0), (0, 1, 0)] [(1, 0, 1)] [(9999, [], [(1, 0, 1)], [(0, 0, 29), (1, (-2147483648), 2147483647)], [], [], [])] (by decide +kernel) (ρ0 := (fun s => [x0, x1].getD s 0)) hB eF trivial ⟨rfl, ⟨rfl, ⟨rfl, trivial⟩⟩⟩ ⟨rfl, trivial⟩ ?_
  refine List.forall_mem_cons.mpr ⟨?_, fun _ h => absurd h List.not_mem_nil⟩
  · intro ρ τ Lc stc hx g1 g2 g3 g4 g5 g6 g7 g8
    have e0 : ρ 0 = x0 := hx 0 (by decide)
    have e1 : ρ 1 = x1 := hx 1 (by decide)
    subst e0
    subst e1
    match stc, g8 with
    | [_], ⟨h, _⟩ => cases h; exact l0 τ ρ g1 g2 g3 g4 g5 g6
/-- what is told -/
def owV (v0 v1 v2 v3 v4 v5 v6 v7 w : Int) : Int := if w = 0 then v0 else if w = 1 then v1 else if w = 2 then v2 else if w = 3 then v3 else if w = 4 then v4 else if w = 5 then v5 else if w = 6 then v6 else if w = 7 then v7 else -2
theorem fcc_1 {a b : pm_S} (h : a.1 = b.1) (d : Nat) : fcc a d = fcc b d := by
  obtain ⟨a1, a2⟩ := a
  obtain ⟨b1, b2⟩ := b
  have h : a1 = b1 := h
  subst h
  funext j
  match j with
  | 0 => rfl
  | 1 => rfl
  | 2 => rfl
  | 3 => rfl
  | 4 => rfl
  | 5 => rfl
  | 6 => rfl
  | 7 => rfl
  | j + 8 => rfl
/-- open and let -/
def olV (hw : Int32) (b : Bool) : Int := if hw = 0 ∧ b = true then 1 else 0
set_option maxRecDepth 20000 in
theorem x_owc {σ : pm_S} {ls : List (List Int)} (p w : Int) (hp : (-2147483648) ≤ p ∧ p ≤ 2147483647) (hw : (-2147483648) ≤ w ∧ w ≤ 2147483647) {D : Nat} (hD : D ≤ 30) (eD : sI σ 13 0 = (D : Int)) (hl : ∀ l ∈ ls, lnW l) (hL : cw_R σ ls.flatten) (hB : an_GB pm_B σ) : Sp 142 22 [.ref 0, .int (Int32.ofInt p), .int (Int32.ofInt w)] σ (fun r τ => an_GB pm_B τ ∧ FQ [(75, 9999), (31, 2), (33, 9999)] σ τ ∧ ((¬ (0 ≤ p ∧ p < (D : Int)) ∧ r = some (.int (Int32.ofInt (-2)))) ∨ ((0 ≤ p ∧ p < (D : Int)) ∧ r = some (.int (Int32.ofInt (owV (sI σ 14 p.toNat) (sI σ 15 p.toNat) (sI σ 16 p.toNat) (sI σ 17 p.toNat) (sI σ 18 p.toNat) (sI σ 19 p.toNat) (sI σ 20 p.toNat) (olV (σ.1 20 p.toNat) (LW (fcc σ p.toNat) ls)) w)))))) := by
  refine Sp.at rfl rfl ?_
  refine zc_w0 p w hB ⟨hp, hw, trivial⟩ ?_
  intro τ1 y1 hB1 F1 _ _ _ _
  have G1 : FQ [] σ τ1 := F1
  refine Ok.cv rfl rfl rfl rfl rfl rfl rfl ?_
  refine (x_h1 p (D : Int) hB1 hp ((congrArg Int32.toInt (F1 13 0 rfl)).trans eD)).use (by decide) (fun r τ2 q => ?_)
  obtain ⟨hB2, F2, ⟨q, rfl, -⟩ | ⟨q, rfl, -⟩⟩ := q
  · refine zc_w5n p w hB2 ⟨hp, hw, trivial⟩ ?_
    intro τ3 y3 hB3 F3 _ _ _ _
    exact ⟨hB3, FQ.tr (FQ.tr (FQ.up (G := []) rfl G1) (FQ.up (G := []) rfl F2)) (FQ.up (G := []) rfl F3), Or.inl ⟨by omega, rfl⟩⟩
  have G2 : FQ [] σ τ2 := FQ.tr G1 F2
  have e0 : ∀ υ, FQ [] σ υ → sI υ 14 p.toNat = sI σ 14 p.toNat := fun υ F => congrArg Int32.toInt (F 14 _ rfl)
  have b0 : 0 ≤ sI σ 14 p.toNat ∧ sI σ 14 p.toNat ≤ 9 := hB 14 p.toNat (show p.toNat < 30 by omega)
  have e1 : ∀ υ, FQ [] σ υ → sI υ 15 p.toNat = sI σ 15 p.toNat := fun υ F => congrArg Int32.toInt (F 15 _ rfl)
  have b1 : 0 ≤ sI σ 15 p.toNat ∧ sI σ 15 p.toNat ≤ 9 := hB 15 p.toNat (show p.toNat < 30 by omega)
  have e2 : ∀ υ, FQ [] σ υ → sI υ 16 p.toNat = sI σ 16 p.toNat := fun υ F => congrArg Int32.toInt (F 16 _ rfl)
  have e3 : ∀ υ, FQ [] σ υ → sI υ 17 p.toNat = sI σ 17 p.toNat := fun υ F => congrArg Int32.toInt (F 17 _ rfl)
  have b3 : 0 ≤ sI σ 17 p.toNat ∧ sI σ 17 p.toNat ≤ 9 := hB 17 p.toNat (show p.toNat < 30 by omega)
  have e4 : ∀ υ, FQ [] σ υ → sI υ 18 p.toNat = sI σ 18 p.toNat := fun υ F => congrArg Int32.toInt (F 18 _ rfl)
  have e5 : ∀ υ, FQ [] σ υ → sI υ 19 p.toNat = sI σ 19 p.toNat := fun υ F => congrArg Int32.toInt (F 19 _ rfl)
  have e6 : ∀ υ, FQ [] σ υ → sI υ 20 p.toNat = sI σ 20 p.toNat := fun υ F => congrArg Int32.toInt (F 20 _ rfl)
  refine zc_w5 p w (sI σ 14 p.toNat) (sI σ 15 p.toNat) (sI σ 16 p.toNat) (sI σ 17 p.toNat) (sI σ 18 p.toNat) (sI σ 19 p.toNat) (sI σ 20 p.toNat) hB2 ⟨⟨by omega, by omega⟩, hw, b0, b1, ai_rng _, b3, ai_rng _, ai_rng _, ai_rng _, trivial⟩ ⟨e0 _ G2, e1 _ G2, e2 _ G2, e3 _ G2, e4 _ G2, e5 _ G2, e6 _ G2, trivial⟩ ?_ ?_ ?_ ?_ ?_ ?_ ?_ ?_ ?_
  · intro τ3 y3 hB3 F3 f rl _ _
    have f1 := f.2.1
    have r0 := rl.1
    have r1 := rl.2.1
    have r2 := rl.2.2.1
    have r3 := rl.2.2.2.1
    have r4 := rl.2.2.2.2.1
    have r5 := rl.2.2.2.2.2.1
    have r6 := rl.2.2.2.2.2.2.1
    have r7 := rl.2.2.2.2.2.2.2.1
    have G3 : FQ [] σ τ3 := FQ.tr G2 (FQ.up (G := []) rfl F3)
    have ev : owV (sI σ 14 p.toNat) (sI σ 15 p.toNat) (sI σ 16 p.toNat) (sI σ 17 p.toNat) (sI σ 18 p.toNat) (sI σ 19 p.toNat) (sI σ 20 p.toNat) (olV (σ.1 20 p.toNat) (LW (fcc σ p.toNat) ls)) w = -2 := by
      unfold owV; rw [if_neg (by omega), if_neg (by omega), if_neg (by omega), if_neg (by omega), if_neg (by omega), if_neg (by omega), if_neg (by omega), if_neg (by omega)]
    refine ⟨hB3, FQ.up rfl G3, Or.inr ⟨by omega, ?_⟩⟩
    rw [ev]
  · intro τ3 y3 hB3 F3 f rl _ _
    have f1 := f.2.1
    have r0 := rl.1
    have r1 := rl.2.1
    have r2 := rl.2.2.1
    have r3 := rl.2.2.2.1
    have r4 := rl.2.2.2.2.1
    have r5 := rl.2.2.2.2.2.1
    have r6 := rl.2.2.2.2.2.2.1
    have G3 : FQ [] σ τ3 := FQ.tr G2 (FQ.up (G := []) rfl F3)
    have ev : owV (sI σ 14 p.toNat) (sI σ 15 p.toNat) (sI σ 16 p.toNat) (sI σ 17 p.toNat) (sI σ 18 p.toNat) (sI σ 19 p.toNat) (sI σ 20 p.toNat) (olV (σ.1 20 p.toNat) (LW (fcc σ p.toNat) ls)) w = olV (σ.1 20 p.toNat) (LW (fcc σ p.toNat) ls) := by
      unfold owV; rw [if_neg (by omega), if_neg (by omega), if_neg (by omega), if_neg (by omega), if_neg (by omega), if_neg (by omega), if_neg (by omega), if_pos (by omega)]
    have pn : ((p.toNat : Nat) : Int) = p := by omega
    refine Ok.cv rfl rfl rfl rfl rfl rfl rfl ?_
    have X := x_opD p.toNat D hD (by omega) ((congrArg Int32.toInt (G3 13 0 rfl)).trans eD) hB3
    rw [pn] at X
    refine X.use (by decide) (fun r τ4 h => ?_)
    obtain ⟨rfl, hB4, F4⟩ := h
    have G4 : FQ [] σ τ4 := FQ.tr G3 F4
    rw [show τ3.1 20 p.toNat = σ.1 20 p.toNat from G3 20 _ rfl]
    by_cases c : σ.1 20 p.toNat = 0
    · have zb : b01 (decide (σ.1 20 p.toNat = 0)) = .int (Int32.ofInt 1) := by
        rw [decide_eq_true c]
        rfl
      rw [zb]
      refine zc_w64 p w hB4 ⟨⟨by omega, by omega⟩, hw, trivial⟩ ?_
      intro τ5 y5 hB5 F5 _ _ _ _
      have G5 : FQ [] σ τ5 := FQ.tr G4 F5
      refine Ok.cv rfl rfl rfl rfl rfl rfl rfl ?_
      have Y := x_llc hl p.toNat (by omega) hB5 (hL.fq (G := []) rfl G5)
      rw [pn] at Y
      refine Y.use (by decide) (fun r τ6 h => ?_)
      obtain ⟨rfl, hB6, F6⟩ := h
      have ef : fcc τ5 p.toNat = fcc σ p.toNat := fcc_1 (FQ.e1 G5) _
      rw [ef]
      have G6 : FQ [(75, 9999), (31, 2), (33, 9999)] σ τ6 := FQ.tr (FQ.up (G := []) rfl G5) F6
      cases cl : LW (fcc σ p.toNat) ls with
      | false =>
        refine zc_w69n p w hB6 ⟨⟨by omega, by omega⟩, hw, trivial⟩ ?_
        intro τ7 y7 hB7 F7 _ _ _ _
        refine ⟨hB7, FQ.tr G6 (FQ.up (G := []) rfl F7), Or.inr ⟨by omega, ?_⟩⟩
        rw [cl] at ev
        rw [ev, show olV (σ.1 20 p.toNat) false = 0 from if_neg (fun w0 => absurd w0.2 (by decide))]
      | true =>
        refine zc_w69 p w hB6 ⟨⟨by omega, by omega⟩, hw, trivial⟩ ?_
        intro τ7 y7 hB7 F7 _ _ _ _
        refine ⟨hB7, FQ.tr G6 (FQ.up (G := []) rfl F7), Or.inr ⟨by omega, ?_⟩⟩
        rw [cl] at ev
        rw [ev, show olV (σ.1 20 p.toNat) true = 1 from if_pos ⟨c, rfl⟩]
    · have zb : b01 (decide (σ.1 20 p.toNat = 0)) = .int (Int32.ofInt 0) := by
        rw [decide_eq_false c]
        rfl
      rw [zb]
      refine zc_w64n p w hB4 ⟨⟨by omega, by omega⟩, hw, trivial⟩ ?_
      intro τ5 y5 hB5 F5 _ _ _ _
      refine ⟨hB5, FQ.up rfl (FQ.tr G4 F5), Or.inr ⟨by omega, ?_⟩⟩
      rw [ev, show olV (σ.1 20 p.toNat) (LW (fcc σ p.toNat) ls) = 0 from if_neg (fun w0 => c w0.1)]
  · intro τ3 y3 hB3 F3 f rl _ _
    have f1 := f.2.1
    have r0 := rl.1
    have r1 := rl.2.1
    have r2 := rl.2.2.1
    have r3 := rl.2.2.2.1
    have r4 := rl.2.2.2.2.1
    have r5 := rl.2.2.2.2.2.1
    have G3 : FQ [] σ τ3 := FQ.tr G2 (FQ.up (G := []) rfl F3)
    have ev : owV (sI σ 14 p.toNat) (sI σ 15 p.toNat) (sI σ 16 p.toNat) (sI σ 17 p.toNat) (sI σ 18 p.toNat) (sI σ 19 p.toNat) (sI σ 20 p.toNat) (olV (σ.1 20 p.toNat) (LW (fcc σ p.toNat) ls)) w = sI σ 20 p.toNat := by
      unfold owV; rw [if_neg (by omega), if_neg (by omega), if_neg (by omega), if_neg (by omega), if_neg (by omega), if_neg (by omega), if_pos (by omega)]
    refine ⟨hB3, FQ.up rfl G3, Or.inr ⟨by omega, ?_⟩⟩
    rw [ev]
  · intro τ3 y3 hB3 F3 f rl _ _
    have f1 := f.2.1
    have r0 := rl.1
    have r1 := rl.2.1
    have r2 := rl.2.2.1
    have r3 := rl.2.2.2.1
    have r4 := rl.2.2.2.2.1
    have G3 : FQ [] σ τ3 := FQ.tr G2 (FQ.up (G := []) rfl F3)
    have ev : owV (sI σ 14 p.toNat) (sI σ 15 p.toNat) (sI σ 16 p.toNat) (sI σ 17 p.toNat) (sI σ 18 p.toNat) (sI σ 19 p.toNat) (sI σ 20 p.toNat) (olV (σ.1 20 p.toNat) (LW (fcc σ p.toNat) ls)) w = sI σ 19 p.toNat := by
      unfold owV; rw [if_neg (by omega), if_neg (by omega), if_neg (by omega), if_neg (by omega), if_neg (by omega), if_pos (by omega)]
    refine ⟨hB3, FQ.up rfl G3, Or.inr ⟨by omega, ?_⟩⟩
    rw [ev]
  · intro τ3 y3 hB3 F3 f rl _ _
    have f1 := f.2.1
    have r0 := rl.1
    have r1 := rl.2.1
    have r2 := rl.2.2.1
    have r3 := rl.2.2.2.1
    have G3 : FQ [] σ τ3 := FQ.tr G2 (FQ.up (G := []) rfl F3)
    have ev : owV (sI σ 14 p.toNat) (sI σ 15 p.toNat) (sI σ 16 p.toNat) (sI σ 17 p.toNat) (sI σ 18 p.toNat) (sI σ 19 p.toNat) (sI σ 20 p.toNat) (olV (σ.1 20 p.toNat) (LW (fcc σ p.toNat) ls)) w = sI σ 18 p.toNat := by
      unfold owV; rw [if_neg (by omega), if_neg (by omega), if_neg (by omega), if_neg (by omega), if_pos (by omega)]
    refine ⟨hB3, FQ.up rfl G3, Or.inr ⟨by omega, ?_⟩⟩
    rw [ev]
  · intro τ3 y3 hB3 F3 f rl _ _
    have f1 := f.2.1
    have r0 := rl.1
    have r1 := rl.2.1
    have r2 := rl.2.2.1
    have G3 : FQ [] σ τ3 := FQ.tr G2 (FQ.up (G := []) rfl F3)
    have ev : owV (sI σ 14 p.toNat) (sI σ 15 p.toNat) (sI σ 16 p.toNat) (sI σ 17 p.toNat) (sI σ 18 p.toNat) (sI σ 19 p.toNat) (sI σ 20 p.toNat) (olV (σ.1 20 p.toNat) (LW (fcc σ p.toNat) ls)) w = sI σ 17 p.toNat := by
      unfold owV; rw [if_neg (by omega), if_neg (by omega), if_neg (by omega), if_pos (by omega)]
    refine ⟨hB3, FQ.up rfl G3, Or.inr ⟨by omega, ?_⟩⟩
    rw [ev]
  · intro τ3 y3 hB3 F3 f rl _ _
    have f1 := f.2.1
    have r0 := rl.1
    have r1 := rl.2.1
    have G3 : FQ [] σ τ3 := FQ.tr G2 (FQ.up (G := []) rfl F3)
    have ev : owV (sI σ 14 p.toNat) (sI σ 15 p.toNat) (sI σ 16 p.toNat) (sI σ 17 p.toNat) (sI σ 18 p.toNat) (sI σ 19 p.toNat) (sI σ 20 p.toNat) (olV (σ.1 20 p.toNat) (LW (fcc σ p.toNat) ls)) w = sI σ 16 p.toNat := by
      unfold owV; rw [if_neg (by omega), if_neg (by omega), if_pos (by omega)]
    refine ⟨hB3, FQ.up rfl G3, Or.inr ⟨by omega, ?_⟩⟩
    rw [ev]
  · intro τ3 y3 hB3 F3 f rl _ _
    have f1 := f.2.1
    have r0 := rl.1
    have G3 : FQ [] σ τ3 := FQ.tr G2 (FQ.up (G := []) rfl F3)
    have ev : owV (sI σ 14 p.toNat) (sI σ 15 p.toNat) (sI σ 16 p.toNat) (sI σ 17 p.toNat) (sI σ 18 p.toNat) (sI σ 19 p.toNat) (sI σ 20 p.toNat) (olV (σ.1 20 p.toNat) (LW (fcc σ p.toNat) ls)) w = sI σ 15 p.toNat := by
      unfold owV; rw [if_neg (by omega), if_pos (by omega)]
    refine ⟨hB3, FQ.up rfl G3, Or.inr ⟨by omega, ?_⟩⟩
    rw [ev]
  · intro τ3 y3 hB3 F3 f rl _ _
    have f1 := f.2.1
    have G3 : FQ [] σ τ3 := FQ.tr G2 (FQ.up (G := []) rfl F3)
    have ev : owV (sI σ 14 p.toNat) (sI σ 15 p.toNat) (sI σ 16 p.toNat) (sI σ 17 p.toNat) (sI σ 18 p.toNat) (sI σ 19 p.toNat) (sI σ 20 p.toNat) (olV (σ.1 20 p.toNat) (LW (fcc σ p.toNat) ls)) w = sI σ 14 p.toNat := by
      unfold owV; rw [if_pos (by omega)]
    refine ⟨hB3, FQ.up rfl G3, Or.inr ⟨by omega, ?_⟩⟩
    rw [ev]
theorem mLaw_fx {σ τ : pm_S} {ls : List (List Int)} (h : mLaw σ ls) (F : FQ [(93, 0)] σ τ) : mLaw τ ls :=
  ⟨(congrArg Int32.toInt (F 93 36 rfl)).trans h.1, mt_LN.fr (fun i => ⟨F 116 i rfl, F 117 i rfl, F 118 i rfl⟩) ls 0 0 h.2.1, h.2.2.1, fun j hj => ⟨(congrArg Int32.toInt (F 119 j rfl)).trans (h.2.2.2 j hj).1, (congrArg Int32.toInt (F 120 j rfl)).trans (h.2.2.2 j hj).2⟩⟩
theorem fcm_fq {σ τ : pm_S} (F : FQ [(93, 0)] σ τ) (d : Nat) : fcm τ d = fcm σ d := by
  have e : ∀ p, an_inP [(93, 0)] p = false → τ.1 p = σ.1 p := fun p h => row_fq F h
  have n : nhM τ = nhM σ := by
    funext k
    show Int32.ofInt ((cntP (hrm τ (sI τ 104 k)) (sI τ 93 5).toNat : Nat) : Int) = Int32.ofInt ((cntP (hrm σ (sI σ 104 k)) (sI σ 93 5).toNat : Nat) : Int)
    rw [show sI τ 104 k = sI σ 104 k from congrArg Int32.toInt (F 104 k rfl), show sI τ 93 5 = sI σ 93 5 from congrArg Int32.toInt (F 93 5 rfl)]
    refine congrArg (fun m : Nat => Int32.ofInt (m : Int)) (cntP_e _ (fun p _ => ?_))
    show decide (sI τ 100 p = _) = decide (sI σ 100 p = _)
    rw [show sI τ 100 p = sI σ 100 p from congrArg Int32.toInt (F 100 p rfl)]
  rw [fcm_G, fcm_G, n, e 103 rfl, e 105 rfl, e 101 rfl, e 104 rfl, e 102 rfl, e 98 rfl, e 97 rfl, F 93 19 rfl]
set_option maxRecDepth 20000 in
theorem x_owm {σ : pm_S} {ls : List (List Int)} (p w : Int) (hp : (-2147483648) ≤ p ∧ p ≤ 2147483647) (hw : (-2147483648) ≤ w ∧ w ≤ 2147483647) {D : Nat} (hD : D ≤ 30) (eD : sI σ 93 11 = (D : Int)) (hl : ∀ l ∈ ls, lnW l) (hL : mLaw σ ls) (hB : an_GB pm_B σ) : Sp 215 22 [.ref 93, .int (Int32.ofInt p), .int (Int32.ofInt w)] σ (fun r τ => an_GB pm_B τ ∧ FQ [(93, 0), (122, 9999), (123, 9999)] σ τ ∧ ((¬ (0 ≤ p ∧ p < (D : Int)) ∧ r = some (.int (Int32.ofInt (-2)))) ∨ ((0 ≤ p ∧ p < (D : Int)) ∧ r = some (.int (Int32.ofInt (owV (sI σ 101 p.toNat) (sI σ 102 p.toNat) (sI σ 103 p.toNat) (sI σ 104 p.toNat) (sI σ 105 p.toNat) (sI σ 106 p.toNat) (sI σ 107 p.toNat) (olV (σ.1 107 p.toNat) (LW (fcm σ p.toNat) ls)) w)))))) := by
  refine Sp.at rfl rfl ?_
  refine zm_w0 p w (D : Int) hB ⟨hp, hw, by omega, trivial⟩ ⟨eD, trivial⟩ ?_
  intro τ2 y1 hB2 F1 _ _ _ _
  have G1 : FQ [(93, 0)] σ τ2 := F1
  refine Ok.cv rfl rfl rfl rfl rfl rfl rfl ?_
  refine (x_isIn (v := p) (l := 0) (h := (D : Int) + (-1)) hp (by decide) (by omega)).use (by decide) (fun r τ0 q => ?_)
  rw [o0, o1] at q
  obtain ⟨rfl, ⟨q, rfl⟩ | ⟨q, rfl⟩⟩ := q
  · refine zm_w11n p w hB2 ⟨hp, hw, trivial⟩ ?_
    intro τ3 y3 hB3 F3 _ _ _ _
    exact ⟨hB3, FQ.tr (FQ.up rfl G1) (FQ.up (G := []) rfl F3), Or.inl ⟨by omega, rfl⟩⟩
  have G2 : FQ [(93, 0)] σ _ := G1
  have e0 : ∀ υ, FQ [(93, 0)] σ υ → sI υ 101 p.toNat = sI σ 101 p.toNat := fun υ F => congrArg Int32.toInt (F 101 _ rfl)
  have b0 : 0 ≤ sI σ 101 p.toNat ∧ sI σ 101 p.toNat ≤ 9 := hB 101 p.toNat (show p.toNat < 30 by omega)
  have e1 : ∀ υ, FQ [(93, 0)] σ υ → sI υ 102 p.toNat = sI σ 102 p.toNat := fun υ F => congrArg Int32.toInt (F 102 _ rfl)
  have b1 : 0 ≤ sI σ 102 p.toNat ∧ sI σ 102 p.toNat ≤ 9 := hB 102 p.toNat (show p.toNat < 30 by omega)
  have e2 : ∀ υ, FQ [(93, 0)] σ υ → sI υ 103 p.toNat = sI σ 103 p.toNat := fun υ F => congrArg Int32.toInt (F 103 _ rfl)
  have b2 : 0 ≤ sI σ 103 p.toNat ∧ sI σ 103 p.toNat ≤ 99999 := hB 103 p.toNat (show p.toNat < 30 by omega)
  have e3 : ∀ υ, FQ [(93, 0)] σ υ → sI υ 104 p.toNat = sI σ 104 p.toNat := fun υ F => congrArg Int32.toInt (F 104 _ rfl)
  have b3 : 0 ≤ sI σ 104 p.toNat ∧ sI σ 104 p.toNat ≤ 9 := hB 104 p.toNat (show p.toNat < 30 by omega)
  have e4 : ∀ υ, FQ [(93, 0)] σ υ → sI υ 105 p.toNat = sI σ 105 p.toNat := fun υ F => congrArg Int32.toInt (F 105 _ rfl)
  have e5 : ∀ υ, FQ [(93, 0)] σ υ → sI υ 106 p.toNat = sI σ 106 p.toNat := fun υ F => congrArg Int32.toInt (F 106 _ rfl)
  have e6 : ∀ υ, FQ [(93, 0)] σ υ → sI υ 107 p.toNat = sI σ 107 p.toNat := fun υ F => congrArg Int32.toInt (F 107 _ rfl)
  refine zm_w11 p w (sI σ 101 p.toNat) (sI σ 102 p.toNat) (sI σ 103 p.toNat) (sI σ 104 p.toNat) (sI σ 105 p.toNat) (sI σ 106 p.toNat) (sI σ 107 p.toNat) hB2 ⟨⟨by omega, by omega⟩, hw, b0, b1, b2, b3, ai_rng _, ai_rng _, ai_rng _, trivial⟩ ⟨e0 _ G2, e1 _ G2, e2 _ G2, e3 _ G2, e4 _ G2, e5 _ G2, e6 _ G2, trivial⟩ ?_ ?_ ?_ ?_ ?_ ?_ ?_ ?_ ?_ ?_
  · intro τ3 y3 hB3 F3 f rl _ _
    have f1 := f.2.1
    have r0 := rl.1
    have r1 := rl.2.1
    have r2 := rl.2.2.1
    have r3 := rl.2.2.2.1
    have r4 := rl.2.2.2.2.1
    have r5 := rl.2.2.2.2.2.1
    have r6 := rl.2.2.2.2.2.2.1
    have r7 := rl.2.2.2.2.2.2.2.1
    have G3 : FQ [(93, 0)] σ τ3 := FQ.tr G2 (FQ.up (G := []) rfl F3)
    have ev : owV (sI σ 101 p.toNat) (sI σ 102 p.toNat) (sI σ 103 p.toNat) (sI σ 104 p.toNat) (sI σ 105 p.toNat) (sI σ 106 p.toNat) (sI σ 107 p.toNat) (olV (σ.1 107 p.toNat) (LW (fcm σ p.toNat) ls)) w = -2 := by
      unfold owV; rw [if_neg (by omega), if_neg (by omega), if_neg (by omega), if_neg (by omega), if_neg (by omega), if_neg (by omega), if_neg (by omega), if_neg (by omega)]
    refine ⟨hB3, FQ.up rfl G3, Or.inr ⟨by omega, ?_⟩⟩
    rw [ev]
  · intro τ3 y3 hB3 F3 f rl _ _
    have f1 := f.2.1
    have r0 := rl.1
    have r1 := rl.2.1
    have r2 := rl.2.2.1
    have r3 := rl.2.2.2.1
    have r4 := rl.2.2.2.2.1
    have r5 := rl.2.2.2.2.2.1
    have r6 := rl.2.2.2.2.2.2.1
    have r7 := rl.2.2.2.2.2.2.2.1
    have G3 : FQ [(93, 0)] σ τ3 := FQ.tr G2 (FQ.up (G := []) rfl F3)
    have nz : ¬ σ.1 107 p.toNat = 0 := fun w0 => by
      have : sI σ 107 p.toNat = 0 := congrArg Int32.toInt w0
      omega
    have ev : owV (sI σ 101 p.toNat) (sI σ 102 p.toNat) (sI σ 103 p.toNat) (sI σ 104 p.toNat) (sI σ 105 p.toNat) (sI σ 106 p.toNat) (sI σ 107 p.toNat) (olV (σ.1 107 p.toNat) (LW (fcm σ p.toNat) ls)) w = 0 := by
      unfold owV; rw [if_neg (by omega), if_neg (by omega), if_neg (by omega), if_neg (by omega), if_neg (by omega), if_neg (by omega), if_neg (by omega), if_pos (by omega)]
      exact if_neg (fun w0 => nz w0.1)
    refine ⟨hB3, FQ.up rfl G3, Or.inr ⟨by omega, ?_⟩⟩
    rw [ev]
  · intro τ3 y3 hB3 F3 f rl _ _
    have f1 := f.2.1
    have r0 := rl.1
    have r1 := rl.2.1
    have r2 := rl.2.2.1
    have r3 := rl.2.2.2.1
    have r4 := rl.2.2.2.2.1
    have r5 := rl.2.2.2.2.2.1
    have r6 := rl.2.2.2.2.2.2.1
    have G3 : FQ [(93, 0)] σ τ3 := FQ.tr G2 (FQ.up (G := []) rfl F3)
    have c : σ.1 107 p.toNat = 0 := Int32.toInt_inj.mp (by
      show sI σ 107 p.toNat = 0
      have := f.2.2.2.2.2.2.2.2.1
      omega)
    have ev : owV (sI σ 101 p.toNat) (sI σ 102 p.toNat) (sI σ 103 p.toNat) (sI σ 104 p.toNat) (sI σ 105 p.toNat) (sI σ 106 p.toNat) (sI σ 107 p.toNat) (olV (σ.1 107 p.toNat) (LW (fcm σ p.toNat) ls)) w = olV (σ.1 107 p.toNat) (LW (fcm σ p.toNat) ls) := by
      unfold owV; rw [if_neg (by omega), if_neg (by omega), if_neg (by omega), if_neg (by omega), if_neg (by omega), if_neg (by omega), if_neg (by omega), if_pos (by omega)]
    have pn : ((p.toNat : Nat) : Int) = p := by omega
    refine Ok.cv rfl rfl rfl rfl rfl rfl rfl ?_
    have Y := x_llm hl p.toNat (by omega) hB3 (mLaw_fx hL G3)
    rw [pn] at Y
    refine Y.use (by decide) (fun r τ6 h => ?_)
    obtain ⟨rfl, hB6, F6⟩ := h
    have ef : fcm τ3 p.toNat = fcm σ p.toNat := fcm_fq G3 _
    rw [ef]
    have G6 : FQ [(93, 0), (122, 9999), (123, 9999)] σ τ6 := FQ.tr (FQ.up (G := [(93, 0)]) rfl G3) (FQ.up (G := [(122, 9999), (123, 9999)]) rfl F6)
    cases cl : LW (fcm σ p.toNat) ls with
    | false =>
      refine zm_w79n p w hB6 ⟨⟨by omega, by omega⟩, hw, trivial⟩ ?_
      intro τ7 y7 hB7 F7 _ _ _ _
      refine ⟨hB7, FQ.tr G6 (FQ.up (G := []) rfl F7), Or.inr ⟨by omega, ?_⟩⟩
      rw [cl] at ev
      rw [ev, show olV (σ.1 107 p.toNat) false = 0 from if_neg (fun w0 => absurd w0.2 (by decide))]
    | true =>
      refine zm_w79 p w hB6 ⟨⟨by omega, by omega⟩, hw, trivial⟩ ?_
      intro τ7 y7 hB7 F7 _ _ _ _
      refine ⟨hB7, FQ.tr G6 (FQ.up (G := []) rfl F7), Or.inr ⟨by omega, ?_⟩⟩
      rw [cl] at ev
      rw [ev, show olV (σ.1 107 p.toNat) true = 1 from if_pos ⟨c, rfl⟩]
  · intro τ3 y3 hB3 F3 f rl _ _
    have f1 := f.2.1
    have r0 := rl.1
    have r1 := rl.2.1
    have r2 := rl.2.2.1
    have r3 := rl.2.2.2.1
    have r4 := rl.2.2.2.2.1
    have r5 := rl.2.2.2.2.2.1
    have G3 : FQ [(93, 0)] σ τ3 := FQ.tr G2 (FQ.up (G := []) rfl F3)
    have ev : owV (sI σ 101 p.toNat) (sI σ 102 p.toNat) (sI σ 103 p.toNat) (sI σ 104 p.toNat) (sI σ 105 p.toNat) (sI σ 106 p.toNat) (sI σ 107 p.toNat) (olV (σ.1 107 p.toNat) (LW (fcm σ p.toNat) ls)) w = sI σ 107 p.toNat := by
      unfold owV; rw [if_neg (by omega), if_neg (by omega), if_neg (by omega), if_neg (by omega), if_neg (by omega), if_neg (by omega), if_pos (by omega)]
    refine ⟨hB3, FQ.up rfl G3, Or.inr ⟨by omega, ?_⟩⟩
    rw [ev]
  · intro τ3 y3 hB3 F3 f rl _ _
    have f1 := f.2.1
    have r0 := rl.1
    have r1 := rl.2.1
    have r2 := rl.2.2.1
    have r3 := rl.2.2.2.1
    have r4 := rl.2.2.2.2.1
    have G3 : FQ [(93, 0)] σ τ3 := FQ.tr G2 (FQ.up (G := []) rfl F3)
    have ev : owV (sI σ 101 p.toNat) (sI σ 102 p.toNat) (sI σ 103 p.toNat) (sI σ 104 p.toNat) (sI σ 105 p.toNat) (sI σ 106 p.toNat) (sI σ 107 p.toNat) (olV (σ.1 107 p.toNat) (LW (fcm σ p.toNat) ls)) w = sI σ 106 p.toNat := by
      unfold owV; rw [if_neg (by omega), if_neg (by omega), if_neg (by omega), if_neg (by omega), if_neg (by omega), if_pos (by omega)]
    refine ⟨hB3, FQ.up rfl G3, Or.inr ⟨by omega, ?_⟩⟩
    rw [ev]
  · intro τ3 y3 hB3 F3 f rl _ _
    have f1 := f.2.1
    have r0 := rl.1
    have r1 := rl.2.1
    have r2 := rl.2.2.1
    have r3 := rl.2.2.2.1
    have G3 : FQ [(93, 0)] σ τ3 := FQ.tr G2 (FQ.up (G := []) rfl F3)
    have ev : owV (sI σ 101 p.toNat) (sI σ 102 p.toNat) (sI σ 103 p.toNat) (sI σ 104 p.toNat) (sI σ 105 p.toNat) (sI σ 106 p.toNat) (sI σ 107 p.toNat) (olV (σ.1 107 p.toNat) (LW (fcm σ p.toNat) ls)) w = sI σ 105 p.toNat := by
      unfold owV; rw [if_neg (by omega), if_neg (by omega), if_neg (by omega), if_neg (by omega), if_pos (by omega)]
    refine ⟨hB3, FQ.up rfl G3, Or.inr ⟨by omega, ?_⟩⟩
    rw [ev]
  · intro τ3 y3 hB3 F3 f rl _ _
    have f1 := f.2.1
    have r0 := rl.1
    have r1 := rl.2.1
    have r2 := rl.2.2.1
    have G3 : FQ [(93, 0)] σ τ3 := FQ.tr G2 (FQ.up (G := []) rfl F3)
    have ev : owV (sI σ 101 p.toNat) (sI σ 102 p.toNat) (sI σ 103 p.toNat) (sI σ 104 p.toNat) (sI σ 105 p.toNat) (sI σ 106 p.toNat) (sI σ 107 p.toNat) (olV (σ.1 107 p.toNat) (LW (fcm σ p.toNat) ls)) w = sI σ 104 p.toNat := by
      unfold owV; rw [if_neg (by omega), if_neg (by omega), if_neg (by omega), if_pos (by omega)]
    refine ⟨hB3, FQ.up rfl G3, Or.inr ⟨by omega, ?_⟩⟩
    rw [ev]
  · intro τ3 y3 hB3 F3 f rl _ _
    have f1 := f.2.1
    have r0 := rl.1
    have r1 := rl.2.1
    have G3 : FQ [(93, 0)] σ τ3 := FQ.tr G2 (FQ.up (G := []) rfl F3)
    have ev : owV (sI σ 101 p.toNat) (sI σ 102 p.toNat) (sI σ 103 p.toNat) (sI σ 104 p.toNat) (sI σ 105 p.toNat) (sI σ 106 p.toNat) (sI σ 107 p.toNat) (olV (σ.1 107 p.toNat) (LW (fcm σ p.toNat) ls)) w = sI σ 103 p.toNat := by
      unfold owV; rw [if_neg (by omega), if_neg (by omega), if_pos (by omega)]
    refine ⟨hB3, FQ.up rfl G3, Or.inr ⟨by omega, ?_⟩⟩
    rw [ev]
  · intro τ3 y3 hB3 F3 f rl _ _
    have f1 := f.2.1
    have r0 := rl.1
    have G3 : FQ [(93, 0)] σ τ3 := FQ.tr G2 (FQ.up (G := []) rfl F3)
    have ev : owV (sI σ 101 p.toNat) (sI σ 102 p.toNat) (sI σ 103 p.toNat) (sI σ 104 p.toNat) (sI σ 105 p.toNat) (sI σ 106 p.toNat) (sI σ 107 p.toNat) (olV (σ.1 107 p.toNat) (LW (fcm σ p.toNat) ls)) w = sI σ 102 p.toNat := by
      unfold owV; rw [if_neg (by omega), if_pos (by omega)]
    refine ⟨hB3, FQ.up rfl G3, Or.inr ⟨by omega, ?_⟩⟩
    rw [ev]
  · intro τ3 y3 hB3 F3 f rl _ _
    have f1 := f.2.1
    have G3 : FQ [(93, 0)] σ τ3 := FQ.tr G2 (FQ.up (G := []) rfl F3)
    have ev : owV (sI σ 101 p.toNat) (sI σ 102 p.toNat) (sI σ 103 p.toNat) (sI σ 104 p.toNat) (sI σ 105 p.toNat) (sI σ 106 p.toNat) (sI σ 107 p.toNat) (olV (σ.1 107 p.toNat) (LW (fcm σ p.toNat) ls)) w = sI σ 101 p.toNat := by
      unfold owV; rw [if_pos (by omega)]
    refine ⟨hB3, FQ.up rfl G3, Or.inr ⟨by omega, ?_⟩⟩
    rw [ev]
/-- the facts of a debt are alike -/
theorem fc_eq {D N S : Nat} {ls : List (List Int)} {σ : pm_S} (w : TW D N S ls σ) {d : Nat} (hd' : d < D) : fcm σ d = fcc σ d := by
  obtain ⟨⟨c1, c2, c3, c4, c5, c6⟩, ⟨hb, ⟨h1, h2, h3, h4, h5⟩, hS, hp, hd, hl⟩, _⟩ := w
  obtain ⟨a1, a2, a3, a4, a5, _⟩ := hd d hd'
  obtain ⟨l1, _⟩ := hl.2 d hd'
  have q := hp _ l1
  have en : nhM σ d = nhC σ d := by
    show Int32.ofInt ((cntP (hrm σ (sI σ 104 d)) (sI σ 93 5).toNat : Nat) : Int) = Int32.ofInt ((cntP (hrc σ (sI σ 17 d)) (sI σ 7 0).toNat : Nat) : Int)
    rw [show sI σ 93 5 = (N : Int) from c5, c2, Int.toNat_natCast]
    refine congrArg (fun k : Nat => Int32.ofInt (k : Int)) (cntP_e N (fun p hp' => ?_))
    show decide ((σ.1 100 p).toInt = (σ.1 104 d).toInt + 1) = decide ((σ.1 12 p).toInt = (σ.1 17 d).toInt)
    rw [← a4, ← (hp p hp').2.2.2.2]
    exact decide_eq_decide.mpr ⟨fun z => by omega, fun z => by omega⟩
  have e4 : (σ.1 101 d).toInt.toNat = (σ.1 14 d).toInt.toNat := by rw [a1]
  rw [fcm_G, fcc_G]
  funext j
  match j with
  | 0 => exact a3.symm
  | 1 =>
    show σ.1 93 19 - σ.1 105 d = σ.1 1 1 - σ.1 18 d
    rw [h2, a5]
  | 2 =>
    show σ.1 97 (σ.1 101 d).toInt.toNat = σ.1 9 (σ.1 14 d).toInt.toNat
    rw [e4]
    exact q.2.1.symm
  | 3 => exact a4.symm
  | 4 =>
    show σ.1 98 (σ.1 101 d).toInt.toNat = σ.1 10 (σ.1 14 d).toInt.toNat
    rw [e4]
    exact q.2.2.1.symm
  | 5 => exact en
  | 6 => exact a1.symm
  | 7 => exact a2.symm
  | j + 8 => exact h2.symm
set_option maxRecDepth 20000 in
theorem tt_owed (a1 a2 : Int32) : Two 1 true IT IT 142 215 [.int a1, .int a2] := by
  rw [← oI a1, ← oI a2]
  have o1 := ai_rng a1
  have o2 := ai_rng a2
  generalize a1.toInt = p at o1
  generalize a2.toInt = w at o2
  refine two_TE (GC := [(75, 9999), (31, 2), (33, 9999)]) (GM := [(93, 0), (122, 9999), (123, 9999)]) (by decide +kernel) (by decide +kernel) rfl rfl (fun σ v τ => ∃ (D N S : Nat) (ls : List (List Int)), TW D N S ls σ ∧ ((¬ (0 ≤ p ∧ p < (D : Int)) ∧ v = -2) ∨ ((0 ≤ p ∧ p < (D : Int)) ∧ v = owV (sI σ 14 p.toNat) (sI σ 15 p.toNat) (sI σ 16 p.toNat) (sI σ 17 p.toNat) (sI σ 18 p.toNat) (sI σ 19 p.toNat) (sI σ 20 p.toNat) (olV (σ.1 20 p.toNat) (LW (fcc σ p.toNat) ls)) w))) (fun σ hI => ?_) (fun σ τ v hI x F1 hB1 _ => ?_)
  · obtain ⟨D, N, S, ls, w'⟩ := RT.o hI.2.2.1.2.1
    have hb := w'.2.1.1
    refine (x_owc p w o1 o2 hb.1 w'.1.1 w'.2.2.2.2.2.2.1 w'.2.2.2.2.2.2.2.1.2 hI.1).use (by decide) (fun r τ q => ?_)
    obtain ⟨hB, F, ⟨q, rfl⟩ | ⟨q, rfl⟩⟩ := q
    · exact ⟨-2, rfl, hB, F, D, N, S, ls, w', Or.inl ⟨q, rfl⟩⟩
    · exact ⟨_, rfl, hB, F, D, N, S, ls, w', Or.inr ⟨q, rfl⟩⟩
  · obtain ⟨D, N, S, ls, w', x⟩ := x
    have wt : TW D N S ls τ := w'.fq rfl rfl rfl rfl rfl rfl rfl rfl rfl rfl F1
    have hb := wt.2.1.1
    refine (x_owm p w o1 o2 hb.1 wt.1.2.2.2.1 wt.2.2.2.2.2.2.1 wt.2.2.2.2.2.2.2.2 hB1).use (by decide) (fun r τ2 q => ?_)
    obtain ⟨hB2, F2, q⟩ := q
    have w2 : TW D N S ls τ2 := wt.fq rfl rfl rfl rfl rfl rfl rfl rfl rfl rfl F2
    refine ⟨?_, hB2, F2, D, N, S, ls, w2⟩
    rcases q with ⟨q, rfl⟩ | ⟨q, rfl⟩
    · rcases x with ⟨x, rfl⟩ | ⟨x, rfl⟩
      · rfl
      · exact absurd x q
    · rcases x with ⟨x, rfl⟩ | ⟨x, rfl⟩
      · exact absurd q x
      · have dD : p.toNat < D := by omega
        obtain ⟨a1, a2, a3, a4, a5, a6, a7⟩ := wt.2.1.2.2.2.2.1 p.toNat dD
        have cc : ∀ P, an_inP [(75, 9999), (31, 2), (33, 9999)] P = false → τ.1 P p.toNat = σ.1 P p.toNat := fun P h => F1 P _ (an_inP_ok h _)
        have ef : fcm τ p.toNat = fcc σ p.toNat := by
          rw [fc_eq wt dD, fcc_G, fcc_G]
          have n : nhC τ = nhC σ := by
            funext k
            show Int32.ofInt ((cntP (hrc τ (sI τ 17 k)) (sI τ 7 0).toNat : Nat) : Int) = Int32.ofInt ((cntP (hrc σ (sI σ 17 k)) (sI σ 7 0).toNat : Nat) : Int)
            rw [show sI τ 17 k = sI σ 17 k from congrArg Int32.toInt (F1 17 k rfl), show sI τ 7 0 = sI σ 7 0 from congrArg Int32.toInt (F1 7 0 rfl)]
            refine congrArg (fun m : Nat => Int32.ofInt (m : Int)) (cntP_e _ (fun p _ => ?_))
            show decide (sI τ 12 p = _) = decide (sI σ 12 p = _)
            rw [show sI τ 12 p = sI σ 12 p from congrArg Int32.toInt (F1 12 p rfl)]
          rw [n, row_fq F1 (P := 16) rfl, row_fq F1 (P := 18) rfl, row_fq F1 (P := 14) rfl, row_fq F1 (P := 17) rfl, row_fq F1 (P := 15) rfl, row_fq F1 (P := 10) rfl, row_fq F1 (P := 9) rfl, F1 1 1 rfl]
        have s1 : sI τ 101 p.toNat = sI σ 14 p.toNat := congrArg Int32.toInt (a1.symm.trans (cc 14 rfl))
        have s2 : sI τ 102 p.toNat = sI σ 15 p.toNat := congrArg Int32.toInt (a2.symm.trans (cc 15 rfl))
        have s3 : sI τ 103 p.toNat = sI σ 16 p.toNat := congrArg Int32.toInt (a3.symm.trans (cc 16 rfl))
        have s4 : sI τ 104 p.toNat = sI σ 17 p.toNat := congrArg Int32.toInt (a4.symm.trans (cc 17 rfl))
        have s5 : sI τ 105 p.toNat = sI σ 18 p.toNat := congrArg Int32.toInt (a5.symm.trans (cc 18 rfl))
        have s6 : sI τ 106 p.toNat = sI σ 19 p.toNat := congrArg Int32.toInt (a6.symm.trans (cc 19 rfl))
        have s7 : sI τ 107 p.toNat = sI σ 20 p.toNat := congrArg Int32.toInt (a7.symm.trans (cc 20 rfl))
        rw [s1, s2, s3, s4, s5, s6, s7, ef, show τ.1 107 p.toNat = σ.1 20 p.toNat from a7.symm.trans (cc 20 rfl)]
