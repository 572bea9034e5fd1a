/-! spot, goal, debt, state, set of both sides exactly -/
set_option maxRecDepth 100000 in
theorem zx_sadd_s0 {σ : pm_S} {Q : Option Value → pm_S → Prop} (x0 x1 : Int)  (hB : an_GB pm_B σ) (eF : ((-2147483648) ≤ x0 ∧ x0 ≤ 2147483647) ∧ (0 ≤ x1 ∧ x1 ≤ 10) ∧ True) (eC : (σ.1 3 0).toInt = x1 ∧ True)
    (l0 : ∀ (τ : pm_S) (y : Nat → Int), an_GB pm_B τ → FQ [(3, 0)] σ τ → (((-2147483648) ≤ x0 ∧ x0 ≤ (-1)) ∧ (0 ≤ x1 ∧ x1 ≤ 10) ∧ True) → (True) → (True) → ((τ.1 3 0).toInt = x1 ∧ True) → Q (some (.int (Int32.ofInt (-1)))) τ)
    (l1 : ∀ (τ : pm_S) (y : Nat → Int), an_GB pm_B τ → FQ [(3, 0)] σ τ → ((100 ≤ x0 ∧ x0 ≤ 2147483647) ∧ (0 ≤ x1 ∧ x1 ≤ 10) ∧ True) → (True) → (True) → ((τ.1 3 0).toInt = x1 ∧ True) → Q (some (.int (Int32.ofInt (-1)))) τ)
    (l2 : ∀ (τ : pm_S) (y : Nat → Int), an_GB pm_B τ → FQ [(3, 0)] σ τ → ((0 ≤ x0 ∧ x0 ≤ 99) ∧ (0 ≤ x1 ∧ x1 ≤ 9) ∧ True) → (True) → (True) → ((τ.1 3 0).toInt = x1 ∧ True) → Ok 83 21 16 [.ref 3, .int (Int32.ofInt (x0))] [.int (Int32.ofInt (x0)), .int (Int32.ofInt (x1)), .ref 4] τ Q)
    (l3 : ∀ (τ : pm_S) (y : Nat → Int), an_GB pm_B τ → FQ [(3, 0)] σ τ → ((0 ≤ x0 ∧ x0 ≤ 99) ∧ (10 ≤ x1 ∧ x1 ≤ 10) ∧ True) → (True) → (True) → ((τ.1 3 0).toInt = x1 ∧ True) → Q (some (.int (Int32.ofInt (-1)))) τ)
    : Ok 83 21 0 [.ref 3, .int (Int32.ofInt (x0))] [] σ Q := by
  refine an_seg (B := pm_B) (F := [(3, 0)]) (T := []) (S := []) (fun _ h => absurd h List.not_mem_nil) (k := 83) (d := 20) (cs := [16]) 16 0 2 [(0, (-2147483648), 2147483647), (1, 0, 10)] [(3, (1, 0, 0), (0, 1, 0))] [(2, 3, 0), (0, 0, 0)] [] [(9999, [], [(1, 0, (-1))], [(0, (-2147483648), (-1)), (1, 0, 10)], [], [], [(3, (1, 0, 0), (0, 1, 0))]),
    (9999, [], [(1, 0, (-1))], [(0, 100, 2147483647), (1, 0, 10)], [], [], [(3, (1, 0, 0), (0, 1, 0))]),
    (16, [(2, 3, 0), (0, 0, 0)], [(0, 0, 0), (0, 1, 0), (2, 4, 0)], [(0, 0, 99), (1, 0, 9)], [], [], [(3, (1, 0, 0), (0, 1, 0))]),
    (9999, [], [(1, 0, (-1))], [(0, 0, 99), (1, 10, 10)], [], [], [(3, (1, 0, 0), (0, 1, 0))])] (by decide +kernel) (ρ0 := (fun s => [x0, x1].getD s 0)) hB eF eC ⟨rfl, ⟨rfl, trivial⟩⟩ trivial ?_
  refine List.forall_mem_cons.mpr ⟨?_, List.forall_mem_cons.mpr ⟨?_, List.forall_mem_cons.mpr ⟨?_, List.forall_mem_cons.mpr ⟨?_, fun _ h => absurd h List.not_mem_nil⟩⟩⟩⟩
  · intro ρ τ Lc stc hx g1 g2 g3 g4 g5 g6 g7 g8
    have e0 : ρ 0 = x0 := hx 0 (by decide)
    have e1 : ρ 1 = x1 := hx 1 (by decide)
    subst e0
    subst e1
    match stc, g8 with
    | [_], ⟨h, _⟩ => cases h; exact l0 τ ρ g1 g2 g3 g4 g5 g6
  · intro ρ τ Lc stc hx g1 g2 g3 g4 g5 g6 g7 g8
    have e0 : ρ 0 = x0 := hx 0 (by decide)
    have e1 : ρ 1 = x1 := hx 1 (by decide)
    subst e0
    subst e1
    match stc, g8 with
    | [_], ⟨h, _⟩ => cases h; exact l1 τ ρ g1 g2 g3 g4 g5 g6
  · intro ρ τ Lc stc hx g1 g2 g3 g4 g5 g6 g7 g8
    have e0 : ρ 0 = x0 := hx 0 (by decide)
    have e1 : ρ 1 = x1 := hx 1 (by decide)
    subst e0
    subst e1
    have g7 := g7 (by decide)
    match Lc, stc, g7, g8 with
    | [v0, v1], [w0, w1, w2], ⟨hv0, hv1, _⟩, ⟨hw0, hw1, hw2, _⟩ =>
      cases hv0
      cases hv1
      cases hw0
      cases hw1
      cases hw2
      exact l2 τ ρ  g1 g2 g3 g4 g5 g6
  · intro ρ τ Lc stc hx g1 g2 g3 g4 g5 g6 g7 g8
    have e0 : ρ 0 = x0 := hx 0 (by decide)
    have e1 : ρ 1 = x1 := hx 1 (by decide)
    subst e0
    subst e1
    match stc, g8 with
    | [_], ⟨h, _⟩ => cases h; exact l3 τ ρ g1 g2 g3 g4 g5 g6
set_option maxRecDepth 100000 in
theorem zx_sadd_s1 {σ : pm_S} {Q : Option Value → pm_S → Prop} (x0 x1 : Int)  (hB : an_GB pm_B σ) (eF : (0 ≤ x0 ∧ x0 ≤ 99) ∧ (0 ≤ x1 ∧ x1 ≤ 9) ∧ True) (eC : (σ.1 3 0).toInt = x1 ∧ True)
    (l0 : ∀ (τ : pm_S) (y : Nat → Int), an_GB pm_B τ → FQ [(3, 0)] σ τ → ((0 ≤ x0 ∧ x0 ≤ 99) ∧ (0 ≤ x1 ∧ x1 ≤ 9) ∧ True) → (True) → (True) → ((τ.1 3 0).toInt = x1 + 1 ∧ True) → Q (some (.int (Int32.ofInt (x1)))) τ)
    : Ok 83 21 17 [.ref 3, .int (Int32.ofInt (x0))] [] σ Q := by
  refine an_seg (B := pm_B) (F := [(3, 0)]) (T := []) (S := []) (fun _ h => absurd h List.not_mem_nil) (k := 83) (d := 20) (cs := [16]) 13 17 2 [(0, 0, 99), (1, 0, 9)] [(3, (1, 0, 0), (0, 1, 0))] [(2, 3, 0), (0, 0, 0)] [] [(9999, [], [(0, 1, 0)], [(0, 0, 99), (1, 0, 9)], [], [], [(3, (1, 0, 0), (0, 1, 1))])] (by decide +kernel) (ρ0 := (fun s => [x0, x1].getD s 0)) hB eF eC ⟨rfl, ⟨rfl, trivial⟩⟩ trivial ?_
  refine List.forall_mem_cons.mpr ⟨?_, fun _ h => absurd h List.not_mem_nil⟩
  · intro ρ τ Lc stc hx g1 g2 g3 g4 g5 g6 g7 g8
    have e0 : ρ 0 = x0 := hx 0 (by decide)
    have e1 : ρ 1 = x1 := hx 1 (by decide)
    subst e0
    subst e1
    match stc, g8 with
    | [_], ⟨h, _⟩ => cases h; exact l0 τ ρ g1 g2 g3 g4 g5 g6
set_option maxRecDepth 20000 in
theorem zx_sadd {σ : pm_S} (x0 x1 : Int) (hB : an_GB pm_B σ) (g0 : (-2147483648) ≤ x0 ∧ x0 ≤ 2147483647) (g1 : 0 ≤ x1 ∧ x1 ≤ 10) (e0 : (σ.1 3 0).toInt = x1) : Sp 83 21 [.ref 3, .int (Int32.ofInt (x0))] σ (fun r τ => an_GB pm_B τ ∧ ((¬ (0 ≤ x0 ∧ x0 ≤ 99 ∧ x1 ≤ 9) ∧ r = some (.int (Int32.ofInt (-1))) ∧ (τ.1 3 0).toInt = x1 ∧ puF [(3, 0)] [] σ τ) ∨ ((0 ≤ x0 ∧ x0 ≤ 99 ∧ x1 ≤ 9) ∧ r = some (.int (Int32.ofInt (x1))) ∧ (τ.1 3 0).toInt = x1 + 1 ∧ puF [(3, 0)] [(4, (x1).toNat, Int32.ofInt (x0))] σ τ))) := by
  refine Sp.at rfl rfl ?_
  refine zx_sadd_s0 x0 x1 hB ⟨g0, g1, trivial⟩ ⟨e0, trivial⟩ ?_ ?_ ?_ ?_
  · intro τ1 y1  hB1 hF1 f1 rr1 _ c1
    obtain ⟨f1_0, f1_1, -⟩ := f1
    obtain ⟨c1_0, -⟩ := c1
    have hG1 : puF [(3, 0)] [] σ τ1 := puF.fq rfl (puF.rf _ _) hF1
    exact ⟨hB1, Or.inl ⟨by omega, rfl, c1_0, hG1⟩⟩
  · intro τ2 y2  hB2 hF2 f2 rr2 _ c2
    obtain ⟨f2_0, f2_1, -⟩ := f2
    obtain ⟨c2_0, -⟩ := c2
    have hG2 : puF [(3, 0)] [] σ τ2 := puF.fq rfl (puF.rf _ _) hF2
    exact ⟨hB2, Or.inl ⟨by omega, rfl, c2_0, hG2⟩⟩
  · intro τ3 y3  hB3 hF3 f3 rr3 _ c3
    obtain ⟨f3_0, f3_1, -⟩ := f3
    obtain ⟨c3_0, -⟩ := c3
    have hG3 : puF [(3, 0)] [] σ τ3 := puF.fq rfl (puF.rf _ _) hF3
    refine Ok.ast (n := 10) rfl rfl rfl (by decide) (by omega) (by omega) ?_
    have hG4 : puF [(3, 0)] [(4, (x1).toNat, Int32.ofInt (x0))] σ (put τ3 4 (x1).toNat (Int32.ofInt (x0))) := puF.put hG3
    have hB4 : an_GB pm_B (put τ3 4 (x1).toNat (Int32.ofInt (x0))) := put_GB hB3 (by
      show (0 : Int) ≤ (Int32.ofInt (x0)).toInt ∧ (Int32.ofInt (x0)).toInt ≤ 99
      rw [ti_of (by omega) (by omega)]
      omega)
    have e4_3_0 : ((put τ3 4 (x1).toNat (Int32.ofInt (x0))).1 3 0).toInt = x1 := (congrArg Int32.toInt (put_nr (by decide))).trans c3_0
    generalize put τ3 4 (x1).toNat (Int32.ofInt (x0)) = υ4 at hG4 hB4 e4_3_0 ⊢
    clear c3_0
    refine zx_sadd_s1 x0 x1 hB4 ⟨f3_0, f3_1, trivial⟩ ⟨e4_3_0, trivial⟩ ?_
    · intro τ5 y5  hB5 hF5 f5 rr5 _ c5
      obtain ⟨f5_0, f5_1, -⟩ := f5
      clear f3_0 f3_1 e4_3_0
      obtain ⟨c5_0, -⟩ := c5
      have hG5 : puF [(3, 0)] [(4, (x1).toNat, Int32.ofInt (x0))] σ τ5 := puF.fq rfl hG4 hF5
      exact ⟨hB5, Or.inr ⟨by omega, rfl, c5_0, hG5⟩⟩
  · intro τ6 y6  hB6 hF6 f6 rr6 _ c6
    obtain ⟨f6_0, f6_1, -⟩ := f6
    obtain ⟨c6_0, -⟩ := c6
    have hG6 : puF [(3, 0)] [] σ τ6 := puF.fq rfl (puF.rf _ _) hF6
    exact ⟨hB6, Or.inl ⟨by omega, rfl, c6_0, hG6⟩⟩
set_option maxRecDepth 100000 in
theorem zxc_spot_s0 {σ : pm_S} {Q : Option Value → pm_S → Prop} (x0 x1 : Int)  (hB : an_GB pm_B σ) (eF : ((-2147483648) ≤ x0 ∧ x0 ≤ 2147483647) ∧ (0 ≤ x1 ∧ x1 ≤ 10) ∧ True) (eC : (σ.1 3 0).toInt = x1 ∧ True)
    (l0 : ∀ (τ : pm_S) (y : Nat → Int), an_GB pm_B τ → FQ [(3, 0)] σ τ → (((-2147483648) ≤ x0 ∧ x0 ≤ 2147483647) ∧ (0 ≤ x1 ∧ x1 ≤ 10) ∧ True) → (True) → (True) → ((τ.1 3 0).toInt = x1 ∧ True) → Ok 129 23 4 [.ref 0, .int (Int32.ofInt (x0))] [.int (Int32.ofInt (x0)), .ref 3] τ Q)
    : Ok 129 23 0 [.ref 0, .int (Int32.ofInt (x0))] [] σ Q := by
  refine an_seg (B := pm_B) (F := [(3, 0)]) (T := []) (S := []) (fun _ h => absurd h List.not_mem_nil) (k := 129) (d := 22) (cs := [4]) 6 0 2 [(0, (-2147483648), 2147483647), (1, 0, 10)] [(3, (1, 0, 0), (0, 1, 0))] [(2, 0, 0), (0, 0, 0)] [] [(4, [(2, 0, 0), (0, 0, 0)], [(0, 0, 0), (2, 3, 0)], [(0, (-2147483648), 2147483647), (1, 0, 10)], [], [], [(3, (1, 0, 0), (0, 1, 0))])] (by decide +kernel) (ρ0 := (fun s => [x0, x1].getD s 0)) hB eF eC ⟨rfl, ⟨rfl, trivial⟩⟩ trivial ?_
  refine List.forall_mem_cons.mpr ⟨?_, fun _ h => absurd h List.not_mem_nil⟩
  · intro ρ τ Lc stc hx g1 g2 g3 g4 g5 g6 g7 g8
    have e0 : ρ 0 = x0 := hx 0 (by decide)
    have e1 : ρ 1 = x1 := hx 1 (by decide)
    subst e0
    subst e1
    have g7 := g7 (by decide)
    match Lc, stc, g7, g8 with
    | [v0, v1], [w0, w1], ⟨hv0, hv1, _⟩, ⟨hw0, hw1, _⟩ =>
      cases hv0
      cases hv1
      cases hw0
      cases hw1
      exact l0 τ ρ  g1 g2 g3 g4 g5 g6
set_option maxRecDepth 100000 in
theorem zxc_spot_s1 {σ : pm_S} {Q : Option Value → pm_S → Prop} (x0 x1 : Int)  (hB : an_GB pm_B σ) (eF : ((-2147483648) ≤ x0 ∧ x0 ≤ 2147483647) ∧ (0 ≤ x1 ∧ x1 ≤ 10) ∧ True) (eC : (σ.1 3 0).toInt = x1 ∧ True)
    (l0 : ∀ (τ : pm_S) (y : Nat → Int), an_GB pm_B τ → FQ [(3, 0)] σ τ → (((-2147483648) ≤ x0 ∧ x0 ≤ 2147483647) ∧ (0 ≤ x1 ∧ x1 ≤ 10) ∧ True) → (True) → (True) → ((τ.1 3 0).toInt = x1 ∧ True) → Q (some (.int (Int32.ofInt (-1)))) τ)
    : Ok 129 23 5 [.ref 0, .int (Int32.ofInt (x0))] [.int (Int32.ofInt (-1))] σ Q := by
  refine an_seg (B := pm_B) (F := [(3, 0)]) (T := []) (S := []) (fun _ h => absurd h List.not_mem_nil) (k := 129) (d := 22) (cs := [4]) 3 5 2 [(0, (-2147483648), 2147483647), (1, 0, 10)] [(3, (1, 0, 0), (0, 1, 0))] [(2, 0, 0), (0, 0, 0)] [(1, 0, (-1))] [(9999, [], [(1, 0, (-1))], [(0, (-2147483648), 2147483647), (1, 0, 10)], [], [], [(3, (1, 0, 0), (0, 1, 0))])] (by decide +kernel) (ρ0 := (fun s => [x0, x1].getD s 0)) hB eF eC ⟨rfl, ⟨rfl, trivial⟩⟩ ⟨(by exact rfl), trivial⟩ ?_
  refine List.forall_mem_cons.mpr ⟨?_, fun _ h => absurd h List.not_mem_nil⟩
  · intro ρ τ Lc stc hx g1 g2 g3 g4 g5 g6 g7 g8
    have e0 : ρ 0 = x0 := hx 0 (by decide)
    have e1 : ρ 1 = x1 := hx 1 (by decide)
    subst e0
    subst e1
    match stc, g8 with
    | [_], ⟨h, _⟩ => cases h; exact l0 τ ρ g1 g2 g3 g4 g5 g6
set_option maxRecDepth 100000 in
theorem zxc_spot_s2 {σ : pm_S} {Q : Option Value → pm_S → Prop} (x0 x1 : Int)  (hB : an_GB pm_B σ) (eF : ((-2147483648) ≤ x0 ∧ x0 ≤ 2147483647) ∧ (0 ≤ x1 ∧ x1 ≤ 10) ∧ True) (eC : (σ.1 3 0).toInt = x1 + 1 ∧ True)
    (l0 : ∀ (τ : pm_S) (y : Nat → Int), an_GB pm_B τ → FQ [(3, 0)] σ τ → (((-2147483648) ≤ x0 ∧ x0 ≤ 2147483647) ∧ (0 ≤ x1 ∧ x1 ≤ 10) ∧ True) → (True) → (True) → ((τ.1 3 0).toInt = x1 + 1 ∧ True) → Q (some (.int (Int32.ofInt (x1)))) τ)
    : Ok 129 23 5 [.ref 0, .int (Int32.ofInt (x0))] [.int (Int32.ofInt (x1))] σ Q := by
  refine an_seg (B := pm_B) (F := [(3, 0)]) (T := []) (S := []) (fun _ h => absurd h List.not_mem_nil) (k := 129) (d := 22) (cs := [4]) 3 5 2 [(0, (-2147483648), 2147483647), (1, 0, 10)] [(3, (1, 0, 0), (0, 1, 1))] [(2, 0, 0), (0, 0, 0)] [(0, 1, 0)] [(9999, [], [(0, 1, 0)], [(0, (-2147483648), 2147483647), (1, 0, 10)], [], [], [(3, (1, 0, 0), (0, 1, 1))])] (by decide +kernel) (ρ0 := (fun s => [x0, x1].getD s 0)) hB eF eC ⟨rfl, ⟨rfl, trivial⟩⟩ ⟨rfl, trivial⟩ ?_
  refine List.forall_mem_cons.mpr ⟨?_, fun _ h => absurd h List.not_mem_nil⟩
  · intro ρ τ Lc stc hx g1 g2 g3 g4 g5 g6 g7 g8
    have e0 : ρ 0 = x0 := hx 0 (by decide)
    have e1 : ρ 1 = x1 := hx 1 (by decide)
    subst e0
    subst e1
    match stc, g8 with
    | [_], ⟨h, _⟩ => cases h; exact l0 τ ρ g1 g2 g3 g4 g5 g6
set_option maxRecDepth 20000 in
theorem zxc_spot {σ : pm_S} (x0 x1 : Int) (hB : an_GB pm_B σ) (g0 : (-2147483648) ≤ x0 ∧ x0 ≤ 2147483647) (g1 : 0 ≤ x1 ∧ x1 ≤ 10) (e0 : (σ.1 3 0).toInt = x1) : Sp 129 23 [.ref 0, .int (Int32.ofInt (x0))] σ (fun r τ => an_GB pm_B τ ∧ ((¬ (0 ≤ x0 ∧ x0 ≤ 99 ∧ x1 ≤ 9) ∧ r = some (.int (Int32.ofInt (-1))) ∧ (τ.1 3 0).toInt = x1 ∧ puF [(3, 0)] [] σ τ) ∨ ((0 ≤ x0 ∧ x0 ≤ 99 ∧ x1 ≤ 9) ∧ r = some (.int (Int32.ofInt (x1))) ∧ (τ.1 3 0).toInt = x1 + 1 ∧ puF [(3, 0)] [(4, (x1).toNat, Int32.ofInt (x0))] σ τ))) := by
  refine Sp.at rfl rfl ?_
  refine zxc_spot_s0 x0 x1 hB ⟨g0, g1, trivial⟩ ⟨e0, trivial⟩ ?_
  · intro τ1 y1  hB1 hF1 f1 rr1 _ c1
    obtain ⟨f1_0, f1_1, -⟩ := f1
    obtain ⟨c1_0, -⟩ := c1
    have hG1 : puF [(3, 0)] [] σ τ1 := puF.fq rfl (puF.rf _ _) hF1
    refine Ok.cv rfl rfl rfl rfl rfl rfl rfl ?_
    refine (zx_sadd x0 x1 hB1 (by omega) (by omega) c1_0).use (by decide) (fun r2 τ2 q2 => ?_)
    obtain ⟨hB2, ⟨q2, rfl, d2, hF2⟩ | ⟨q2, rfl, d2, hF2⟩⟩ := q2
    · have hG2 : puF [(3, 0)] [] σ τ2 := puF.tr hG1 (puF.up rfl hF2)
      refine zxc_spot_s1 x0 x1 hB2 ⟨f1_0, f1_1, trivial⟩ ⟨d2, trivial⟩ ?_
      · intro τ3 y3  hB3 hF3 f3 rr3 _ c3
        obtain ⟨f3_0, f3_1, -⟩ := f3
        clear f1_0 f1_1
        obtain ⟨c3_0, -⟩ := c3
        have hG3 : puF [(3, 0)] [] σ τ3 := puF.fq rfl hG2 hF3
        exact ⟨hB3, Or.inl ⟨by omega, rfl, c3_0, hG3⟩⟩
    · have hG2 : puF [(3, 0)] [(4, (x1).toNat, Int32.ofInt (x0))] σ τ2 := puF.tr hG1 (puF.up rfl hF2)
      refine zxc_spot_s2 x0 x1 hB2 ⟨f1_0, f1_1, trivial⟩ ⟨d2, trivial⟩ ?_
      · intro τ4 y4  hB4 hF4 f4 rr4 _ c4
        obtain ⟨f4_0, f4_1, -⟩ := f4
        clear f1_0 f1_1
        obtain ⟨c4_0, -⟩ := c4
        have hG4 : puF [(3, 0)] [(4, (x1).toNat, Int32.ofInt (x0))] σ τ4 := puF.fq rfl hG2 hF4
        exact ⟨hB4, Or.inr ⟨by omega, rfl, c4_0, hG4⟩⟩
set_option maxRecDepth 100000 in
theorem zxm_spot_s0 {σ : pm_S} {Q : Option Value → pm_S → Prop} (x0 x1 : Int)  (hB : an_GB pm_B σ) (eF : ((-2147483648) ≤ x0 ∧ x0 ≤ 2147483647) ∧ (0 ≤ x1 ∧ x1 ≤ 10) ∧ True) (eC : (σ.1 93 2).toInt = x1 ∧ True)
    (l0 : ∀ (τ : pm_S) (y : Nat → Int), an_GB pm_B τ → FQ [(93, 0), (93, 2)] σ τ → (((-2147483648) ≤ x0 ∧ x0 ≤ (-1)) ∧ (0 ≤ x1 ∧ x1 ≤ 10) ∧ True) → (True) → (True) → ((τ.1 93 2).toInt = x1 ∧ True) → Q (some (.int (Int32.ofInt (-1)))) τ)
    (l1 : ∀ (τ : pm_S) (y : Nat → Int), an_GB pm_B τ → FQ [(93, 0), (93, 2)] σ τ → ((100 ≤ x0 ∧ x0 ≤ 2147483647) ∧ (0 ≤ x1 ∧ x1 ≤ 10) ∧ True) → (True) → (True) → ((τ.1 93 2).toInt = x1 ∧ True) → Q (some (.int (Int32.ofInt (-1)))) τ)
    (l2 : ∀ (τ : pm_S) (y : Nat → Int), an_GB pm_B τ → FQ [(93, 0), (93, 2)] σ τ → ((0 ≤ x0 ∧ x0 ≤ 99) ∧ (0 ≤ x1 ∧ x1 ≤ 9) ∧ True) → (True) → (True) → ((τ.1 93 2).toInt = x1 ∧ True) → Ok 166 21 20 [.ref 93, .int (Int32.ofInt (x0))] [.int (Int32.ofInt (x0)), .int (Int32.ofInt (x1)), .ref 94] τ Q)
    (l3 : ∀ (τ : pm_S) (y : Nat → Int), an_GB pm_B τ → FQ [(93, 0), (93, 2)] σ τ → ((0 ≤ x0 ∧ x0 ≤ 99) ∧ (10 ≤ x1 ∧ x1 ≤ 10) ∧ True) → (True) → (True) → ((τ.1 93 2).toInt = x1 ∧ True) → Q (some (.int (Int32.ofInt (-1)))) τ)
    : Ok 166 21 0 [.ref 93, .int (Int32.ofInt (x0))] [] σ Q := by
  refine an_seg (B := pm_B) (F := [(93, 0), (93, 2)]) (T := []) (S := []) (fun _ h => absurd h List.not_mem_nil) (k := 166) (d := 20) (cs := [20]) 29 0 2 [(0, (-2147483648), 2147483647), (1, 0, 10)] [(93, (1, 0, 2), (0, 1, 0))] [(2, 93, 0), (0, 0, 0)] [] [(9999, [], [(1, 0, (-1))], [(0, (-2147483648), (-1)), (1, 0, 10)], [], [], [(93, (1, 0, 2), (0, 1, 0))]),
    (9999, [], [(1, 0, (-1))], [(0, 100, 2147483647), (1, 0, 10)], [], [], [(93, (1, 0, 2), (0, 1, 0))]),
    (20, [(2, 93, 0), (0, 0, 0)], [(0, 0, 0), (0, 1, 0), (2, 94, 0)], [(0, 0, 99), (1, 0, 9)], [], [], [(93, (1, 0, 2), (0, 1, 0))]),
    (9999, [], [(1, 0, (-1))], [(0, 0, 99), (1, 10, 10)], [], [], [(93, (1, 0, 2), (0, 1, 0))])] (by decide +kernel) (ρ0 := (fun s => [x0, x1].getD s 0)) hB eF eC ⟨rfl, ⟨rfl, trivial⟩⟩ trivial ?_
  refine List.forall_mem_cons.mpr ⟨?_, List.forall_mem_cons.mpr ⟨?_, List.forall_mem_cons.mpr ⟨?_, List.forall_mem_cons.mpr ⟨?_, fun _ h => absurd h List.not_mem_nil⟩⟩⟩⟩
  · intro ρ τ Lc stc hx g1 g2 g3 g4 g5 g6 g7 g8
    have e0 : ρ 0 = x0 := hx 0 (by decide)
    have e1 : ρ 1 = x1 := hx 1 (by decide)
    subst e0
    subst e1
    match stc, g8 with
    | [_], ⟨h, _⟩ => cases h; exact l0 τ ρ g1 g2 g3 g4 g5 g6
  · intro ρ τ Lc stc hx g1 g2 g3 g4 g5 g6 g7 g8
    have e0 : ρ 0 = x0 := hx 0 (by decide)
    have e1 : ρ 1 = x1 := hx 1 (by decide)
    subst e0
    subst e1
    match stc, g8 with
    | [_], ⟨h, _⟩ => cases h; exact l1 τ ρ g1 g2 g3 g4 g5 g6
  · intro ρ τ Lc stc hx g1 g2 g3 g4 g5 g6 g7 g8
    have e0 : ρ 0 = x0 := hx 0 (by decide)
    have e1 : ρ 1 = x1 := hx 1 (by decide)
    subst e0
    subst e1
    have g7 := g7 (by decide)
    match Lc, stc, g7, g8 with
    | [v0, v1], [w0, w1, w2], ⟨hv0, hv1, _⟩, ⟨hw0, hw1, hw2, _⟩ =>
      cases hv0
      cases hv1
      cases hw0
      cases hw1
      cases hw2
      exact l2 τ ρ  g1 g2 g3 g4 g5 g6
  · intro ρ τ Lc stc hx g1 g2 g3 g4 g5 g6 g7 g8
    have e0 : ρ 0 = x0 := hx 0 (by decide)
    have e1 : ρ 1 = x1 := hx 1 (by decide)
    subst e0
    subst e1
    match stc, g8 with
    | [_], ⟨h, _⟩ => cases h; exact l3 τ ρ g1 g2 g3 g4 g5 g6
set_option maxRecDepth 100000 in
theorem zxm_spot_s1 {σ : pm_S} {Q : Option Value → pm_S → Prop} (x0 x1 : Int)  (hB : an_GB pm_B σ) (eF : (0 ≤ x0 ∧ x0 ≤ 99) ∧ (0 ≤ x1 ∧ x1 ≤ 9) ∧ True) (eC : (σ.1 93 2).toInt = x1 ∧ True)
    (l0 : ∀ (τ : pm_S) (y : Nat → Int), an_GB pm_B τ → FQ [(93, 0), (93, 2)] σ τ → ((0 ≤ x0 ∧ x0 ≤ 99) ∧ (0 ≤ x1 ∧ x1 ≤ 9) ∧ True) → (True) → (True) → ((τ.1 93 2).toInt = x1 + 1 ∧ True) → Q (some (.int (Int32.ofInt (x1)))) τ)
    : Ok 166 21 21 [.ref 93, .int (Int32.ofInt (x0))] [] σ Q := by
  refine an_seg (B := pm_B) (F := [(93, 0), (93, 2)]) (T := []) (S := []) (fun _ h => absurd h List.not_mem_nil) (k := 166) (d := 20) (cs := [20]) 13 21 2 [(0, 0, 99), (1, 0, 9)] [(93, (1, 0, 2), (0, 1, 0))] [(2, 93, 0), (0, 0, 0)] [] [(9999, [], [(0, 1, 0)], [(0, 0, 99), (1, 0, 9)], [], [], [(93, (1, 0, 2), (0, 1, 1))])] (by decide +kernel) (ρ0 := (fun s => [x0, x1].getD s 0)) hB eF eC ⟨rfl, ⟨rfl, trivial⟩⟩ trivial ?_
  refine List.forall_mem_cons.mpr ⟨?_, fun _ h => absurd h List.not_mem_nil⟩
  · intro ρ τ Lc stc hx g1 g2 g3 g4 g5 g6 g7 g8
    have e0 : ρ 0 = x0 := hx 0 (by decide)
    have e1 : ρ 1 = x1 := hx 1 (by decide)
    subst e0
    subst e1
    match stc, g8 with
    | [_], ⟨h, _⟩ => cases h; exact l0 τ ρ g1 g2 g3 g4 g5 g6
set_option maxRecDepth 20000 in
theorem zxm_spot {σ : pm_S} (x0 x1 : Int) (hB : an_GB pm_B σ) (g0 : (-2147483648) ≤ x0 ∧ x0 ≤ 2147483647) (g1 : 0 ≤ x1 ∧ x1 ≤ 10) (e0 : (σ.1 93 2).toInt = x1) : Sp 166 21 [.ref 93, .int (Int32.ofInt (x0))] σ (fun r τ => an_GB pm_B τ ∧ ((¬ (0 ≤ x0 ∧ x0 ≤ 99 ∧ x1 ≤ 9) ∧ r = some (.int (Int32.ofInt (-1))) ∧ (τ.1 93 2).toInt = x1 ∧ puF [(93, 0), (93, 2)] [] σ τ) ∨ ((0 ≤ x0 ∧ x0 ≤ 99 ∧ x1 ≤ 9) ∧ r = some (.int (Int32.ofInt (x1))) ∧ (τ.1 93 2).toInt = x1 + 1 ∧ puF [(93, 0), (93, 2)] [(94, (x1).toNat, Int32.ofInt (x0))] σ τ))) := by
  refine Sp.at rfl rfl ?_
  refine zxm_spot_s0 x0 x1 hB ⟨g0, g1, trivial⟩ ⟨e0, trivial⟩ ?_ ?_ ?_ ?_
  · intro τ1 y1  hB1 hF1 f1 rr1 _ c1
    obtain ⟨f1_0, f1_1, -⟩ := f1
    obtain ⟨c1_0, -⟩ := c1
    have hG1 : puF [(93, 0), (93, 2)] [] σ τ1 := puF.fq rfl (puF.rf _ _) hF1
    exact ⟨hB1, Or.inl ⟨by omega, rfl, c1_0, hG1⟩⟩
  · intro τ2 y2  hB2 hF2 f2 rr2 _ c2
    obtain ⟨f2_0, f2_1, -⟩ := f2
    obtain ⟨c2_0, -⟩ := c2
    have hG2 : puF [(93, 0), (93, 2)] [] σ τ2 := puF.fq rfl (puF.rf _ _) hF2
    exact ⟨hB2, Or.inl ⟨by omega, rfl, c2_0, hG2⟩⟩
  · intro τ3 y3  hB3 hF3 f3 rr3 _ c3
    obtain ⟨f3_0, f3_1, -⟩ := f3
    obtain ⟨c3_0, -⟩ := c3
    have hG3 : puF [(93, 0), (93, 2)] [] σ τ3 := puF.fq rfl (puF.rf _ _) hF3
    refine Ok.ast (n := 10) rfl rfl rfl (by decide) (by omega) (by omega) ?_
    have hG4 : puF [(93, 0), (93, 2)] [(94, (x1).toNat, Int32.ofInt (x0))] σ (put τ3 94 (x1).toNat (Int32.ofInt (x0))) := puF.put hG3
    have hB4 : an_GB pm_B (put τ3 94 (x1).toNat (Int32.ofInt (x0))) := put_GB hB3 (by
      show (0 : Int) ≤ (Int32.ofInt (x0)).toInt ∧ (Int32.ofInt (x0)).toInt ≤ 99
      rw [ti_of (by omega) (by omega)]
      omega)
    have e4_93_2 : ((put τ3 94 (x1).toNat (Int32.ofInt (x0))).1 93 2).toInt = x1 := (congrArg Int32.toInt (put_nr (by decide))).trans c3_0
    generalize put τ3 94 (x1).toNat (Int32.ofInt (x0)) = υ4 at hG4 hB4 e4_93_2 ⊢
    clear c3_0
    refine zxm_spot_s1 x0 x1 hB4 ⟨f3_0, f3_1, trivial⟩ ⟨e4_93_2, trivial⟩ ?_
    · intro τ5 y5  hB5 hF5 f5 rr5 _ c5
      obtain ⟨f5_0, f5_1, -⟩ := f5
      clear f3_0 f3_1 e4_93_2
      obtain ⟨c5_0, -⟩ := c5
      have hG5 : puF [(93, 0), (93, 2)] [(94, (x1).toNat, Int32.ofInt (x0))] σ τ5 := puF.fq rfl hG4 hF5
      exact ⟨hB5, Or.inr ⟨by omega, rfl, c5_0, hG5⟩⟩
  · intro τ6 y6  hB6 hF6 f6 rr6 _ c6
    obtain ⟨f6_0, f6_1, -⟩ := f6
    obtain ⟨c6_0, -⟩ := c6
    have hG6 : puF [(93, 0), (93, 2)] [] σ τ6 := puF.fq rfl (puF.rf _ _) hF6
    exact ⟨hB6, Or.inl ⟨by omega, rfl, c6_0, hG6⟩⟩
set_option maxRecDepth 100000 in
theorem zxc_goal_s0 {σ : pm_S} {Q : Option Value → pm_S → Prop} (x0 x1 x2 x3 : Int)  (hB : an_GB pm_B σ) (eF : ((-2147483648) ≤ x0 ∧ x0 ≤ 2147483647) ∧ ((-2147483648) ≤ x1 ∧ x1 ≤ 2147483647) ∧ (0 ≤ x2 ∧ x2 ≤ 10) ∧ (0 ≤ x3 ∧ x3 ≤ 10) ∧ True) (eC : (σ.1 3 0).toInt = x2 ∧ (σ.1 7 0).toInt = x3 ∧ True)
    (l0 : ∀ (τ : pm_S) (y : Nat → Int), an_GB pm_B τ → FQ [] σ τ → (((-2147483648) ≤ x0 ∧ x0 ≤ 2147483647) ∧ ((-2147483648) ≤ x1 ∧ x1 ≤ 2147483647) ∧ (0 ≤ x2 ∧ x2 ≤ 10) ∧ (0 ≤ x3 ∧ x3 ≤ 10) ∧ True) → (True) → (True) → ((τ.1 3 0).toInt = x2 ∧ (τ.1 7 0).toInt = x3 ∧ True) → Ok 134 21 4 [.ref 0, .int (Int32.ofInt (x0)), .int (Int32.ofInt (x1))] [.int (Int32.ofInt (x0)), .ref 7] τ Q)
    : Ok 134 21 0 [.ref 0, .int (Int32.ofInt (x0)), .int (Int32.ofInt (x1))] [] σ Q := by
  refine an_seg (B := pm_B) (F := []) (T := []) (S := []) (fun _ h => absurd h List.not_mem_nil) (k := 134) (d := 20) (cs := [4, 10, 20]) 6 0 4 [(0, (-2147483648), 2147483647), (1, (-2147483648), 2147483647), (2, 0, 10), (3, 0, 10)] [(3, (1, 0, 0), (0, 2, 0)), (7, (1, 0, 0), (0, 3, 0))] [(2, 0, 0), (0, 0, 0), (0, 1, 0)] [] [(4, [(2, 0, 0), (0, 0, 0), (0, 1, 0)], [(0, 0, 0), (2, 7, 0)], [(0, (-2147483648), 2147483647), (1, (-2147483648), 2147483647), (2, 0, 10), (3, 0, 10)], [], [], [(3, (1, 0, 0), (0, 2, 0)), (7, (1, 0, 0), (0, 3, 0))])] (by decide +kernel) (ρ0 := (fun s => [x0, x1, x2, x3].getD s 0)) hB eF eC ⟨rfl, ⟨rfl, ⟨rfl, trivial⟩⟩⟩ trivial ?_
  refine List.forall_mem_cons.mpr ⟨?_, fun _ h => absurd h List.not_mem_nil⟩
  · intro ρ τ Lc stc hx g1 g2 g3 g4 g5 g6 g7 g8
    have e0 : ρ 0 = x0 := hx 0 (by decide)
    have e1 : ρ 1 = x1 := hx 1 (by decide)
    have e2 : ρ 2 = x2 := hx 2 (by decide)
    have e3 : ρ 3 = x3 := hx 3 (by decide)
    subst e0
    subst e1
    subst e2
    subst e3
    have g7 := g7 (by decide)
    match Lc, stc, g7, g8 with
    | [v0, v1, v2], [w0, w1], ⟨hv0, hv1, hv2, _⟩, ⟨hw0, hw1, _⟩ =>
      cases hv0
      cases hv1
      cases hv2
      cases hw0
      cases hw1
      exact l0 τ ρ  g1 g2 g3 g4 g5 g6
set_option maxRecDepth 100000 in
theorem zxc_goal_s1 {σ : pm_S} {Q : Option Value → pm_S → Prop} (x0 x1 x2 x3 : Int)  (hB : an_GB pm_B σ) (eF : ((-2147483648) ≤ x0 ∧ x0 ≤ 2147483647) ∧ ((-2147483648) ≤ x1 ∧ x1 ≤ 2147483647) ∧ (0 ≤ x2 ∧ x2 ≤ 10) ∧ (0 ≤ x3 ∧ x3 ≤ 10) ∧ True) (eC : (σ.1 3 0).toInt = x2 ∧ (σ.1 7 0).toInt = x3 ∧ True)
    (l0 : ∀ (τ : pm_S) (y : Nat → Int), an_GB pm_B τ → FQ [] σ τ → (((-2147483648) ≤ x0 ∧ x0 ≤ 2147483647) ∧ ((-2147483648) ≤ x1 ∧ x1 ≤ 2147483647) ∧ (0 ≤ x2 ∧ x2 ≤ 10) ∧ (0 ≤ x3 ∧ x3 ≤ 10) ∧ True) → (True) → (True) → ((τ.1 3 0).toInt = x2 ∧ (τ.1 7 0).toInt = x3 ∧ True) → Q (some (.int (Int32.ofInt 0))) τ)
    : Ok 134 21 5 [.ref 0, .int (Int32.ofInt (x0)), .int (Int32.ofInt (x1))] [.int (Int32.ofInt 0)] σ Q := by
  refine an_seg (B := pm_B) (F := []) (T := []) (S := []) (fun _ h => absurd h List.not_mem_nil) (k := 134) (d := 20) (cs := [4, 10, 20]) 5 5 4 [(0, (-2147483648), 2147483647), (1, (-2147483648), 2147483647), (2, 0, 10), (3, 0, 10)] [(3, (1, 0, 0), (0, 2, 0)), (7, (1, 0, 0), (0, 3, 0))] [(2, 0, 0), (0, 0, 0), (0, 1, 0)] [(1, 0, 0)] [(9999, [], [(1, 0, 0)], [(0, (-2147483648), 2147483647), (1, (-2147483648), 2147483647), (2, 0, 10), (3, 0, 10)], [], [], [(3, (1, 0, 0), (0, 2, 0)), (7, (1, 0, 0), (0, 3, 0))])] (by decide +kernel) (ρ0 := (fun s => [x0, x1, x2, x3].getD s 0)) hB eF eC ⟨rfl, ⟨rfl, ⟨rfl, trivial⟩⟩⟩ ⟨rfl, trivial⟩ ?_
  refine List.forall_mem_cons.mpr ⟨?_, fun _ h => absurd h List.not_mem_nil⟩
  · intro ρ τ Lc stc hx g1 g2 g3 g4 g5 g6 g7 g8
    have e0 : ρ 0 = x0 := hx 0 (by decide)
    have e1 : ρ 1 = x1 := hx 1 (by decide)
    have e2 : ρ 2 = x2 := hx 2 (by decide)
    have e3 : ρ 3 = x3 := hx 3 (by decide)
    subst e0
    subst e1
    subst e2
    subst e3
    match stc, g8 with
    | [_], ⟨h, _⟩ => cases h; exact l0 τ ρ g1 g2 g3 g4 g5 g6
set_option maxRecDepth 100000 in
theorem zxc_goal_s2 {σ : pm_S} {Q : Option Value → pm_S → Prop} (x0 x1 x2 x3 : Int)  (hB : an_GB pm_B σ) (eF : (0 ≤ x0 ∧ x0 ≤ 9) ∧ ((-2147483648) ≤ x1 ∧ x1 ≤ 2147483647) ∧ (0 ≤ x2 ∧ x2 ≤ 10) ∧ (0 ≤ x3 ∧ x3 ≤ 10) ∧ True) (eC : (σ.1 3 0).toInt = x2 ∧ (σ.1 7 0).toInt = x3 ∧ True)
    (l0 : ∀ (τ : pm_S) (y : Nat → Int), an_GB pm_B τ → FQ [] σ τ → ((0 ≤ x0 ∧ x0 ≤ 9) ∧ ((-2147483648) ≤ x1 ∧ x1 ≤ 2147483647) ∧ (0 ≤ x2 ∧ x2 ≤ 10) ∧ (0 ≤ x3 ∧ x3 ≤ 10) ∧ True) → (True) → (True) → ((τ.1 3 0).toInt = x2 ∧ (τ.1 7 0).toInt = x3 ∧ True) → Ok 134 21 10 [.ref 0, .int (Int32.ofInt (x0)), .int (Int32.ofInt (x1))] [.int (Int32.ofInt (x1)), .ref 3] τ Q)
    : Ok 134 21 5 [.ref 0, .int (Int32.ofInt (x0)), .int (Int32.ofInt (x1))] [.int (Int32.ofInt 1)] σ Q := by
  refine an_seg (B := pm_B) (F := []) (T := []) (S := []) (fun _ h => absurd h List.not_mem_nil) (k := 134) (d := 20) (cs := [4, 10, 20]) 7 5 4 [(0, 0, 9), (1, (-2147483648), 2147483647), (2, 0, 10), (3, 0, 10)] [(3, (1, 0, 0), (0, 2, 0)), (7, (1, 0, 0), (0, 3, 0))] [(2, 0, 0), (0, 0, 0), (0, 1, 0)] [(1, 0, 1)] [(10, [(2, 0, 0), (0, 0, 0), (0, 1, 0)], [(0, 1, 0), (2, 3, 0)], [(0, 0, 9), (1, (-2147483648), 2147483647), (2, 0, 10), (3, 0, 10)], [], [], [(3, (1, 0, 0), (0, 2, 0)), (7, (1, 0, 0), (0, 3, 0))])] (by decide +kernel) (ρ0 := (fun s => [x0, x1, x2, x3].getD s 0)) hB eF eC ⟨rfl, ⟨rfl, ⟨rfl, trivial⟩⟩⟩ ⟨rfl, trivial⟩ ?_
  refine List.forall_mem_cons.mpr ⟨?_, fun _ h => absurd h List.not_mem_nil⟩
  · intro ρ τ Lc stc hx g1 g2 g3 g4 g5 g6 g7 g8
    have e0 : ρ 0 = x0 := hx 0 (by decide)
    have e1 : ρ 1 = x1 := hx 1 (by decide)
    have e2 : ρ 2 = x2 := hx 2 (by decide)
    have e3 : ρ 3 = x3 := hx 3 (by decide)
    subst e0
    subst e1
    subst e2
    subst e3
    have g7 := g7 (by decide)
    match Lc, stc, g7, g8 with
    | [v0, v1, v2], [w0, w1], ⟨hv0, hv1, hv2, _⟩, ⟨hw0, hw1, _⟩ =>
      cases hv0
      cases hv1
      cases hv2
      cases hw0
      cases hw1
      exact l0 τ ρ  g1 g2 g3 g4 g5 g6
set_option maxRecDepth 100000 in
theorem zxc_goal_s3 {σ : pm_S} {Q : Option Value → pm_S → Prop} (x0 x1 x2 x3 : Int)  (hB : an_GB pm_B σ) (eF : (0 ≤ x0 ∧ x0 ≤ 9) ∧ ((-2147483648) ≤ x1 ∧ x1 ≤ 2147483647) ∧ (0 ≤ x2 ∧ x2 ≤ 10) ∧ (0 ≤ x3 ∧ x3 ≤ 10) ∧ True) (eC : (σ.1 3 0).toInt = x2 ∧ (σ.1 7 0).toInt = x3 ∧ True)
    (l0 : ∀ (τ : pm_S) (y : Nat → Int), an_GB pm_B τ → FQ [] σ τ → ((0 ≤ x0 ∧ x0 ≤ 9) ∧ ((-2147483648) ≤ x1 ∧ x1 ≤ 2147483647) ∧ (0 ≤ x2 ∧ x2 ≤ 10) ∧ (0 ≤ x3 ∧ x3 ≤ 10) ∧ True) → (True) → (True) → ((τ.1 3 0).toInt = x2 ∧ (τ.1 7 0).toInt = x3 ∧ True) → Q (some (.int (Int32.ofInt 0))) τ)
    : Ok 134 21 11 [.ref 0, .int (Int32.ofInt (x0)), .int (Int32.ofInt (x1))] [.int (Int32.ofInt 0)] σ Q := by
  refine an_seg (B := pm_B) (F := []) (T := []) (S := []) (fun _ h => absurd h List.not_mem_nil) (k := 134) (d := 20) (cs := [4, 10, 20]) 5 11 4 [(0, 0, 9), (1, (-2147483648), 2147483647), (2, 0, 10), (3, 0, 10)] [(3, (1, 0, 0), (0, 2, 0)), (7, (1, 0, 0), (0, 3, 0))] [(2, 0, 0), (0, 0, 0), (0, 1, 0)] [(1, 0, 0)] [(9999, [], [(1, 0, 0)], [(0, 0, 9), (1, (-2147483648), 2147483647), (2, 0, 10), (3, 0, 10)], [], [], [(3, (1, 0, 0), (0, 2, 0)), (7, (1, 0, 0), (0, 3, 0))])] (by decide +kernel) (ρ0 := (fun s => [x0, x1, x2, x3].getD s 0)) hB eF eC ⟨rfl, ⟨rfl, ⟨rfl, trivial⟩⟩⟩ ⟨rfl, trivial⟩ ?_
  refine List.forall_mem_cons.mpr ⟨?_, fun _ h => absurd h List.not_mem_nil⟩
  · intro ρ τ Lc stc hx g1 g2 g3 g4 g5 g6 g7 g8
    have e0 : ρ 0 = x0 := hx 0 (by decide)
    have e1 : ρ 1 = x1 := hx 1 (by decide)
    have e2 : ρ 2 = x2 := hx 2 (by decide)
    have e3 : ρ 3 = x3 := hx 3 (by decide)
    subst e0
    subst e1
    subst e2
    subst e3
    match stc, g8 with
    | [_], ⟨h, _⟩ => cases h; exact l0 τ ρ g1 g2 g3 g4 g5 g6
set_option maxRecDepth 100000 in
theorem zxc_goal_s4 {σ : pm_S} {Q : Option Value → pm_S → Prop} (x0 x1 x2 x3 : Int)  (hB : an_GB pm_B σ) (eF : (0 ≤ x0 ∧ x0 ≤ 9) ∧ (0 ≤ x1 ∧ x1 ≤ 9) ∧ (0 ≤ x2 ∧ x2 ≤ 10) ∧ (0 ≤ x3 ∧ x3 ≤ 10) ∧ True) (eC : (σ.1 3 0).toInt = x2 ∧ (σ.1 7 0).toInt = x3 ∧ True)
    (l0 : ∀ (τ : pm_S) (y : Nat → Int), an_GB pm_B τ → FQ [] σ τ → ((0 ≤ x0 ∧ x0 ≤ 9) ∧ (0 ≤ x1 ∧ x1 ≤ 9) ∧ (0 ≤ x2 ∧ x2 ≤ 10) ∧ (0 ≤ x3 ∧ x3 ≤ 10) ∧ True) → (True) → (True) → ((τ.1 3 0).toInt = x2 ∧ (τ.1 7 0).toInt = x3 ∧ True) → Ok 134 21 20 [.ref 0, .int (Int32.ofInt (x0)), .int (Int32.ofInt (x1))] [.int (Int32.ofInt (x1)), .int (Int32.ofInt (x0)), .ref 11] τ Q)
    : Ok 134 21 11 [.ref 0, .int (Int32.ofInt (x0)), .int (Int32.ofInt (x1))] [.int (Int32.ofInt 1)] σ Q := by
  refine an_seg (B := pm_B) (F := []) (T := []) (S := []) (fun _ h => absurd h List.not_mem_nil) (k := 134) (d := 20) (cs := [4, 10, 20]) 9 11 4 [(0, 0, 9), (1, 0, 9), (2, 0, 10), (3, 0, 10)] [(3, (1, 0, 0), (0, 2, 0)), (7, (1, 0, 0), (0, 3, 0))] [(2, 0, 0), (0, 0, 0), (0, 1, 0)] [(1, 0, 1)] [(20, [(2, 0, 0), (0, 0, 0), (0, 1, 0)], [(0, 1, 0), (0, 0, 0), (2, 11, 0)], [(0, 0, 9), (1, 0, 9), (2, 0, 10), (3, 0, 10)], [], [], [(3, (1, 0, 0), (0, 2, 0)), (7, (1, 0, 0), (0, 3, 0))])] (by decide +kernel) (ρ0 := (fun s => [x0, x1, x2, x3].getD s 0)) hB eF eC ⟨rfl, ⟨rfl, ⟨rfl, trivial⟩⟩⟩ ⟨rfl, trivial⟩ ?_
  refine List.forall_mem_cons.mpr ⟨?_, fun _ h => absurd h List.not_mem_nil⟩
  · intro ρ τ Lc stc hx g1 g2 g3 g4 g5 g6 g7 g8
    have e0 : ρ 0 = x0 := hx 0 (by decide)
    have e1 : ρ 1 = x1 := hx 1 (by decide)
    have e2 : ρ 2 = x2 := hx 2 (by decide)
    have e3 : ρ 3 = x3 := hx 3 (by decide)
    subst e0
    subst e1
    subst e2
    subst e3
    have g7 := g7 (by decide)
    match Lc, stc, g7, g8 with
    | [v0, v1, v2], [w0, w1, w2], ⟨hv0, hv1, hv2, _⟩, ⟨hw0, hw1, hw2, _⟩ =>
      cases hv0
      cases hv1
      cases hv2
      cases hw0
      cases hw1
      cases hw2
      exact l0 τ ρ  g1 g2 g3 g4 g5 g6
set_option maxRecDepth 100000 in
theorem zxc_goal_s5 {σ : pm_S} {Q : Option Value → pm_S → Prop} (x0 x1 x2 x3 : Int)  (hB : an_GB pm_B σ) (eF : (0 ≤ x0 ∧ x0 ≤ 9) ∧ (0 ≤ x1 ∧ x1 ≤ 9) ∧ (0 ≤ x2 ∧ x2 ≤ 10) ∧ (0 ≤ x3 ∧ x3 ≤ 10) ∧ True) (eC : (σ.1 3 0).toInt = x2 ∧ (σ.1 7 0).toInt = x3 ∧ True)
    (l0 : ∀ (τ : pm_S) (y : Nat → Int), an_GB pm_B τ → FQ [] σ τ → ((0 ≤ x0 ∧ x0 ≤ 9) ∧ (0 ≤ x1 ∧ x1 ≤ 9) ∧ (0 ≤ x2 ∧ x2 ≤ 10) ∧ (0 ≤ x3 ∧ x3 ≤ 10) ∧ True) → (True) → (True) → ((τ.1 3 0).toInt = x2 ∧ (τ.1 7 0).toInt = x3 ∧ True) → Q (some (.int (Int32.ofInt 1))) τ)
    : Ok 134 21 21 [.ref 0, .int (Int32.ofInt (x0)), .int (Int32.ofInt (x1))] [] σ Q := by
  refine an_seg (B := pm_B) (F := []) (T := []) (S := []) (fun _ h => absurd h List.not_mem_nil) (k := 134) (d := 20) (cs := [4, 10, 20]) 4 21 4 [(0, 0, 9), (1, 0, 9), (2, 0, 10), (3, 0, 10)] [(3, (1, 0, 0), (0, 2, 0)), (7, (1, 0, 0), (0, 3, 0))] [(2, 0, 0), (0, 0, 0), (0, 1, 0)] [] [(9999, [], [(1, 0, 1)], [(0, 0, 9), (1, 0, 9), (2, 0, 10), (3, 0, 10)], [], [], [(3, (1, 0, 0), (0, 2, 0)), (7, (1, 0, 0), (0, 3, 0))])] (by decide +kernel) (ρ0 := (fun s => [x0, x1, x2, x3].getD s 0)) hB eF eC ⟨rfl, ⟨rfl, ⟨rfl, trivial⟩⟩⟩ trivial ?_
  refine List.forall_mem_cons.mpr ⟨?_, fun _ h => absurd h List.not_mem_nil⟩
  · intro ρ τ Lc stc hx g1 g2 g3 g4 g5 g6 g7 g8
    have e0 : ρ 0 = x0 := hx 0 (by decide)
    have e1 : ρ 1 = x1 := hx 1 (by decide)
    have e2 : ρ 2 = x2 := hx 2 (by decide)
    have e3 : ρ 3 = x3 := hx 3 (by decide)
    subst e0
    subst e1
    subst e2
    subst e3
    match stc, g8 with
    | [_], ⟨h, _⟩ => cases h; exact l0 τ ρ g1 g2 g3 g4 g5 g6
set_option maxRecDepth 20000 in
theorem zxc_goal {σ : pm_S} (x0 x1 x2 x3 : Int) (hB : an_GB pm_B σ) (g0 : (-2147483648) ≤ x0 ∧ x0 ≤ 2147483647) (g1 : (-2147483648) ≤ x1 ∧ x1 ≤ 2147483647) (g2 : 0 ≤ x2 ∧ x2 ≤ 10) (g3 : 0 ≤ x3 ∧ x3 ≤ 10) (e0 : (σ.1 3 0).toInt = x2) (e1 : (σ.1 7 0).toInt = x3) : Sp 134 21 [.ref 0, .int (Int32.ofInt (x0)), .int (Int32.ofInt (x1))] σ (fun r τ => an_GB pm_B τ ∧ ((¬ (0 ≤ x0 ∧ x0 < x3 ∧ 0 ≤ x1 ∧ x1 < x2) ∧ r = some (.int (Int32.ofInt (0))) ∧ puF [] [] σ τ) ∨ ((0 ≤ x0 ∧ x0 < x3 ∧ 0 ≤ x1 ∧ x1 < x2) ∧ r = some (.int (Int32.ofInt (1))) ∧ puF [] [(11, (x0).toNat, Int32.ofInt (x1))] σ τ))) := by
  refine Sp.at rfl rfl ?_
  refine zxc_goal_s0 x0 x1 x2 x3 hB ⟨g0, g1, g2, g3, trivial⟩ ⟨e0, e1, trivial⟩ ?_
  · intro τ1 y1  hB1 hF1 f1 rr1 _ c1
    obtain ⟨f1_0, f1_1, f1_2, f1_3, -⟩ := f1
    obtain ⟨c1_0, c1_1, -⟩ := c1
    have hG1 : puF [] [] σ τ1 := puF.fq rfl (puF.rf _ _) hF1
    refine Ok.cv rfl rfl rfl rfl rfl rfl rfl ?_
    refine (x_h61 (x0) (x3) hB1 (by omega) c1_1).use (by decide) (fun r2 τ2 q2 => ?_)
    obtain ⟨hB2, hF2, ⟨q2, rfl, d2⟩ | ⟨q2, rfl, d2⟩⟩ := q2
    · have hG2 : puF [] [] σ τ2 := puF.fq rfl hG1 hF2
      have e2_3_0 : (τ2.1 3 0).toInt = x2 := (congrArg Int32.toInt (show τ2.1 3 0 = τ1.1 3 0 from hF2 3 0 rfl)).trans c1_0
      have e2_7_0 : (τ2.1 7 0).toInt = x3 := (congrArg Int32.toInt (show τ2.1 7 0 = τ1.1 7 0 from hF2 7 0 rfl)).trans c1_1
      refine zxc_goal_s1 x0 x1 x2 x3 hB2 ⟨f1_0, f1_1, f1_2, f1_3, trivial⟩ ⟨e2_3_0, e2_7_0, trivial⟩ ?_
      · intro τ3 y3  hB3 hF3 f3 rr3 _ c3
        obtain ⟨f3_0, f3_1, f3_2, f3_3, -⟩ := f3
        clear f1_0 f1_1 f1_2 f1_3 e2_3_0 e2_7_0
        obtain ⟨c3_0, c3_1, -⟩ := c3
        have hG3 : puF [] [] σ τ3 := puF.fq rfl hG2 hF3
        exact ⟨hB3, Or.inl ⟨by omega, rfl, hG3⟩⟩
    · have hG2 : puF [] [] σ τ2 := puF.fq rfl hG1 hF2
      have e2_3_0 : (τ2.1 3 0).toInt = x2 := (congrArg Int32.toInt (show τ2.1 3 0 = τ1.1 3 0 from hF2 3 0 rfl)).trans c1_0
      have e2_7_0 : (τ2.1 7 0).toInt = x3 := (congrArg Int32.toInt (show τ2.1 7 0 = τ1.1 7 0 from hF2 7 0 rfl)).trans c1_1
      refine zxc_goal_s2 x0 x1 x2 x3 hB2 ⟨by omega, f1_1, f1_2, f1_3, trivial⟩ ⟨e2_3_0, e2_7_0, trivial⟩ ?_
      · intro τ4 y4  hB4 hF4 f4 rr4 _ c4
        obtain ⟨f4_0, f4_1, f4_2, f4_3, -⟩ := f4
        clear f1_0 f1_1 f1_2 f1_3 e2_3_0 e2_7_0
        obtain ⟨c4_0, c4_1, -⟩ := c4
        have hG4 : puF [] [] σ τ4 := puF.fq rfl hG2 hF4
        refine Ok.cv rfl rfl rfl rfl rfl rfl rfl ?_
        refine (x_h82 (x1) (x2) hB4 (by omega) c4_0).use (by decide) (fun r5 τ5 q5 => ?_)
        obtain ⟨hB5, hF5, ⟨q5, rfl, d5⟩ | ⟨q5, rfl, d5⟩⟩ := q5
        · have hG5 : puF [] [] σ τ5 := puF.fq rfl hG4 hF5
          have e5_3_0 : (τ5.1 3 0).toInt = x2 := (congrArg Int32.toInt (show τ5.1 3 0 = τ4.1 3 0 from hF5 3 0 rfl)).trans c4_0
          have e5_7_0 : (τ5.1 7 0).toInt = x3 := (congrArg Int32.toInt (show τ5.1 7 0 = τ4.1 7 0 from hF5 7 0 rfl)).trans c4_1
          refine zxc_goal_s3 x0 x1 x2 x3 hB5 ⟨f4_0, f4_1, f4_2, f4_3, trivial⟩ ⟨e5_3_0, e5_7_0, trivial⟩ ?_
          · intro τ6 y6  hB6 hF6 f6 rr6 _ c6
            obtain ⟨f6_0, f6_1, f6_2, f6_3, -⟩ := f6
            clear f4_0 f4_1 f4_2 f4_3 e5_3_0 e5_7_0
            obtain ⟨c6_0, c6_1, -⟩ := c6
            have hG6 : puF [] [] σ τ6 := puF.fq rfl hG5 hF6
            exact ⟨hB6, Or.inl ⟨by omega, rfl, hG6⟩⟩
        · have hG5 : puF [] [] σ τ5 := puF.fq rfl hG4 hF5
          have e5_3_0 : (τ5.1 3 0).toInt = x2 := (congrArg Int32.toInt (show τ5.1 3 0 = τ4.1 3 0 from hF5 3 0 rfl)).trans c4_0
          have e5_7_0 : (τ5.1 7 0).toInt = x3 := (congrArg Int32.toInt (show τ5.1 7 0 = τ4.1 7 0 from hF5 7 0 rfl)).trans c4_1
          refine zxc_goal_s4 x0 x1 x2 x3 hB5 ⟨f4_0, by omega, f4_2, f4_3, trivial⟩ ⟨e5_3_0, e5_7_0, trivial⟩ ?_
          · intro τ7 y7  hB7 hF7 f7 rr7 _ c7
            obtain ⟨f7_0, f7_1, f7_2, f7_3, -⟩ := f7
            clear f4_0 f4_1 f4_2 f4_3 e5_3_0 e5_7_0
            obtain ⟨c7_0, c7_1, -⟩ := c7
            have hG7 : puF [] [] σ τ7 := puF.fq rfl hG5 hF7
            refine Ok.ast (n := 10) rfl rfl rfl (by decide) (by omega) (by omega) ?_
            have hG8 : puF [] [(11, (x0).toNat, Int32.ofInt (x1))] σ (put τ7 11 (x0).toNat (Int32.ofInt (x1))) := puF.put hG7
            have hB8 : an_GB pm_B (put τ7 11 (x0).toNat (Int32.ofInt (x1))) := put_GB hB7 (by
              show (0 : Int) ≤ (Int32.ofInt (x1)).toInt ∧ (Int32.ofInt (x1)).toInt ≤ 9
              rw [ti_of (by omega) (by omega)]
              omega)
            have e8_3_0 : ((put τ7 11 (x0).toNat (Int32.ofInt (x1))).1 3 0).toInt = x2 := (congrArg Int32.toInt (put_nr (by decide))).trans c7_0
            have e8_7_0 : ((put τ7 11 (x0).toNat (Int32.ofInt (x1))).1 7 0).toInt = x3 := (congrArg Int32.toInt (put_nr (by decide))).trans c7_1
            generalize put τ7 11 (x0).toNat (Int32.ofInt (x1)) = υ8 at hG8 hB8 e8_3_0 e8_7_0 ⊢
            clear c7_0 c7_1
            refine zxc_goal_s5 x0 x1 x2 x3 hB8 ⟨f7_0, f7_1, f7_2, f7_3, trivial⟩ ⟨e8_3_0, e8_7_0, trivial⟩ ?_
            · intro τ9 y9  hB9 hF9 f9 rr9 _ c9
              obtain ⟨f9_0, f9_1, f9_2, f9_3, -⟩ := f9
              clear f7_0 f7_1 f7_2 f7_3 e8_3_0 e8_7_0
              obtain ⟨c9_0, c9_1, -⟩ := c9
              have hG9 : puF [] [(11, (x0).toNat, Int32.ofInt (x1))] σ τ9 := puF.fq rfl hG8 hF9
              exact ⟨hB9, Or.inr ⟨by omega, rfl, hG9⟩⟩
set_option maxRecDepth 100000 in
theorem zxm_goal_s0 {σ : pm_S} {Q : Option Value → pm_S → Prop} (x0 x1 x2 x3 : Int)  (hB : an_GB pm_B σ) (eF : ((-2147483648) ≤ x0 ∧ x0 ≤ 2147483647) ∧ ((-2147483648) ≤ x1 ∧ x1 ≤ 2147483647) ∧ (0 ≤ x2 ∧ x2 ≤ 10) ∧ (0 ≤ x3 ∧ x3 ≤ 10) ∧ True) (eC : (σ.1 93 2).toInt = x2 ∧ (σ.1 93 5).toInt = x3 ∧ True)
    (l0 : ∀ (τ : pm_S) (y : Nat → Int), an_GB pm_B τ → FQ [(93, 0)] σ τ → (((-2147483648) ≤ x0 ∧ x0 ≤ 2147483647) ∧ ((-2147483648) ≤ x1 ∧ x1 ≤ 2147483647) ∧ (0 ≤ x2 ∧ x2 ≤ 10) ∧ (0 ≤ x3 ∧ x3 ≤ 10) ∧ True) → (True) → (True) → ((τ.1 93 2).toInt = x2 ∧ (τ.1 93 5).toInt = x3 ∧ True) → Ok 173 21 5 [.ref 93, .int (Int32.ofInt (x0)), .int (Int32.ofInt (x1))] [.int (Int32.ofInt (x0)), .ref 93] τ Q)
    : Ok 173 21 0 [.ref 93, .int (Int32.ofInt (x0)), .int (Int32.ofInt (x1))] [] σ Q := by
  refine an_seg (B := pm_B) (F := [(93, 0)]) (T := []) (S := []) (fun _ h => absurd h List.not_mem_nil) (k := 173) (d := 20) (cs := [5, 9, 17]) 7 0 4 [(0, (-2147483648), 2147483647), (1, (-2147483648), 2147483647), (2, 0, 10), (3, 0, 10)] [(93, (1, 0, 2), (0, 2, 0)), (93, (1, 0, 5), (0, 3, 0))] [(2, 93, 0), (0, 0, 0), (0, 1, 0)] [] [(5, [(2, 93, 0), (0, 0, 0), (0, 1, 0)], [(0, 0, 0), (2, 93, 0)], [(0, (-2147483648), 2147483647), (1, (-2147483648), 2147483647), (2, 0, 10), (3, 0, 10)], [], [], [(93, (1, 0, 2), (0, 2, 0)), (93, (1, 0, 5), (0, 3, 0))])] (by decide +kernel) (ρ0 := (fun s => [x0, x1, x2, x3].getD s 0)) hB eF eC ⟨rfl, ⟨rfl, ⟨rfl, trivial⟩⟩⟩ trivial ?_
  refine List.forall_mem_cons.mpr ⟨?_, fun _ h => absurd h List.not_mem_nil⟩
  · intro ρ τ Lc stc hx g1 g2 g3 g4 g5 g6 g7 g8
    have e0 : ρ 0 = x0 := hx 0 (by decide)
    have e1 : ρ 1 = x1 := hx 1 (by decide)
    have e2 : ρ 2 = x2 := hx 2 (by decide)
    have e3 : ρ 3 = x3 := hx 3 (by decide)
    subst e0
    subst e1
    subst e2
    subst e3
    have g7 := g7 (by decide)
    match Lc, stc, g7, g8 with
    | [v0, v1, v2], [w0, w1], ⟨hv0, hv1, hv2, _⟩, ⟨hw0, hw1, _⟩ =>
      cases hv0
      cases hv1
      cases hv2
      cases hw0
      cases hw1
      exact l0 τ ρ  g1 g2 g3 g4 g5 g6
set_option maxRecDepth 100000 in
theorem zxm_goal_s1 {σ : pm_S} {Q : Option Value → pm_S → Prop} (x0 x1 x2 x3 : Int)  (hB : an_GB pm_B σ) (eF : ((-2147483648) ≤ x0 ∧ x0 ≤ 2147483647) ∧ ((-2147483648) ≤ x1 ∧ x1 ≤ 2147483647) ∧ (0 ≤ x2 ∧ x2 ≤ 10) ∧ (0 ≤ x3 ∧ x3 ≤ 10) ∧ True) (eC : (σ.1 93 2).toInt = x2 ∧ (σ.1 93 5).toInt = x3 ∧ True)
    (l0 : ∀ (τ : pm_S) (y : Nat → Int), an_GB pm_B τ → FQ [(93, 0)] σ τ → (((-2147483648) ≤ x0 ∧ x0 ≤ 2147483647) ∧ ((-2147483648) ≤ x1 ∧ x1 ≤ 2147483647) ∧ (0 ≤ x2 ∧ x2 ≤ 10) ∧ (0 ≤ x3 ∧ x3 ≤ 10) ∧ True) → (True) → (True) → ((τ.1 93 2).toInt = x2 ∧ (τ.1 93 5).toInt = x3 ∧ True) → Q (some (.int (Int32.ofInt 0))) τ)
    : Ok 173 21 6 [.ref 93, .int (Int32.ofInt (x0)), .int (Int32.ofInt (x1))] [.int (Int32.ofInt 0)] σ Q := by
  refine an_seg (B := pm_B) (F := [(93, 0)]) (T := []) (S := []) (fun _ h => absurd h List.not_mem_nil) (k := 173) (d := 20) (cs := [5, 9, 17]) 5 6 4 [(0, (-2147483648), 2147483647), (1, (-2147483648), 2147483647), (2, 0, 10), (3, 0, 10)] [(93, (1, 0, 2), (0, 2, 0)), (93, (1, 0, 5), (0, 3, 0))] [(2, 93, 0), (0, 0, 0), (0, 1, 0)] [(1, 0, 0)] [(9999, [], [(1, 0, 0)], [(0, (-2147483648), 2147483647), (1, (-2147483648), 2147483647), (2, 0, 10), (3, 0, 10)], [], [], [(93, (1, 0, 2), (0, 2, 0)), (93, (1, 0, 5), (0, 3, 0))])] (by decide +kernel) (ρ0 := (fun s => [x0, x1, x2, x3].getD s 0)) hB eF eC ⟨rfl, ⟨rfl, ⟨rfl, trivial⟩⟩⟩ ⟨rfl, trivial⟩ ?_
  refine List.forall_mem_cons.mpr ⟨?_, fun _ h => absurd h List.not_mem_nil⟩
  · intro ρ τ Lc stc hx g1 g2 g3 g4 g5 g6 g7 g8
    have e0 : ρ 0 = x0 := hx 0 (by decide)
    have e1 : ρ 1 = x1 := hx 1 (by decide)
    have e2 : ρ 2 = x2 := hx 2 (by decide)
    have e3 : ρ 3 = x3 := hx 3 (by decide)
    subst e0
    subst e1
    subst e2
    subst e3
    match stc, g8 with
    | [_], ⟨h, _⟩ => cases h; exact l0 τ ρ g1 g2 g3 g4 g5 g6
set_option maxRecDepth 100000 in
theorem zxm_goal_s2 {σ : pm_S} {Q : Option Value → pm_S → Prop} (x0 x1 x2 x3 : Int)  (hB : an_GB pm_B σ) (eF : (0 ≤ x0 ∧ x0 ≤ 9) ∧ ((-2147483648) ≤ x1 ∧ x1 ≤ 2147483647) ∧ (0 ≤ x2 ∧ x2 ≤ 10) ∧ (0 ≤ x3 ∧ x3 ≤ 10) ∧ True) (eC : (σ.1 93 2).toInt = x2 ∧ (σ.1 93 5).toInt = x3 ∧ True)
    (l0 : ∀ (τ : pm_S) (y : Nat → Int), an_GB pm_B τ → FQ [(93, 0)] σ τ → ((0 ≤ x0 ∧ x0 ≤ 9) ∧ ((-2147483648) ≤ x1 ∧ x1 ≤ 2147483647) ∧ (0 ≤ x2 ∧ x2 ≤ 10) ∧ (0 ≤ x3 ∧ x3 ≤ 10) ∧ True) → (True) → (True) → ((τ.1 93 2).toInt = x2 ∧ (τ.1 93 5).toInt = x3 ∧ True) → Ok 173 21 9 [.ref 93, .int (Int32.ofInt (x0)), .int (Int32.ofInt (x1))] [.int (Int32.ofInt (x1)), .ref 93] τ Q)
    : Ok 173 21 6 [.ref 93, .int (Int32.ofInt (x0)), .int (Int32.ofInt (x1))] [.int (Int32.ofInt 1)] σ Q := by
  refine an_seg (B := pm_B) (F := [(93, 0)]) (T := []) (S := []) (fun _ h => absurd h List.not_mem_nil) (k := 173) (d := 20) (cs := [5, 9, 17]) 5 6 4 [(0, 0, 9), (1, (-2147483648), 2147483647), (2, 0, 10), (3, 0, 10)] [(93, (1, 0, 2), (0, 2, 0)), (93, (1, 0, 5), (0, 3, 0))] [(2, 93, 0), (0, 0, 0), (0, 1, 0)] [(1, 0, 1)] [(9, [(2, 93, 0), (0, 0, 0), (0, 1, 0)], [(0, 1, 0), (2, 93, 0)], [(0, 0, 9), (1, (-2147483648), 2147483647), (2, 0, 10), (3, 0, 10)], [], [], [(93, (1, 0, 2), (0, 2, 0)), (93, (1, 0, 5), (0, 3, 0))])] (by decide +kernel) (ρ0 := (fun s => [x0, x1, x2, x3].getD s 0)) hB eF eC ⟨rfl, ⟨rfl, ⟨rfl, trivial⟩⟩⟩ ⟨rfl, trivial⟩ ?_
  refine List.forall_mem_cons.mpr ⟨?_, fun _ h => absurd h List.not_mem_nil⟩
  · intro ρ τ Lc stc hx g1 g2 g3 g4 g5 g6 g7 g8
    have e0 : ρ 0 = x0 := hx 0 (by decide)
    have e1 : ρ 1 = x1 := hx 1 (by decide)
    have e2 : ρ 2 = x2 := hx 2 (by decide)
    have e3 : ρ 3 = x3 := hx 3 (by decide)
    subst e0
    subst e1
    subst e2
    subst e3
    have g7 := g7 (by decide)
    match Lc, stc, g7, g8 with
    | [v0, v1, v2], [w0, w1], ⟨hv0, hv1, hv2, _⟩, ⟨hw0, hw1, _⟩ =>
      cases hv0
      cases hv1
      cases hv2
      cases hw0
      cases hw1
      exact l0 τ ρ  g1 g2 g3 g4 g5 g6
set_option maxRecDepth 100000 in
theorem zxm_goal_s3 {σ : pm_S} {Q : Option Value → pm_S → Prop} (x0 x1 x2 x3 : Int)  (hB : an_GB pm_B σ) (eF : (0 ≤ x0 ∧ x0 ≤ 9) ∧ ((-2147483648) ≤ x1 ∧ x1 ≤ 2147483647) ∧ (0 ≤ x2 ∧ x2 ≤ 10) ∧ (0 ≤ x3 ∧ x3 ≤ 10) ∧ True) (eC : (σ.1 93 2).toInt = x2 ∧ (σ.1 93 5).toInt = x3 ∧ True)
    (l0 : ∀ (τ : pm_S) (y : Nat → Int), an_GB pm_B τ → FQ [(93, 0)] σ τ → ((0 ≤ x0 ∧ x0 ≤ 9) ∧ ((-2147483648) ≤ x1 ∧ x1 ≤ 2147483647) ∧ (0 ≤ x2 ∧ x2 ≤ 10) ∧ (0 ≤ x3 ∧ x3 ≤ 10) ∧ True) → (True) → (True) → ((τ.1 93 2).toInt = x2 ∧ (τ.1 93 5).toInt = x3 ∧ True) → Q (some (.int (Int32.ofInt 0))) τ)
    : Ok 173 21 10 [.ref 93, .int (Int32.ofInt (x0)), .int (Int32.ofInt (x1))] [.int (Int32.ofInt 0)] σ Q := by
  refine an_seg (B := pm_B) (F := [(93, 0)]) (T := []) (S := []) (fun _ h => absurd h List.not_mem_nil) (k := 173) (d := 20) (cs := [5, 9, 17]) 5 10 4 [(0, 0, 9), (1, (-2147483648), 2147483647), (2, 0, 10), (3, 0, 10)] [(93, (1, 0, 2), (0, 2, 0)), (93, (1, 0, 5), (0, 3, 0))] [(2, 93, 0), (0, 0, 0), (0, 1, 0)] [(1, 0, 0)] [(9999, [], [(1, 0, 0)], [(0, 0, 9), (1, (-2147483648), 2147483647), (2, 0, 10), (3, 0, 10)], [], [], [(93, (1, 0, 2), (0, 2, 0)), (93, (1, 0, 5), (0, 3, 0))])] (by decide +kernel) (ρ0 := (fun s => [x0, x1, x2, x3].getD s 0)) hB eF eC ⟨rfl, ⟨rfl, ⟨rfl, trivial⟩⟩⟩ ⟨rfl, trivial⟩ ?_
  refine List.forall_mem_cons.mpr ⟨?_, fun _ h => absurd h List.not_mem_nil⟩
  · intro ρ τ Lc stc hx g1 g2 g3 g4 g5 g6 g7 g8
    have e0 : ρ 0 = x0 := hx 0 (by decide)
    have e1 : ρ 1 = x1 := hx 1 (by decide)
    have e2 : ρ 2 = x2 := hx 2 (by decide)
    have e3 : ρ 3 = x3 := hx 3 (by decide)
    subst e0
    subst e1
    subst e2
    subst e3
    match stc, g8 with
    | [_], ⟨h, _⟩ => cases h; exact l0 τ ρ g1 g2 g3 g4 g5 g6
set_option maxRecDepth 100000 in
theorem zxm_goal_s4 {σ : pm_S} {Q : Option Value → pm_S → Prop} (x0 x1 x2 x3 : Int)  (hB : an_GB pm_B σ) (eF : (0 ≤ x0 ∧ x0 ≤ 9) ∧ (0 ≤ x1 ∧ x1 ≤ 9) ∧ (0 ≤ x2 ∧ x2 ≤ 10) ∧ (0 ≤ x3 ∧ x3 ≤ 10) ∧ True) (eC : (σ.1 93 2).toInt = x2 ∧ (σ.1 93 5).toInt = x3 ∧ True)
    (l0 : ∀ (τ : pm_S) (y : Nat → Int), an_GB pm_B τ → FQ [(93, 0)] σ τ → ((0 ≤ x0 ∧ x0 ≤ 9) ∧ (0 ≤ x1 ∧ x1 ≤ 9) ∧ (0 ≤ x2 ∧ x2 ≤ 10) ∧ (0 ≤ x3 ∧ x3 ≤ 10) ∧ True) → (True) → (True) → ((τ.1 93 2).toInt = x2 ∧ (τ.1 93 5).toInt = x3 ∧ True) → Ok 173 21 17 [.ref 93, .int (Int32.ofInt (x0)), .int (Int32.ofInt (x1))] [.int (Int32.ofInt (x1)), .int (Int32.ofInt (x0)), .ref 99] τ Q)
    : Ok 173 21 10 [.ref 93, .int (Int32.ofInt (x0)), .int (Int32.ofInt (x1))] [.int (Int32.ofInt 1)] σ Q := by
  refine an_seg (B := pm_B) (F := [(93, 0)]) (T := []) (S := []) (fun _ h => absurd h List.not_mem_nil) (k := 173) (d := 20) (cs := [5, 9, 17]) 7 10 4 [(0, 0, 9), (1, 0, 9), (2, 0, 10), (3, 0, 10)] [(93, (1, 0, 2), (0, 2, 0)), (93, (1, 0, 5), (0, 3, 0))] [(2, 93, 0), (0, 0, 0), (0, 1, 0)] [(1, 0, 1)] [(17, [(2, 93, 0), (0, 0, 0), (0, 1, 0)], [(0, 1, 0), (0, 0, 0), (2, 99, 0)], [(0, 0, 9), (1, 0, 9), (2, 0, 10), (3, 0, 10)], [], [], [(93, (1, 0, 2), (0, 2, 0)), (93, (1, 0, 5), (0, 3, 0))])] (by decide +kernel) (ρ0 := (fun s => [x0, x1, x2, x3].getD s 0)) hB eF eC ⟨rfl, ⟨rfl, ⟨rfl, trivial⟩⟩⟩ ⟨rfl, trivial⟩ ?_
  refine List.forall_mem_cons.mpr ⟨?_, fun _ h => absurd h List.not_mem_nil⟩
  · intro ρ τ Lc stc hx g1 g2 g3 g4 g5 g6 g7 g8
    have e0 : ρ 0 = x0 := hx 0 (by decide)
    have e1 : ρ 1 = x1 := hx 1 (by decide)
    have e2 : ρ 2 = x2 := hx 2 (by decide)
    have e3 : ρ 3 = x3 := hx 3 (by decide)
    subst e0
    subst e1
    subst e2
    subst e3
    have g7 := g7 (by decide)
    match Lc, stc, g7, g8 with
    | [v0, v1, v2], [w0, w1, w2], ⟨hv0, hv1, hv2, _⟩, ⟨hw0, hw1, hw2, _⟩ =>
      cases hv0
      cases hv1
      cases hv2
      cases hw0
      cases hw1
      cases hw2
      exact l0 τ ρ  g1 g2 g3 g4 g5 g6
set_option maxRecDepth 100000 in
theorem zxm_goal_s5 {σ : pm_S} {Q : Option Value → pm_S → Prop} (x0 x1 x2 x3 : Int)  (hB : an_GB pm_B σ) (eF : (0 ≤ x0 ∧ x0 ≤ 9) ∧ (0 ≤ x1 ∧ x1 ≤ 9) ∧ (0 ≤ x2 ∧ x2 ≤ 10) ∧ (0 ≤ x3 ∧ x3 ≤ 10) ∧ True) (eC : (σ.1 93 2).toInt = x2 ∧ (σ.1 93 5).toInt = x3 ∧ True)
    (l0 : ∀ (τ : pm_S) (y : Nat → Int), an_GB pm_B τ → FQ [(93, 0)] σ τ → ((0 ≤ x0 ∧ x0 ≤ 9) ∧ (0 ≤ x1 ∧ x1 ≤ 9) ∧ (0 ≤ x2 ∧ x2 ≤ 10) ∧ (0 ≤ x3 ∧ x3 ≤ 10) ∧ True) → (True) → (True) → ((τ.1 93 2).toInt = x2 ∧ (τ.1 93 5).toInt = x3 ∧ True) → Q (some (.int (Int32.ofInt 1))) τ)
    : Ok 173 21 18 [.ref 93, .int (Int32.ofInt (x0)), .int (Int32.ofInt (x1))] [] σ Q := by
  refine an_seg (B := pm_B) (F := [(93, 0)]) (T := []) (S := []) (fun _ h => absurd h List.not_mem_nil) (k := 173) (d := 20) (cs := [5, 9, 17]) 4 18 4 [(0, 0, 9), (1, 0, 9), (2, 0, 10), (3, 0, 10)] [(93, (1, 0, 2), (0, 2, 0)), (93, (1, 0, 5), (0, 3, 0))] [(2, 93, 0), (0, 0, 0), (0, 1, 0)] [] [(9999, [], [(1, 0, 1)], [(0, 0, 9), (1, 0, 9), (2, 0, 10), (3, 0, 10)], [], [], [(93, (1, 0, 2), (0, 2, 0)), (93, (1, 0, 5), (0, 3, 0))])] (by decide +kernel) (ρ0 := (fun s => [x0, x1, x2, x3].getD s 0)) hB eF eC ⟨rfl, ⟨rfl, ⟨rfl, trivial⟩⟩⟩ trivial ?_
  refine List.forall_mem_cons.mpr ⟨?_, fun _ h => absurd h List.not_mem_nil⟩
  · intro ρ τ Lc stc hx g1 g2 g3 g4 g5 g6 g7 g8
    have e0 : ρ 0 = x0 := hx 0 (by decide)
    have e1 : ρ 1 = x1 := hx 1 (by decide)
    have e2 : ρ 2 = x2 := hx 2 (by decide)
    have e3 : ρ 3 = x3 := hx 3 (by decide)
    subst e0
    subst e1
    subst e2
    subst e3
    match stc, g8 with
    | [_], ⟨h, _⟩ => cases h; exact l0 τ ρ g1 g2 g3 g4 g5 g6
set_option maxRecDepth 20000 in
theorem zxm_goal {σ : pm_S} (x0 x1 x2 x3 : Int) (hB : an_GB pm_B σ) (g0 : (-2147483648) ≤ x0 ∧ x0 ≤ 2147483647) (g1 : (-2147483648) ≤ x1 ∧ x1 ≤ 2147483647) (g2 : 0 ≤ x2 ∧ x2 ≤ 10) (g3 : 0 ≤ x3 ∧ x3 ≤ 10) (e0 : (σ.1 93 2).toInt = x2) (e1 : (σ.1 93 5).toInt = x3) : Sp 173 21 [.ref 93, .int (Int32.ofInt (x0)), .int (Int32.ofInt (x1))] σ (fun r τ => an_GB pm_B τ ∧ ((¬ (0 ≤ x0 ∧ x0 < x3 ∧ 0 ≤ x1 ∧ x1 < x2) ∧ r = some (.int (Int32.ofInt (0))) ∧ puF [(93, 0)] [] σ τ) ∨ ((0 ≤ x0 ∧ x0 < x3 ∧ 0 ≤ x1 ∧ x1 < x2) ∧ r = some (.int (Int32.ofInt (1))) ∧ puF [(93, 0)] [(99, (x0).toNat, Int32.ofInt (x1))] σ τ))) := by
  refine Sp.at rfl rfl ?_
  refine zxm_goal_s0 x0 x1 x2 x3 hB ⟨g0, g1, g2, g3, trivial⟩ ⟨e0, e1, trivial⟩ ?_
  · intro τ1 y1  hB1 hF1 f1 rr1 _ c1
    obtain ⟨f1_0, f1_1, f1_2, f1_3, -⟩ := f1
    obtain ⟨c1_0, c1_1, -⟩ := c1
    have hG1 : puF [(93, 0)] [] σ τ1 := puF.fq rfl (puF.rf _ _) hF1
    refine Ok.cv rfl rfl rfl rfl rfl rfl rfl ?_
    refine (x_h164 (x0) (x3) hB1 (by omega) c1_1).use (by decide) (fun r2 τ2 q2 => ?_)
    obtain ⟨hB2, hF2, ⟨q2, rfl, d2⟩ | ⟨q2, rfl, d2⟩⟩ := q2
    · have hG2 : puF [(93, 0)] [] σ τ2 := puF.fq rfl hG1 hF2
      have e2_93_2 : (τ2.1 93 2).toInt = x2 := (congrArg Int32.toInt (show τ2.1 93 2 = τ1.1 93 2 from hF2 93 2 rfl)).trans c1_0
      have e2_93_5 : (τ2.1 93 5).toInt = x3 := (congrArg Int32.toInt (show τ2.1 93 5 = τ1.1 93 5 from hF2 93 5 rfl)).trans c1_1
      refine zxm_goal_s1 x0 x1 x2 x3 hB2 ⟨f1_0, f1_1, f1_2, f1_3, trivial⟩ ⟨e2_93_2, e2_93_5, trivial⟩ ?_
      · intro τ3 y3  hB3 hF3 f3 rr3 _ c3
        obtain ⟨f3_0, f3_1, f3_2, f3_3, -⟩ := f3
        clear f1_0 f1_1 f1_2 f1_3 e2_93_2 e2_93_5
        obtain ⟨c3_0, c3_1, -⟩ := c3
        have hG3 : puF [(93, 0)] [] σ τ3 := puF.fq rfl hG2 hF3
        exact ⟨hB3, Or.inl ⟨by omega, rfl, hG3⟩⟩
    · have hG2 : puF [(93, 0)] [] σ τ2 := puF.fq rfl hG1 hF2
      have e2_93_2 : (τ2.1 93 2).toInt = x2 := (congrArg Int32.toInt (show τ2.1 93 2 = τ1.1 93 2 from hF2 93 2 rfl)).trans c1_0
      have e2_93_5 : (τ2.1 93 5).toInt = x3 := (congrArg Int32.toInt (show τ2.1 93 5 = τ1.1 93 5 from hF2 93 5 rfl)).trans c1_1
      refine zxm_goal_s2 x0 x1 x2 x3 hB2 ⟨by omega, f1_1, f1_2, f1_3, trivial⟩ ⟨e2_93_2, e2_93_5, trivial⟩ ?_
      · intro τ4 y4  hB4 hF4 f4 rr4 _ c4
        obtain ⟨f4_0, f4_1, f4_2, f4_3, -⟩ := f4
        clear f1_0 f1_1 f1_2 f1_3 e2_93_2 e2_93_5
        obtain ⟨c4_0, c4_1, -⟩ := c4
        have hG4 : puF [(93, 0)] [] σ τ4 := puF.fq rfl hG2 hF4
        refine Ok.cv rfl rfl rfl rfl rfl rfl rfl ?_
        refine (x_h163 (x1) (x2) hB4 (by omega) c4_0).use (by decide) (fun r5 τ5 q5 => ?_)
        obtain ⟨hB5, hF5, ⟨q5, rfl, d5⟩ | ⟨q5, rfl, d5⟩⟩ := q5
        · have hG5 : puF [(93, 0)] [] σ τ5 := puF.fq rfl hG4 hF5
          have e5_93_2 : (τ5.1 93 2).toInt = x2 := (congrArg Int32.toInt (show τ5.1 93 2 = τ4.1 93 2 from hF5 93 2 rfl)).trans c4_0
          have e5_93_5 : (τ5.1 93 5).toInt = x3 := (congrArg Int32.toInt (show τ5.1 93 5 = τ4.1 93 5 from hF5 93 5 rfl)).trans c4_1
          refine zxm_goal_s3 x0 x1 x2 x3 hB5 ⟨f4_0, f4_1, f4_2, f4_3, trivial⟩ ⟨e5_93_2, e5_93_5, trivial⟩ ?_
          · intro τ6 y6  hB6 hF6 f6 rr6 _ c6
            obtain ⟨f6_0, f6_1, f6_2, f6_3, -⟩ := f6
            clear f4_0 f4_1 f4_2 f4_3 e5_93_2 e5_93_5
            obtain ⟨c6_0, c6_1, -⟩ := c6
            have hG6 : puF [(93, 0)] [] σ τ6 := puF.fq rfl hG5 hF6
            exact ⟨hB6, Or.inl ⟨by omega, rfl, hG6⟩⟩
        · have hG5 : puF [(93, 0)] [] σ τ5 := puF.fq rfl hG4 hF5
          have e5_93_2 : (τ5.1 93 2).toInt = x2 := (congrArg Int32.toInt (show τ5.1 93 2 = τ4.1 93 2 from hF5 93 2 rfl)).trans c4_0
          have e5_93_5 : (τ5.1 93 5).toInt = x3 := (congrArg Int32.toInt (show τ5.1 93 5 = τ4.1 93 5 from hF5 93 5 rfl)).trans c4_1
          refine zxm_goal_s4 x0 x1 x2 x3 hB5 ⟨f4_0, by omega, f4_2, f4_3, trivial⟩ ⟨e5_93_2, e5_93_5, trivial⟩ ?_
          · intro τ7 y7  hB7 hF7 f7 rr7 _ c7
            obtain ⟨f7_0, f7_1, f7_2, f7_3, -⟩ := f7
            clear f4_0 f4_1 f4_2 f4_3 e5_93_2 e5_93_5
            obtain ⟨c7_0, c7_1, -⟩ := c7
            have hG7 : puF [(93, 0)] [] σ τ7 := puF.fq rfl hG5 hF7
            refine Ok.ast (n := 10) rfl rfl rfl (by decide) (by omega) (by omega) ?_
            have hG8 : puF [(93, 0)] [(99, (x0).toNat, Int32.ofInt (x1))] σ (put τ7 99 (x0).toNat (Int32.ofInt (x1))) := puF.put hG7
            have hB8 : an_GB pm_B (put τ7 99 (x0).toNat (Int32.ofInt (x1))) := put_GB hB7 (by
              show (0 : Int) ≤ (Int32.ofInt (x1)).toInt ∧ (Int32.ofInt (x1)).toInt ≤ 9
              rw [ti_of (by omega) (by omega)]
              omega)
            have e8_93_2 : ((put τ7 99 (x0).toNat (Int32.ofInt (x1))).1 93 2).toInt = x2 := (congrArg Int32.toInt (put_nr (by decide))).trans c7_0
            have e8_93_5 : ((put τ7 99 (x0).toNat (Int32.ofInt (x1))).1 93 5).toInt = x3 := (congrArg Int32.toInt (put_nr (by decide))).trans c7_1
            generalize put τ7 99 (x0).toNat (Int32.ofInt (x1)) = υ8 at hG8 hB8 e8_93_2 e8_93_5 ⊢
            clear c7_0 c7_1
            refine zxm_goal_s5 x0 x1 x2 x3 hB8 ⟨f7_0, f7_1, f7_2, f7_3, trivial⟩ ⟨e8_93_2, e8_93_5, trivial⟩ ?_
            · intro τ9 y9  hB9 hF9 f9 rr9 _ c9
              obtain ⟨f9_0, f9_1, f9_2, f9_3, -⟩ := f9
              clear f7_0 f7_1 f7_2 f7_3 e8_93_2 e8_93_5
              obtain ⟨c9_0, c9_1, -⟩ := c9
              have hG9 : puF [(93, 0)] [(99, (x0).toNat, Int32.ofInt (x1))] σ τ9 := puF.fq rfl hG8 hF9
              exact ⟨hB9, Or.inr ⟨by omega, rfl, hG9⟩⟩
set_option maxRecDepth 100000 in
theorem zx_cst {σ : pm_S} {Q : Option Value → pm_S → Prop} (x0 x1 : Int) (v2 : Value) (hv2 : v2.category = 1) (hB : an_GB pm_B σ) (eF : ((-2147483648) ≤ x0 ∧ x0 ≤ 2147483647) ∧ ((-2147483648) ≤ x1 ∧ x1 ≤ 2147483647) ∧ True) (eC : (σ.1 1 0).toInt = x1 ∧ True)
    (l0 : ∀ (τ : pm_S) (y : Nat → Int), an_GB pm_B τ → FQ [(1, 0)] σ τ → (((-2147483648) ≤ x0 ∧ x0 ≤ 2147483647) ∧ ((-2147483648) ≤ x1 ∧ x1 ≤ 2147483647) ∧ True) → (True) → (True) → ((τ.1 1 0).toInt = x0 ∧ True) → Q (some (.int (Int32.ofInt (x1)))) τ)
    : Ok 128 21 0 [.ref 0, .int (Int32.ofInt (x0)), v2] [] σ Q := by
  refine an_seg (B := pm_B) (F := [(1, 0)]) (T := []) (S := []) (fun _ h => absurd h List.not_mem_nil) (k := 128) (d := 20) (cs := []) 12 0 2 [(0, (-2147483648), 2147483647), (1, (-2147483648), 2147483647)] [(1, (1, 0, 0), (0, 1, 0))] [(2, 0, 0), (0, 0, 0), (5, 0, 0)] [] [(9999, [], [(0, 1, 0)], [(0, (-2147483648), 2147483647), (1, (-2147483648), 2147483647)], [], [], [(1, (1, 0, 0), (0, 0, 0))])] (by decide +kernel) (ρ0 := (fun s => [x0, x1].getD s 0)) hB eF eC ⟨rfl, ⟨rfl, ⟨hv2, trivial⟩⟩⟩ trivial ?_
  refine List.forall_mem_cons.mpr ⟨?_, fun _ h => absurd h List.not_mem_nil⟩
  · intro ρ τ Lc stc hx g1 g2 g3 g4 g5 g6 g7 g8
    have e0 : ρ 0 = x0 := hx 0 (by decide)
    have e1 : ρ 1 = x1 := hx 1 (by decide)
    subst e0
    subst e1
    match stc, g8 with
    | [_], ⟨h, _⟩ => cases h; exact l0 τ ρ g1 g2 g3 g4 g5 g6
set_option maxRecDepth 100000 in
theorem zx_mst {σ : pm_S} {Q : Option Value → pm_S → Prop} (x0 x1 : Int) (v2 : Value) (hv2 : v2.category = 1) (hB : an_GB pm_B σ) (eF : ((-2147483648) ≤ x0 ∧ x0 ≤ 2147483647) ∧ ((-2147483648) ≤ x1 ∧ x1 ≤ 2147483647) ∧ True) (eC : (σ.1 93 1).toInt = x1 ∧ True)
    (l0 : ∀ (τ : pm_S) (y : Nat → Int), an_GB pm_B τ → FQ [(93, 0), (93, 1)] σ τ → (((-2147483648) ≤ x0 ∧ x0 ≤ 2147483647) ∧ ((-2147483648) ≤ x1 ∧ x1 ≤ 2147483647) ∧ True) → (True) → (True) → ((τ.1 93 1).toInt = x0 ∧ True) → Q (some (.int (Int32.ofInt (x1)))) τ)
    : Ok 161 21 0 [.ref 93, .int (Int32.ofInt (x0)), v2] [] σ Q := by
  refine an_seg (B := pm_B) (F := [(93, 0), (93, 1)]) (T := []) (S := []) (fun _ h => absurd h List.not_mem_nil) (k := 161) (d := 20) (cs := []) 13 0 2 [(0, (-2147483648), 2147483647), (1, (-2147483648), 2147483647)] [(93, (1, 0, 1), (0, 1, 0))] [(2, 93, 0), (0, 0, 0), (5, 0, 0)] [] [(9999, [], [(0, 1, 0)], [(0, (-2147483648), 2147483647), (1, (-2147483648), 2147483647)], [], [], [(93, (1, 0, 1), (0, 0, 0))])] (by decide +kernel) (ρ0 := (fun s => [x0, x1].getD s 0)) hB eF eC ⟨rfl, ⟨rfl, ⟨hv2, trivial⟩⟩⟩ trivial ?_
  refine List.forall_mem_cons.mpr ⟨?_, fun _ h => absurd h List.not_mem_nil⟩
  · intro ρ τ Lc stc hx g1 g2 g3 g4 g5 g6 g7 g8
    have e0 : ρ 0 = x0 := hx 0 (by decide)
    have e1 : ρ 1 = x1 := hx 1 (by decide)
    subst e0
    subst e1
    match stc, g8 with
    | [_], ⟨h, _⟩ => cases h; exact l0 τ ρ g1 g2 g3 g4 g5 g6
abbrev PSet (z v : Int) : Prop := ((z = 0 ∧ 0 ≤ v ∧ v ≤ 100) ∨ (z = 1 ∧ 0 ≤ v ∧ v ≤ 99) ∨ (z = 2 ∧ 0 ≤ v ∧ v ≤ 1) ∨ (z = 3 ∧ 1 ≤ v ∧ v ≤ 52))
/-- a setting told, or not -/
abbrev QSet (p : Nat) (F : List (Nat × Nat)) (σ : pm_S) (z v : Int) : Option Value → pm_S → Prop := fun r τ => an_GB pm_B τ ∧ FQ F σ τ ∧ ((¬ PSet z v ∧ r = some (.int (Int32.ofInt 0)) ∧ ∀ j, j < 4 → τ.1 p j = σ.1 p j) ∨ (PSet z v ∧ r = some (.int (Int32.ofInt 1)) ∧ ∀ j, j < 4 → τ.1 p j = if (j : Int) = z then Int32.ofInt v else σ.1 p j))
theorem row4 {f g : Nat → Int32} (h0 : f 0 = g 0) (h1 : f 1 = g 1) (h2 : f 2 = g 2) (h3 : f 3 = g 3) : ∀ j, j < 4 → f j = g j
  | 0, _ => h0
  | 1, _ => h1
  | 2, _ => h2
  | 3, _ => h3
  | j + 4, h => absurd h (by omega)
set_option maxRecDepth 100000 in
theorem zx_zxc_setn {σ : pm_S} {Q : Option Value → pm_S → Prop} (x0 x1 x2 x3 x4 x5 : Int)  (hB : an_GB pm_B σ) (eF : ((-2147483648) ≤ x0 ∧ x0 ≤ 2147483647) ∧ (0 ≤ x1 ∧ x1 ≤ 100) ∧ (0 ≤ x2 ∧ x2 ≤ 99) ∧ (0 ≤ x3 ∧ x3 ≤ 1) ∧ (1 ≤ x4 ∧ x4 ≤ 52) ∧ ((-2147483648) ≤ x5 ∧ x5 ≤ (-1)) ∧ True) (eC : (σ.1 2 0).toInt = x1 ∧ (σ.1 2 1).toInt = x2 ∧ (σ.1 2 2).toInt = x3 ∧ (σ.1 2 3).toInt = x4 ∧ True)
    (l0 : ∀ (τ : pm_S) (y : Nat → Int), an_GB pm_B τ → FQ [(2, 9999)] σ τ → (((-2147483648) ≤ x0 ∧ x0 ≤ 2147483647) ∧ (0 ≤ x1 ∧ x1 ≤ 100) ∧ (0 ≤ x2 ∧ x2 ≤ 99) ∧ (0 ≤ x3 ∧ x3 ≤ 1) ∧ (1 ≤ x4 ∧ x4 ≤ 52) ∧ ((-2147483648) ≤ x5 ∧ x5 ≤ (-1)) ∧ True) → (True) → (True) → ((τ.1 2 0).toInt = x1 ∧ (τ.1 2 1).toInt = x2 ∧ (τ.1 2 2).toInt = x3 ∧ (τ.1 2 3).toInt = x4 ∧ True) → Q (some (.int (Int32.ofInt 0))) τ)
    : Ok 133 21 0 [.ref 0, .int (Int32.ofInt (x5)), .int (Int32.ofInt (x0))] [] σ Q := by
  refine an_seg (B := pm_B) (F := [(2, 9999)]) (T := [2]) (S := []) (fun _ h => absurd h List.not_mem_nil) (k := 133) (d := 20) (cs := []) 12 0 6 [(0, (-2147483648), 2147483647), (1, 0, 100), (2, 0, 99), (3, 0, 1), (4, 1, 52), (5, (-2147483648), (-1))] [(2, (1, 0, 0), (0, 1, 0)), (2, (1, 0, 1), (0, 2, 0)), (2, (1, 0, 2), (0, 3, 0)), (2, (1, 0, 3), (0, 4, 0))] [(2, 0, 0), (0, 5, 0), (0, 0, 0)] [] [(9999, [], [(1, 0, 0)], [(0, (-2147483648), 2147483647), (1, 0, 100), (2, 0, 99), (3, 0, 1), (4, 1, 52), (5, (-2147483648), (-1))], [], [], [(2, (1, 0, 0), (0, 1, 0)), (2, (1, 0, 1), (0, 2, 0)), (2, (1, 0, 2), (0, 3, 0)), (2, (1, 0, 3), (0, 4, 0))])] (by decide +kernel) (ρ0 := (fun s => [x0, x1, x2, x3, x4, x5].getD s 0)) hB eF eC ⟨rfl, ⟨rfl, ⟨rfl, trivial⟩⟩⟩ trivial ?_
  refine List.forall_mem_cons.mpr ⟨?_, fun _ h => absurd h List.not_mem_nil⟩
  · intro ρ τ Lc stc hx g1 g2 g3 g4 g5 g6 g7 g8
    have e0 : ρ 0 = x0 := hx 0 (by decide)
    have e1 : ρ 1 = x1 := hx 1 (by decide)
    have e2 : ρ 2 = x2 := hx 2 (by decide)
    have e3 : ρ 3 = x3 := hx 3 (by decide)
    have e4 : ρ 4 = x4 := hx 4 (by decide)
    have e5 : ρ 5 = x5 := hx 5 (by decide)
    subst e0
    subst e1
    subst e2
    subst e3
    subst e4
    subst e5
    match stc, g8 with
    | [_], ⟨h, _⟩ => cases h; exact l0 τ ρ g1 g2 g3 g4 g5 g6
set_option maxRecDepth 100000 in
theorem zx_zxc_set0 {σ : pm_S} {Q : Option Value → pm_S → Prop} (x0 x1 x2 x3 x4 : Int)  (hB : an_GB pm_B σ) (eF : ((-2147483648) ≤ x0 ∧ x0 ≤ 2147483647) ∧ (0 ≤ x1 ∧ x1 ≤ 100) ∧ (0 ≤ x2 ∧ x2 ≤ 99) ∧ (0 ≤ x3 ∧ x3 ≤ 1) ∧ (1 ≤ x4 ∧ x4 ≤ 52) ∧ True) (eC : (σ.1 2 0).toInt = x1 ∧ (σ.1 2 1).toInt = x2 ∧ (σ.1 2 2).toInt = x3 ∧ (σ.1 2 3).toInt = x4 ∧ True)
    (l0 : ∀ (τ : pm_S) (y : Nat → Int), an_GB pm_B τ → FQ [(2, 9999)] σ τ → (((-2147483648) ≤ x0 ∧ x0 ≤ (-1)) ∧ (0 ≤ x1 ∧ x1 ≤ 100) ∧ (0 ≤ x2 ∧ x2 ≤ 99) ∧ (0 ≤ x3 ∧ x3 ≤ 1) ∧ (1 ≤ x4 ∧ x4 ≤ 52) ∧ True) → (True) → (True) → ((τ.1 2 0).toInt = x1 ∧ (τ.1 2 1).toInt = x2 ∧ (τ.1 2 2).toInt = x3 ∧ (τ.1 2 3).toInt = x4 ∧ True) → Q (some (.int (Int32.ofInt 0))) τ)
    (l1 : ∀ (τ : pm_S) (y : Nat → Int), an_GB pm_B τ → FQ [(2, 9999)] σ τ → ((0 ≤ x0 ∧ x0 ≤ 100) ∧ (0 ≤ x1 ∧ x1 ≤ 100) ∧ (0 ≤ x2 ∧ x2 ≤ 99) ∧ (0 ≤ x3 ∧ x3 ≤ 1) ∧ (1 ≤ x4 ∧ x4 ≤ 52) ∧ True) → (True) → (True) → ((τ.1 2 0).toInt = x0 ∧ (τ.1 2 1).toInt = x2 ∧ (τ.1 2 2).toInt = x3 ∧ (τ.1 2 3).toInt = x4 ∧ True) → Q (some (.int (Int32.ofInt 1))) τ)
    (l2 : ∀ (τ : pm_S) (y : Nat → Int), an_GB pm_B τ → FQ [(2, 9999)] σ τ → ((101 ≤ x0 ∧ x0 ≤ 2147483647) ∧ (0 ≤ x1 ∧ x1 ≤ 100) ∧ (0 ≤ x2 ∧ x2 ≤ 99) ∧ (0 ≤ x3 ∧ x3 ≤ 1) ∧ (1 ≤ x4 ∧ x4 ≤ 52) ∧ True) → (True) → (True) → ((τ.1 2 0).toInt = x1 ∧ (τ.1 2 1).toInt = x2 ∧ (τ.1 2 2).toInt = x3 ∧ (τ.1 2 3).toInt = x4 ∧ True) → Q (some (.int (Int32.ofInt 0))) τ)
    : Ok 133 21 0 [.ref 0, .int (Int32.ofInt 0), .int (Int32.ofInt (x0))] [] σ Q := by
  refine an_seg (B := pm_B) (F := [(2, 9999)]) (T := [2]) (S := []) (fun _ h => absurd h List.not_mem_nil) (k := 133) (d := 20) (cs := []) 37 0 5 [(0, (-2147483648), 2147483647), (1, 0, 100), (2, 0, 99), (3, 0, 1), (4, 1, 52)] [(2, (1, 0, 0), (0, 1, 0)), (2, (1, 0, 1), (0, 2, 0)), (2, (1, 0, 2), (0, 3, 0)), (2, (1, 0, 3), (0, 4, 0))] [(2, 0, 0), (1, 0, 0), (0, 0, 0)] [] [(9999, [], [(1, 0, 0)], [(0, (-2147483648), (-1)), (1, 0, 100), (2, 0, 99), (3, 0, 1), (4, 1, 52)], [], [], [(2, (1, 0, 0), (0, 1, 0)), (2, (1, 0, 1), (0, 2, 0)), (2, (1, 0, 2), (0, 3, 0)), (2, (1, 0, 3), (0, 4, 0))]),
    (9999, [], [(1, 0, 1)], [(0, 0, 100), (1, 0, 100), (2, 0, 99), (3, 0, 1), (4, 1, 52)], [], [], [(2, (1, 0, 0), (0, 0, 0)), (2, (1, 0, 1), (0, 2, 0)), (2, (1, 0, 2), (0, 3, 0)), (2, (1, 0, 3), (0, 4, 0))]),
    (9999, [], [(1, 0, 0)], [(0, 101, 2147483647), (1, 0, 100), (2, 0, 99), (3, 0, 1), (4, 1, 52)], [], [], [(2, (1, 0, 0), (0, 1, 0)), (2, (1, 0, 1), (0, 2, 0)), (2, (1, 0, 2), (0, 3, 0)), (2, (1, 0, 3), (0, 4, 0))])] (by decide +kernel) (ρ0 := (fun s => [x0, x1, x2, x3, x4].getD s 0)) hB eF eC ⟨rfl, ⟨rfl, ⟨rfl, trivial⟩⟩⟩ trivial ?_
  refine List.forall_mem_cons.mpr ⟨?_, List.forall_mem_cons.mpr ⟨?_, List.forall_mem_cons.mpr ⟨?_, fun _ h => absurd h List.not_mem_nil⟩⟩⟩
  · intro ρ τ Lc stc hx g1 g2 g3 g4 g5 g6 g7 g8
    have e0 : ρ 0 = x0 := hx 0 (by decide)
    have e1 : ρ 1 = x1 := hx 1 (by decide)
    have e2 : ρ 2 = x2 := hx 2 (by decide)
    have e3 : ρ 3 = x3 := hx 3 (by decide)
    have e4 : ρ 4 = x4 := hx 4 (by decide)
    subst e0
    subst e1
    subst e2
    subst e3
    subst e4
    match stc, g8 with
    | [_], ⟨h, _⟩ => cases h; exact l0 τ ρ g1 g2 g3 g4 g5 g6
  · intro ρ τ Lc stc hx g1 g2 g3 g4 g5 g6 g7 g8
    have e0 : ρ 0 = x0 := hx 0 (by decide)
    have e1 : ρ 1 = x1 := hx 1 (by decide)
    have e2 : ρ 2 = x2 := hx 2 (by decide)
    have e3 : ρ 3 = x3 := hx 3 (by decide)
    have e4 : ρ 4 = x4 := hx 4 (by decide)
    subst e0
    subst e1
    subst e2
    subst e3
    subst e4
    match stc, g8 with
    | [_], ⟨h, _⟩ => cases h; exact l1 τ ρ g1 g2 g3 g4 g5 g6
  · intro ρ τ Lc stc hx g1 g2 g3 g4 g5 g6 g7 g8
    have e0 : ρ 0 = x0 := hx 0 (by decide)
    have e1 : ρ 1 = x1 := hx 1 (by decide)
    have e2 : ρ 2 = x2 := hx 2 (by decide)
    have e3 : ρ 3 = x3 := hx 3 (by decide)
    have e4 : ρ 4 = x4 := hx 4 (by decide)
    subst e0
    subst e1
    subst e2
    subst e3
    subst e4
    match stc, g8 with
    | [_], ⟨h, _⟩ => cases h; exact l2 τ ρ g1 g2 g3 g4 g5 g6
set_option maxRecDepth 100000 in
theorem zx_zxc_set1 {σ : pm_S} {Q : Option Value → pm_S → Prop} (x0 x1 x2 x3 x4 : Int)  (hB : an_GB pm_B σ) (eF : ((-2147483648) ≤ x0 ∧ x0 ≤ 2147483647) ∧ (0 ≤ x1 ∧ x1 ≤ 100) ∧ (0 ≤ x2 ∧ x2 ≤ 99) ∧ (0 ≤ x3 ∧ x3 ≤ 1) ∧ (1 ≤ x4 ∧ x4 ≤ 52) ∧ True) (eC : (σ.1 2 0).toInt = x1 ∧ (σ.1 2 1).toInt = x2 ∧ (σ.1 2 2).toInt = x3 ∧ (σ.1 2 3).toInt = x4 ∧ True)
    (l0 : ∀ (τ : pm_S) (y : Nat → Int), an_GB pm_B τ → FQ [(2, 9999)] σ τ → (((-2147483648) ≤ x0 ∧ x0 ≤ (-1)) ∧ (0 ≤ x1 ∧ x1 ≤ 100) ∧ (0 ≤ x2 ∧ x2 ≤ 99) ∧ (0 ≤ x3 ∧ x3 ≤ 1) ∧ (1 ≤ x4 ∧ x4 ≤ 52) ∧ True) → (True) → (True) → ((τ.1 2 0).toInt = x1 ∧ (τ.1 2 1).toInt = x2 ∧ (τ.1 2 2).toInt = x3 ∧ (τ.1 2 3).toInt = x4 ∧ True) → Q (some (.int (Int32.ofInt 0))) τ)
    (l1 : ∀ (τ : pm_S) (y : Nat → Int), an_GB pm_B τ → FQ [(2, 9999)] σ τ → ((0 ≤ x0 ∧ x0 ≤ 99) ∧ (0 ≤ x1 ∧ x1 ≤ 100) ∧ (0 ≤ x2 ∧ x2 ≤ 99) ∧ (0 ≤ x3 ∧ x3 ≤ 1) ∧ (1 ≤ x4 ∧ x4 ≤ 52) ∧ True) → (True) → (True) → ((τ.1 2 0).toInt = x1 ∧ (τ.1 2 1).toInt = x0 ∧ (τ.1 2 2).toInt = x3 ∧ (τ.1 2 3).toInt = x4 ∧ True) → Q (some (.int (Int32.ofInt 1))) τ)
    (l2 : ∀ (τ : pm_S) (y : Nat → Int), an_GB pm_B τ → FQ [(2, 9999)] σ τ → ((100 ≤ x0 ∧ x0 ≤ 2147483647) ∧ (0 ≤ x1 ∧ x1 ≤ 100) ∧ (0 ≤ x2 ∧ x2 ≤ 99) ∧ (0 ≤ x3 ∧ x3 ≤ 1) ∧ (1 ≤ x4 ∧ x4 ≤ 52) ∧ True) → (True) → (True) → ((τ.1 2 0).toInt = x1 ∧ (τ.1 2 1).toInt = x2 ∧ (τ.1 2 2).toInt = x3 ∧ (τ.1 2 3).toInt = x4 ∧ True) → Q (some (.int (Int32.ofInt 0))) τ)
    : Ok 133 21 0 [.ref 0, .int (Int32.ofInt 1), .int (Int32.ofInt (x0))] [] σ Q := by
  refine an_seg (B := pm_B) (F := [(2, 9999)]) (T := [2]) (S := []) (fun _ h => absurd h List.not_mem_nil) (k := 133) (d := 20) (cs := []) 37 0 5 [(0, (-2147483648), 2147483647), (1, 0, 100), (2, 0, 99), (3, 0, 1), (4, 1, 52)] [(2, (1, 0, 0), (0, 1, 0)), (2, (1, 0, 1), (0, 2, 0)), (2, (1, 0, 2), (0, 3, 0)), (2, (1, 0, 3), (0, 4, 0))] [(2, 0, 0), (1, 0, 1), (0, 0, 0)] [] [(9999, [], [(1, 0, 0)], [(0, (-2147483648), (-1)), (1, 0, 100), (2, 0, 99), (3, 0, 1), (4, 1, 52)], [], [], [(2, (1, 0, 0), (0, 1, 0)), (2, (1, 0, 1), (0, 2, 0)), (2, (1, 0, 2), (0, 3, 0)), (2, (1, 0, 3), (0, 4, 0))]),
    (9999, [], [(1, 0, 1)], [(0, 0, 99), (1, 0, 100), (2, 0, 99), (3, 0, 1), (4, 1, 52)], [], [], [(2, (1, 0, 0), (0, 1, 0)), (2, (1, 0, 1), (0, 0, 0)), (2, (1, 0, 2), (0, 3, 0)), (2, (1, 0, 3), (0, 4, 0))]),
    (9999, [], [(1, 0, 0)], [(0, 100, 2147483647), (1, 0, 100), (2, 0, 99), (3, 0, 1), (4, 1, 52)], [], [], [(2, (1, 0, 0), (0, 1, 0)), (2, (1, 0, 1), (0, 2, 0)), (2, (1, 0, 2), (0, 3, 0)), (2, (1, 0, 3), (0, 4, 0))])] (by decide +kernel) (ρ0 := (fun s => [x0, x1, x2, x3, x4].getD s 0)) hB eF eC ⟨rfl, ⟨rfl, ⟨rfl, trivial⟩⟩⟩ trivial ?_
  refine List.forall_mem_cons.mpr ⟨?_, List.forall_mem_cons.mpr ⟨?_, List.forall_mem_cons.mpr ⟨?_, fun _ h => absurd h List.not_mem_nil⟩⟩⟩
  · intro ρ τ Lc stc hx g1 g2 g3 g4 g5 g6 g7 g8
    have e0 : ρ 0 = x0 := hx 0 (by decide)
    have e1 : ρ 1 = x1 := hx 1 (by decide)
    have e2 : ρ 2 = x2 := hx 2 (by decide)
    have e3 : ρ 3 = x3 := hx 3 (by decide)
    have e4 : ρ 4 = x4 := hx 4 (by decide)
    subst e0
    subst e1
    subst e2
    subst e3
    subst e4
    match stc, g8 with
    | [_], ⟨h, _⟩ => cases h; exact l0 τ ρ g1 g2 g3 g4 g5 g6
  · intro ρ τ Lc stc hx g1 g2 g3 g4 g5 g6 g7 g8
    have e0 : ρ 0 = x0 := hx 0 (by decide)
    have e1 : ρ 1 = x1 := hx 1 (by decide)
    have e2 : ρ 2 = x2 := hx 2 (by decide)
    have e3 : ρ 3 = x3 := hx 3 (by decide)
    have e4 : ρ 4 = x4 := hx 4 (by decide)
    subst e0
    subst e1
    subst e2
    subst e3
    subst e4
    match stc, g8 with
    | [_], ⟨h, _⟩ => cases h; exact l1 τ ρ g1 g2 g3 g4 g5 g6
  · intro ρ τ Lc stc hx g1 g2 g3 g4 g5 g6 g7 g8
    have e0 : ρ 0 = x0 := hx 0 (by decide)
    have e1 : ρ 1 = x1 := hx 1 (by decide)
    have e2 : ρ 2 = x2 := hx 2 (by decide)
    have e3 : ρ 3 = x3 := hx 3 (by decide)
    have e4 : ρ 4 = x4 := hx 4 (by decide)
    subst e0
    subst e1
    subst e2
    subst e3
    subst e4
    match stc, g8 with
    | [_], ⟨h, _⟩ => cases h; exact l2 τ ρ g1 g2 g3 g4 g5 g6
set_option maxRecDepth 100000 in
theorem zx_zxc_set2 {σ : pm_S} {Q : Option Value → pm_S → Prop} (x0 x1 x2 x3 x4 : Int)  (hB : an_GB pm_B σ) (eF : ((-2147483648) ≤ x0 ∧ x0 ≤ 2147483647) ∧ (0 ≤ x1 ∧ x1 ≤ 100) ∧ (0 ≤ x2 ∧ x2 ≤ 99) ∧ (0 ≤ x3 ∧ x3 ≤ 1) ∧ (1 ≤ x4 ∧ x4 ≤ 52) ∧ True) (eC : (σ.1 2 0).toInt = x1 ∧ (σ.1 2 1).toInt = x2 ∧ (σ.1 2 2).toInt = x3 ∧ (σ.1 2 3).toInt = x4 ∧ True)
    (l0 : ∀ (τ : pm_S) (y : Nat → Int), an_GB pm_B τ → FQ [(2, 9999)] σ τ → (((-2147483648) ≤ x0 ∧ x0 ≤ (-1)) ∧ (0 ≤ x1 ∧ x1 ≤ 100) ∧ (0 ≤ x2 ∧ x2 ≤ 99) ∧ (0 ≤ x3 ∧ x3 ≤ 1) ∧ (1 ≤ x4 ∧ x4 ≤ 52) ∧ True) → (True) → (True) → ((τ.1 2 0).toInt = x1 ∧ (τ.1 2 1).toInt = x2 ∧ (τ.1 2 2).toInt = x3 ∧ (τ.1 2 3).toInt = x4 ∧ True) → Q (some (.int (Int32.ofInt 0))) τ)
    (l1 : ∀ (τ : pm_S) (y : Nat → Int), an_GB pm_B τ → FQ [(2, 9999)] σ τ → ((0 ≤ x0 ∧ x0 ≤ 1) ∧ (0 ≤ x1 ∧ x1 ≤ 100) ∧ (0 ≤ x2 ∧ x2 ≤ 99) ∧ (0 ≤ x3 ∧ x3 ≤ 1) ∧ (1 ≤ x4 ∧ x4 ≤ 52) ∧ True) → (True) → (True) → ((τ.1 2 0).toInt = x1 ∧ (τ.1 2 1).toInt = x2 ∧ (τ.1 2 2).toInt = x0 ∧ (τ.1 2 3).toInt = x4 ∧ True) → Q (some (.int (Int32.ofInt 1))) τ)
    (l2 : ∀ (τ : pm_S) (y : Nat → Int), an_GB pm_B τ → FQ [(2, 9999)] σ τ → ((2 ≤ x0 ∧ x0 ≤ 2147483647) ∧ (0 ≤ x1 ∧ x1 ≤ 100) ∧ (0 ≤ x2 ∧ x2 ≤ 99) ∧ (0 ≤ x3 ∧ x3 ≤ 1) ∧ (1 ≤ x4 ∧ x4 ≤ 52) ∧ True) → (True) → (True) → ((τ.1 2 0).toInt = x1 ∧ (τ.1 2 1).toInt = x2 ∧ (τ.1 2 2).toInt = x3 ∧ (τ.1 2 3).toInt = x4 ∧ True) → Q (some (.int (Int32.ofInt 0))) τ)
    : Ok 133 21 0 [.ref 0, .int (Int32.ofInt 2), .int (Int32.ofInt (x0))] [] σ Q := by
  refine an_seg (B := pm_B) (F := [(2, 9999)]) (T := [2]) (S := []) (fun _ h => absurd h List.not_mem_nil) (k := 133) (d := 20) (cs := []) 37 0 5 [(0, (-2147483648), 2147483647), (1, 0, 100), (2, 0, 99), (3, 0, 1), (4, 1, 52)] [(2, (1, 0, 0), (0, 1, 0)), (2, (1, 0, 1), (0, 2, 0)), (2, (1, 0, 2), (0, 3, 0)), (2, (1, 0, 3), (0, 4, 0))] [(2, 0, 0), (1, 0, 2), (0, 0, 0)] [] [(9999, [], [(1, 0, 0)], [(0, (-2147483648), (-1)), (1, 0, 100), (2, 0, 99), (3, 0, 1), (4, 1, 52)], [], [], [(2, (1, 0, 0), (0, 1, 0)), (2, (1, 0, 1), (0, 2, 0)), (2, (1, 0, 2), (0, 3, 0)), (2, (1, 0, 3), (0, 4, 0))]),
    (9999, [], [(1, 0, 1)], [(0, 0, 1), (1, 0, 100), (2, 0, 99), (3, 0, 1), (4, 1, 52)], [], [], [(2, (1, 0, 0), (0, 1, 0)), (2, (1, 0, 1), (0, 2, 0)), (2, (1, 0, 2), (0, 0, 0)), (2, (1, 0, 3), (0, 4, 0))]),
    (9999, [], [(1, 0, 0)], [(0, 2, 2147483647), (1, 0, 100), (2, 0, 99), (3, 0, 1), (4, 1, 52)], [], [], [(2, (1, 0, 0), (0, 1, 0)), (2, (1, 0, 1), (0, 2, 0)), (2, (1, 0, 2), (0, 3, 0)), (2, (1, 0, 3), (0, 4, 0))])] (by decide +kernel) (ρ0 := (fun s => [x0, x1, x2, x3, x4].getD s 0)) hB eF eC ⟨rfl, ⟨rfl, ⟨rfl, trivial⟩⟩⟩ trivial ?_
  refine List.forall_mem_cons.mpr ⟨?_, List.forall_mem_cons.mpr ⟨?_, List.forall_mem_cons.mpr ⟨?_, fun _ h => absurd h List.not_mem_nil⟩⟩⟩
  · intro ρ τ Lc stc hx g1 g2 g3 g4 g5 g6 g7 g8
    have e0 : ρ 0 = x0 := hx 0 (by decide)
    have e1 : ρ 1 = x1 := hx 1 (by decide)
    have e2 : ρ 2 = x2 := hx 2 (by decide)
    have e3 : ρ 3 = x3 := hx 3 (by decide)
    have e4 : ρ 4 = x4 := hx 4 (by decide)
    subst e0
    subst e1
    subst e2
    subst e3
    subst e4
    match stc, g8 with
    | [_], ⟨h, _⟩ => cases h; exact l0 τ ρ g1 g2 g3 g4 g5 g6
  · intro ρ τ Lc stc hx g1 g2 g3 g4 g5 g6 g7 g8
    have e0 : ρ 0 = x0 := hx 0 (by decide)
    have e1 : ρ 1 = x1 := hx 1 (by decide)
    have e2 : ρ 2 = x2 := hx 2 (by decide)
    have e3 : ρ 3 = x3 := hx 3 (by decide)
    have e4 : ρ 4 = x4 := hx 4 (by decide)
    subst e0
    subst e1
    subst e2
    subst e3
    subst e4
    match stc, g8 with
    | [_], ⟨h, _⟩ => cases h; exact l1 τ ρ g1 g2 g3 g4 g5 g6
  · intro ρ τ Lc stc hx g1 g2 g3 g4 g5 g6 g7 g8
    have e0 : ρ 0 = x0 := hx 0 (by decide)
    have e1 : ρ 1 = x1 := hx 1 (by decide)
    have e2 : ρ 2 = x2 := hx 2 (by decide)
    have e3 : ρ 3 = x3 := hx 3 (by decide)
    have e4 : ρ 4 = x4 := hx 4 (by decide)
    subst e0
    subst e1
    subst e2
    subst e3
    subst e4
    match stc, g8 with
    | [_], ⟨h, _⟩ => cases h; exact l2 τ ρ g1 g2 g3 g4 g5 g6
set_option maxRecDepth 100000 in
theorem zx_zxc_set3 {σ : pm_S} {Q : Option Value → pm_S → Prop} (x0 x1 x2 x3 x4 : Int)  (hB : an_GB pm_B σ) (eF : ((-2147483648) ≤ x0 ∧ x0 ≤ 2147483647) ∧ (0 ≤ x1 ∧ x1 ≤ 100) ∧ (0 ≤ x2 ∧ x2 ≤ 99) ∧ (0 ≤ x3 ∧ x3 ≤ 1) ∧ (1 ≤ x4 ∧ x4 ≤ 52) ∧ True) (eC : (σ.1 2 0).toInt = x1 ∧ (σ.1 2 1).toInt = x2 ∧ (σ.1 2 2).toInt = x3 ∧ (σ.1 2 3).toInt = x4 ∧ True)
    (l0 : ∀ (τ : pm_S) (y : Nat → Int), an_GB pm_B τ → FQ [(2, 9999)] σ τ → (((-2147483648) ≤ x0 ∧ x0 ≤ 0) ∧ (0 ≤ x1 ∧ x1 ≤ 100) ∧ (0 ≤ x2 ∧ x2 ≤ 99) ∧ (0 ≤ x3 ∧ x3 ≤ 1) ∧ (1 ≤ x4 ∧ x4 ≤ 52) ∧ True) → (True) → (True) → ((τ.1 2 0).toInt = x1 ∧ (τ.1 2 1).toInt = x2 ∧ (τ.1 2 2).toInt = x3 ∧ (τ.1 2 3).toInt = x4 ∧ True) → Q (some (.int (Int32.ofInt 0))) τ)
    (l1 : ∀ (τ : pm_S) (y : Nat → Int), an_GB pm_B τ → FQ [(2, 9999)] σ τ → ((1 ≤ x0 ∧ x0 ≤ 52) ∧ (0 ≤ x1 ∧ x1 ≤ 100) ∧ (0 ≤ x2 ∧ x2 ≤ 99) ∧ (0 ≤ x3 ∧ x3 ≤ 1) ∧ (1 ≤ x4 ∧ x4 ≤ 52) ∧ True) → (True) → (True) → ((τ.1 2 0).toInt = x1 ∧ (τ.1 2 1).toInt = x2 ∧ (τ.1 2 2).toInt = x3 ∧ (τ.1 2 3).toInt = x0 ∧ True) → Q (some (.int (Int32.ofInt 1))) τ)
    (l2 : ∀ (τ : pm_S) (y : Nat → Int), an_GB pm_B τ → FQ [(2, 9999)] σ τ → ((53 ≤ x0 ∧ x0 ≤ 2147483647) ∧ (0 ≤ x1 ∧ x1 ≤ 100) ∧ (0 ≤ x2 ∧ x2 ≤ 99) ∧ (0 ≤ x3 ∧ x3 ≤ 1) ∧ (1 ≤ x4 ∧ x4 ≤ 52) ∧ True) → (True) → (True) → ((τ.1 2 0).toInt = x1 ∧ (τ.1 2 1).toInt = x2 ∧ (τ.1 2 2).toInt = x3 ∧ (τ.1 2 3).toInt = x4 ∧ True) → Q (some (.int (Int32.ofInt 0))) τ)
    : Ok 133 21 0 [.ref 0, .int (Int32.ofInt 3), .int (Int32.ofInt (x0))] [] σ Q := by
  refine an_seg (B := pm_B) (F := [(2, 9999)]) (T := [2]) (S := []) (fun _ h => absurd h List.not_mem_nil) (k := 133) (d := 20) (cs := []) 38 0 5 [(0, (-2147483648), 2147483647), (1, 0, 100), (2, 0, 99), (3, 0, 1), (4, 1, 52)] [(2, (1, 0, 0), (0, 1, 0)), (2, (1, 0, 1), (0, 2, 0)), (2, (1, 0, 2), (0, 3, 0)), (2, (1, 0, 3), (0, 4, 0))] [(2, 0, 0), (1, 0, 3), (0, 0, 0)] [] [(9999, [], [(1, 0, 0)], [(0, (-2147483648), 0), (1, 0, 100), (2, 0, 99), (3, 0, 1), (4, 1, 52)], [], [], [(2, (1, 0, 0), (0, 1, 0)), (2, (1, 0, 1), (0, 2, 0)), (2, (1, 0, 2), (0, 3, 0)), (2, (1, 0, 3), (0, 4, 0))]),
    (9999, [], [(1, 0, 1)], [(0, 1, 52), (1, 0, 100), (2, 0, 99), (3, 0, 1), (4, 1, 52)], [], [], [(2, (1, 0, 0), (0, 1, 0)), (2, (1, 0, 1), (0, 2, 0)), (2, (1, 0, 2), (0, 3, 0)), (2, (1, 0, 3), (0, 0, 0))]),
    (9999, [], [(1, 0, 0)], [(0, 53, 2147483647), (1, 0, 100), (2, 0, 99), (3, 0, 1), (4, 1, 52)], [], [], [(2, (1, 0, 0), (0, 1, 0)), (2, (1, 0, 1), (0, 2, 0)), (2, (1, 0, 2), (0, 3, 0)), (2, (1, 0, 3), (0, 4, 0))])] (by decide +kernel) (ρ0 := (fun s => [x0, x1, x2, x3, x4].getD s 0)) hB eF eC ⟨rfl, ⟨rfl, ⟨rfl, trivial⟩⟩⟩ trivial ?_
  refine List.forall_mem_cons.mpr ⟨?_, List.forall_mem_cons.mpr ⟨?_, List.forall_mem_cons.mpr ⟨?_, fun _ h => absurd h List.not_mem_nil⟩⟩⟩
  · intro ρ τ Lc stc hx g1 g2 g3 g4 g5 g6 g7 g8
    have e0 : ρ 0 = x0 := hx 0 (by decide)
    have e1 : ρ 1 = x1 := hx 1 (by decide)
    have e2 : ρ 2 = x2 := hx 2 (by decide)
    have e3 : ρ 3 = x3 := hx 3 (by decide)
    have e4 : ρ 4 = x4 := hx 4 (by decide)
    subst e0
    subst e1
    subst e2
    subst e3
    subst e4
    match stc, g8 with
    | [_], ⟨h, _⟩ => cases h; exact l0 τ ρ g1 g2 g3 g4 g5 g6
  · intro ρ τ Lc stc hx g1 g2 g3 g4 g5 g6 g7 g8
    have e0 : ρ 0 = x0 := hx 0 (by decide)
    have e1 : ρ 1 = x1 := hx 1 (by decide)
    have e2 : ρ 2 = x2 := hx 2 (by decide)
    have e3 : ρ 3 = x3 := hx 3 (by decide)
    have e4 : ρ 4 = x4 := hx 4 (by decide)
    subst e0
    subst e1
    subst e2
    subst e3
    subst e4
    match stc, g8 with
    | [_], ⟨h, _⟩ => cases h; exact l1 τ ρ g1 g2 g3 g4 g5 g6
  · intro ρ τ Lc stc hx g1 g2 g3 g4 g5 g6 g7 g8
    have e0 : ρ 0 = x0 := hx 0 (by decide)
    have e1 : ρ 1 = x1 := hx 1 (by decide)
    have e2 : ρ 2 = x2 := hx 2 (by decide)
    have e3 : ρ 3 = x3 := hx 3 (by decide)
    have e4 : ρ 4 = x4 := hx 4 (by decide)
    subst e0
    subst e1
    subst e2
    subst e3
    subst e4
    match stc, g8 with
    | [_], ⟨h, _⟩ => cases h; exact l2 τ ρ g1 g2 g3 g4 g5 g6
set_option maxRecDepth 100000 in
theorem zx_zxc_setp {σ : pm_S} {Q : Option Value → pm_S → Prop} (x0 x1 x2 x3 x4 x5 : Int)  (hB : an_GB pm_B σ) (eF : ((-2147483648) ≤ x0 ∧ x0 ≤ 2147483647) ∧ (0 ≤ x1 ∧ x1 ≤ 100) ∧ (0 ≤ x2 ∧ x2 ≤ 99) ∧ (0 ≤ x3 ∧ x3 ≤ 1) ∧ (1 ≤ x4 ∧ x4 ≤ 52) ∧ (4 ≤ x5 ∧ x5 ≤ 2147483647) ∧ True) (eC : (σ.1 2 0).toInt = x1 ∧ (σ.1 2 1).toInt = x2 ∧ (σ.1 2 2).toInt = x3 ∧ (σ.1 2 3).toInt = x4 ∧ True)
    (l0 : ∀ (τ : pm_S) (y : Nat → Int), an_GB pm_B τ → FQ [(2, 9999)] σ τ → (((-2147483648) ≤ x0 ∧ x0 ≤ 2147483647) ∧ (0 ≤ x1 ∧ x1 ≤ 100) ∧ (0 ≤ x2 ∧ x2 ≤ 99) ∧ (0 ≤ x3 ∧ x3 ≤ 1) ∧ (1 ≤ x4 ∧ x4 ≤ 52) ∧ (4 ≤ x5 ∧ x5 ≤ 2147483647) ∧ True) → (True) → (True) → ((τ.1 2 0).toInt = x1 ∧ (τ.1 2 1).toInt = x2 ∧ (τ.1 2 2).toInt = x3 ∧ (τ.1 2 3).toInt = x4 ∧ True) → Q (some (.int (Int32.ofInt 0))) τ)
    : Ok 133 21 0 [.ref 0, .int (Int32.ofInt (x5)), .int (Int32.ofInt (x0))] [] σ Q := by
  refine an_seg (B := pm_B) (F := [(2, 9999)]) (T := [2]) (S := []) (fun _ h => absurd h List.not_mem_nil) (k := 133) (d := 20) (cs := []) 15 0 6 [(0, (-2147483648), 2147483647), (1, 0, 100), (2, 0, 99), (3, 0, 1), (4, 1, 52), (5, 4, 2147483647)] [(2, (1, 0, 0), (0, 1, 0)), (2, (1, 0, 1), (0, 2, 0)), (2, (1, 0, 2), (0, 3, 0)), (2, (1, 0, 3), (0, 4, 0))] [(2, 0, 0), (0, 5, 0), (0, 0, 0)] [] [(9999, [], [(1, 0, 0)], [(0, (-2147483648), 2147483647), (1, 0, 100), (2, 0, 99), (3, 0, 1), (4, 1, 52), (5, 4, 2147483647)], [], [], [(2, (1, 0, 0), (0, 1, 0)), (2, (1, 0, 1), (0, 2, 0)), (2, (1, 0, 2), (0, 3, 0)), (2, (1, 0, 3), (0, 4, 0))])] (by decide +kernel) (ρ0 := (fun s => [x0, x1, x2, x3, x4, x5].getD s 0)) hB eF eC ⟨rfl, ⟨rfl, ⟨rfl, trivial⟩⟩⟩ trivial ?_
  refine List.forall_mem_cons.mpr ⟨?_, fun _ h => absurd h List.not_mem_nil⟩
  · intro ρ τ Lc stc hx g1 g2 g3 g4 g5 g6 g7 g8
    have e0 : ρ 0 = x0 := hx 0 (by decide)
    have e1 : ρ 1 = x1 := hx 1 (by decide)
    have e2 : ρ 2 = x2 := hx 2 (by decide)
    have e3 : ρ 3 = x3 := hx 3 (by decide)
    have e4 : ρ 4 = x4 := hx 4 (by decide)
    have e5 : ρ 5 = x5 := hx 5 (by decide)
    subst e0
    subst e1
    subst e2
    subst e3
    subst e4
    subst e5
    match stc, g8 with
    | [_], ⟨h, _⟩ => cases h; exact l0 τ ρ g1 g2 g3 g4 g5 g6
set_option maxRecDepth 20000 in
theorem zxc_set {σ : pm_S} (z v : Int) (hz : (-2147483648) ≤ z ∧ z ≤ 2147483647) (hv : (-2147483648) ≤ v ∧ v ≤ 2147483647) (hB : an_GB pm_B σ) : Sp 133 21 [.ref 0, .int (Int32.ofInt z), .int (Int32.ofInt v)] σ (QSet 2 [(2, 9999)] σ z v) := by
  have b0 : 0 ≤ (σ.1 2 0).toInt ∧ (σ.1 2 0).toInt ≤ 100 := hB 2 0 (by decide)
  have b1 : 0 ≤ (σ.1 2 1).toInt ∧ (σ.1 2 1).toInt ≤ 99 := hB 2 1 (by decide)
  have b2 : 0 ≤ (σ.1 2 2).toInt ∧ (σ.1 2 2).toInt ≤ 1 := hB 2 2 (by decide)
  have b3 : 1 ≤ (σ.1 2 3).toInt ∧ (σ.1 2 3).toInt ≤ 52 := hB 2 3 (by decide)
  refine Sp.at rfl rfl ?_
  rcases (show z ≤ -1 ∨ z = 0 ∨ z = 1 ∨ z = 2 ∨ z = 3 ∨ 4 ≤ z by omega) with h | h | h | h | h | h
  · refine zx_zxc_setn v (σ.1 2 0).toInt (σ.1 2 1).toInt (σ.1 2 2).toInt (σ.1 2 3).toInt z hB ⟨hv, b0, b1, b2, b3, ⟨by omega, by omega⟩, trivial⟩ ⟨rfl, rfl, rfl, rfl, trivial⟩ ?_
    · intro τ y hB1 F1 q _ _ c
      have q0 := q.1
      have q1 := q.2.1
      have q2 := q.2.2.1
      have q3 := q.2.2.2.1
      have q4 := q.2.2.2.2.1
      have q5 := q.2.2.2.2.2.1
      exact ⟨hB1, FQ.up rfl F1, Or.inl ⟨(show ¬ ((z = 0 ∧ 0 ≤ v ∧ v ≤ 100) ∨ (z = 1 ∧ 0 ≤ v ∧ v ≤ 99) ∨ (z = 2 ∧ 0 ≤ v ∧ v ≤ 1) ∨ (z = 3 ∧ 1 ≤ v ∧ v ≤ 52)) by omega), rfl, row4 (Int32.toInt_inj.mp c.1) (Int32.toInt_inj.mp c.2.1) (Int32.toInt_inj.mp c.2.2.1) (Int32.toInt_inj.mp c.2.2.2.1)⟩⟩
  · subst h
    refine zx_zxc_set0 v (σ.1 2 0).toInt (σ.1 2 1).toInt (σ.1 2 2).toInt (σ.1 2 3).toInt hB ⟨hv, b0, b1, b2, b3, trivial⟩ ⟨rfl, rfl, rfl, rfl, trivial⟩ ?_ ?_ ?_
    · intro τ y hB1 F1 q _ _ c
      have q0 := q.1
      have q1 := q.2.1
      have q2 := q.2.2.1
      have q3 := q.2.2.2.1
      have q4 := q.2.2.2.2.1
      exact ⟨hB1, FQ.up rfl F1, Or.inl ⟨(show ¬ ((0 = 0 ∧ 0 ≤ v ∧ v ≤ 100) ∨ (0 = 1 ∧ 0 ≤ v ∧ v ≤ 99) ∨ (0 = 2 ∧ 0 ≤ v ∧ v ≤ 1) ∨ (0 = 3 ∧ 1 ≤ v ∧ v ≤ 52)) by omega), rfl, row4 (Int32.toInt_inj.mp c.1) (Int32.toInt_inj.mp c.2.1) (Int32.toInt_inj.mp c.2.2.1) (Int32.toInt_inj.mp c.2.2.2.1)⟩⟩
    · intro τ y hB1 F1 q _ _ c
      have q0 := q.1
      have q1 := q.2.1
      have q2 := q.2.2.1
      have q3 := q.2.2.2.1
      have q4 := q.2.2.2.2.1
      exact ⟨hB1, FQ.up rfl F1, Or.inr ⟨(show ((0 = 0 ∧ 0 ≤ v ∧ v ≤ 100) ∨ (0 = 1 ∧ 0 ≤ v ∧ v ≤ 99) ∨ (0 = 2 ∧ 0 ≤ v ∧ v ≤ 1) ∨ (0 = 3 ∧ 1 ≤ v ∧ v ≤ 52)) by omega), rfl, row4 (g := fun j => if (j : Int) = 0 then Int32.ofInt v else σ.1 2 j) ((Int32.toInt_inj.mp (c.1.trans (ti_of hv.1 hv.2).symm)).trans (if_pos rfl).symm) ((Int32.toInt_inj.mp c.2.1).trans (if_neg (by decide)).symm) ((Int32.toInt_inj.mp c.2.2.1).trans (if_neg (by decide)).symm) ((Int32.toInt_inj.mp c.2.2.2.1).trans (if_neg (by decide)).symm)⟩⟩
    · intro τ y hB1 F1 q _ _ c
      have q0 := q.1
      have q1 := q.2.1
      have q2 := q.2.2.1
      have q3 := q.2.2.2.1
      have q4 := q.2.2.2.2.1
      exact ⟨hB1, FQ.up rfl F1, Or.inl ⟨(show ¬ ((0 = 0 ∧ 0 ≤ v ∧ v ≤ 100) ∨ (0 = 1 ∧ 0 ≤ v ∧ v ≤ 99) ∨ (0 = 2 ∧ 0 ≤ v ∧ v ≤ 1) ∨ (0 = 3 ∧ 1 ≤ v ∧ v ≤ 52)) by omega), rfl, row4 (Int32.toInt_inj.mp c.1) (Int32.toInt_inj.mp c.2.1) (Int32.toInt_inj.mp c.2.2.1) (Int32.toInt_inj.mp c.2.2.2.1)⟩⟩
  · subst h
    refine zx_zxc_set1 v (σ.1 2 0).toInt (σ.1 2 1).toInt (σ.1 2 2).toInt (σ.1 2 3).toInt hB ⟨hv, b0, b1, b2, b3, trivial⟩ ⟨rfl, rfl, rfl, rfl, trivial⟩ ?_ ?_ ?_
    · intro τ y hB1 F1 q _ _ c
      have q0 := q.1
      have q1 := q.2.1
      have q2 := q.2.2.1
      have q3 := q.2.2.2.1
      have q4 := q.2.2.2.2.1
      exact ⟨hB1, FQ.up rfl F1, Or.inl ⟨(show ¬ ((1 = 0 ∧ 0 ≤ v ∧ v ≤ 100) ∨ (1 = 1 ∧ 0 ≤ v ∧ v ≤ 99) ∨ (1 = 2 ∧ 0 ≤ v ∧ v ≤ 1) ∨ (1 = 3 ∧ 1 ≤ v ∧ v ≤ 52)) by omega), rfl, row4 (Int32.toInt_inj.mp c.1) (Int32.toInt_inj.mp c.2.1) (Int32.toInt_inj.mp c.2.2.1) (Int32.toInt_inj.mp c.2.2.2.1)⟩⟩
    · intro τ y hB1 F1 q _ _ c
      have q0 := q.1
      have q1 := q.2.1
      have q2 := q.2.2.1
      have q3 := q.2.2.2.1
      have q4 := q.2.2.2.2.1
      exact ⟨hB1, FQ.up rfl F1, Or.inr ⟨(show ((1 = 0 ∧ 0 ≤ v ∧ v ≤ 100) ∨ (1 = 1 ∧ 0 ≤ v ∧ v ≤ 99) ∨ (1 = 2 ∧ 0 ≤ v ∧ v ≤ 1) ∨ (1 = 3 ∧ 1 ≤ v ∧ v ≤ 52)) by omega), rfl, row4 (g := fun j => if (j : Int) = 1 then Int32.ofInt v else σ.1 2 j) ((Int32.toInt_inj.mp c.1).trans (if_neg (by decide)).symm) ((Int32.toInt_inj.mp (c.2.1.trans (ti_of hv.1 hv.2).symm)).trans (if_pos rfl).symm) ((Int32.toInt_inj.mp c.2.2.1).trans (if_neg (by decide)).symm) ((Int32.toInt_inj.mp c.2.2.2.1).trans (if_neg (by decide)).symm)⟩⟩
    · intro τ y hB1 F1 q _ _ c
      have q0 := q.1
      have q1 := q.2.1
      have q2 := q.2.2.1
      have q3 := q.2.2.2.1
      have q4 := q.2.2.2.2.1
      exact ⟨hB1, FQ.up rfl F1, Or.inl ⟨(show ¬ ((1 = 0 ∧ 0 ≤ v ∧ v ≤ 100) ∨ (1 = 1 ∧ 0 ≤ v ∧ v ≤ 99) ∨ (1 = 2 ∧ 0 ≤ v ∧ v ≤ 1) ∨ (1 = 3 ∧ 1 ≤ v ∧ v ≤ 52)) by omega), rfl, row4 (Int32.toInt_inj.mp c.1) (Int32.toInt_inj.mp c.2.1) (Int32.toInt_inj.mp c.2.2.1) (Int32.toInt_inj.mp c.2.2.2.1)⟩⟩
  · subst h
    refine zx_zxc_set2 v (σ.1 2 0).toInt (σ.1 2 1).toInt (σ.1 2 2).toInt (σ.1 2 3).toInt hB ⟨hv, b0, b1, b2, b3, trivial⟩ ⟨rfl, rfl, rfl, rfl, trivial⟩ ?_ ?_ ?_
    · intro τ y hB1 F1 q _ _ c
      have q0 := q.1
      have q1 := q.2.1
      have q2 := q.2.2.1
      have q3 := q.2.2.2.1
      have q4 := q.2.2.2.2.1
      exact ⟨hB1, FQ.up rfl F1, Or.inl ⟨(show ¬ ((2 = 0 ∧ 0 ≤ v ∧ v ≤ 100) ∨ (2 = 1 ∧ 0 ≤ v ∧ v ≤ 99) ∨ (2 = 2 ∧ 0 ≤ v ∧ v ≤ 1) ∨ (2 = 3 ∧ 1 ≤ v ∧ v ≤ 52)) by omega), rfl, row4 (Int32.toInt_inj.mp c.1) (Int32.toInt_inj.mp c.2.1) (Int32.toInt_inj.mp c.2.2.1) (Int32.toInt_inj.mp c.2.2.2.1)⟩⟩
    · intro τ y hB1 F1 q _ _ c
      have q0 := q.1
      have q1 := q.2.1
      have q2 := q.2.2.1
      have q3 := q.2.2.2.1
      have q4 := q.2.2.2.2.1
      exact ⟨hB1, FQ.up rfl F1, Or.inr ⟨(show ((2 = 0 ∧ 0 ≤ v ∧ v ≤ 100) ∨ (2 = 1 ∧ 0 ≤ v ∧ v ≤ 99) ∨ (2 = 2 ∧ 0 ≤ v ∧ v ≤ 1) ∨ (2 = 3 ∧ 1 ≤ v ∧ v ≤ 52)) by omega), rfl, row4 (g := fun j => if (j : Int) = 2 then Int32.ofInt v else σ.1 2 j) ((Int32.toInt_inj.mp c.1).trans (if_neg (by decide)).symm) ((Int32.toInt_inj.mp c.2.1).trans (if_neg (by decide)).symm) ((Int32.toInt_inj.mp (c.2.2.1.trans (ti_of hv.1 hv.2).symm)).trans (if_pos rfl).symm) ((Int32.toInt_inj.mp c.2.2.2.1).trans (if_neg (by decide)).symm)⟩⟩
    · intro τ y hB1 F1 q _ _ c
      have q0 := q.1
      have q1 := q.2.1
      have q2 := q.2.2.1
      have q3 := q.2.2.2.1
      have q4 := q.2.2.2.2.1
      exact ⟨hB1, FQ.up rfl F1, Or.inl ⟨(show ¬ ((2 = 0 ∧ 0 ≤ v ∧ v ≤ 100) ∨ (2 = 1 ∧ 0 ≤ v ∧ v ≤ 99) ∨ (2 = 2 ∧ 0 ≤ v ∧ v ≤ 1) ∨ (2 = 3 ∧ 1 ≤ v ∧ v ≤ 52)) by omega), rfl, row4 (Int32.toInt_inj.mp c.1) (Int32.toInt_inj.mp c.2.1) (Int32.toInt_inj.mp c.2.2.1) (Int32.toInt_inj.mp c.2.2.2.1)⟩⟩
  · subst h
    refine zx_zxc_set3 v (σ.1 2 0).toInt (σ.1 2 1).toInt (σ.1 2 2).toInt (σ.1 2 3).toInt hB ⟨hv, b0, b1, b2, b3, trivial⟩ ⟨rfl, rfl, rfl, rfl, trivial⟩ ?_ ?_ ?_
    · intro τ y hB1 F1 q _ _ c
      have q0 := q.1
      have q1 := q.2.1
      have q2 := q.2.2.1
      have q3 := q.2.2.2.1
      have q4 := q.2.2.2.2.1
      exact ⟨hB1, FQ.up rfl F1, Or.inl ⟨(show ¬ ((3 = 0 ∧ 0 ≤ v ∧ v ≤ 100) ∨ (3 = 1 ∧ 0 ≤ v ∧ v ≤ 99) ∨ (3 = 2 ∧ 0 ≤ v ∧ v ≤ 1) ∨ (3 = 3 ∧ 1 ≤ v ∧ v ≤ 52)) by omega), rfl, row4 (Int32.toInt_inj.mp c.1) (Int32.toInt_inj.mp c.2.1) (Int32.toInt_inj.mp c.2.2.1) (Int32.toInt_inj.mp c.2.2.2.1)⟩⟩
    · intro τ y hB1 F1 q _ _ c
      have q0 := q.1
      have q1 := q.2.1
      have q2 := q.2.2.1
      have q3 := q.2.2.2.1
      have q4 := q.2.2.2.2.1
      exact ⟨hB1, FQ.up rfl F1, Or.inr ⟨(show ((3 = 0 ∧ 0 ≤ v ∧ v ≤ 100) ∨ (3 = 1 ∧ 0 ≤ v ∧ v ≤ 99) ∨ (3 = 2 ∧ 0 ≤ v ∧ v ≤ 1) ∨ (3 = 3 ∧ 1 ≤ v ∧ v ≤ 52)) by omega), rfl, row4 (g := fun j => if (j : Int) = 3 then Int32.ofInt v else σ.1 2 j) ((Int32.toInt_inj.mp c.1).trans (if_neg (by decide)).symm) ((Int32.toInt_inj.mp c.2.1).trans (if_neg (by decide)).symm) ((Int32.toInt_inj.mp c.2.2.1).trans (if_neg (by decide)).symm) ((Int32.toInt_inj.mp (c.2.2.2.1.trans (ti_of hv.1 hv.2).symm)).trans (if_pos rfl).symm)⟩⟩
    · intro τ y hB1 F1 q _ _ c
      have q0 := q.1
      have q1 := q.2.1
      have q2 := q.2.2.1
      have q3 := q.2.2.2.1
      have q4 := q.2.2.2.2.1
      exact ⟨hB1, FQ.up rfl F1, Or.inl ⟨(show ¬ ((3 = 0 ∧ 0 ≤ v ∧ v ≤ 100) ∨ (3 = 1 ∧ 0 ≤ v ∧ v ≤ 99) ∨ (3 = 2 ∧ 0 ≤ v ∧ v ≤ 1) ∨ (3 = 3 ∧ 1 ≤ v ∧ v ≤ 52)) by omega), rfl, row4 (Int32.toInt_inj.mp c.1) (Int32.toInt_inj.mp c.2.1) (Int32.toInt_inj.mp c.2.2.1) (Int32.toInt_inj.mp c.2.2.2.1)⟩⟩
  · refine zx_zxc_setp v (σ.1 2 0).toInt (σ.1 2 1).toInt (σ.1 2 2).toInt (σ.1 2 3).toInt z hB ⟨hv, b0, b1, b2, b3, ⟨by omega, by omega⟩, trivial⟩ ⟨rfl, rfl, rfl, rfl, trivial⟩ ?_
    · intro τ y hB1 F1 q _ _ c
      have q0 := q.1
      have q1 := q.2.1
      have q2 := q.2.2.1
      have q3 := q.2.2.2.1
      have q4 := q.2.2.2.2.1
      have q5 := q.2.2.2.2.2.1
      exact ⟨hB1, FQ.up rfl F1, Or.inl ⟨(show ¬ ((z = 0 ∧ 0 ≤ v ∧ v ≤ 100) ∨ (z = 1 ∧ 0 ≤ v ∧ v ≤ 99) ∨ (z = 2 ∧ 0 ≤ v ∧ v ≤ 1) ∨ (z = 3 ∧ 1 ≤ v ∧ v ≤ 52)) by omega), rfl, row4 (Int32.toInt_inj.mp c.1) (Int32.toInt_inj.mp c.2.1) (Int32.toInt_inj.mp c.2.2.1) (Int32.toInt_inj.mp c.2.2.2.1)⟩⟩
set_option maxRecDepth 100000 in
theorem zx_zxm_setn {σ : pm_S} {Q : Option Value → pm_S → Prop} (x0 x1 x2 x3 x4 x5 : Int)  (hB : an_GB pm_B σ) (eF : ((-2147483648) ≤ x0 ∧ x0 ≤ 2147483647) ∧ (0 ≤ x1 ∧ x1 ≤ 100) ∧ (0 ≤ x2 ∧ x2 ≤ 99) ∧ (0 ≤ x3 ∧ x3 ≤ 1) ∧ (1 ≤ x4 ∧ x4 ≤ 52) ∧ ((-2147483648) ≤ x5 ∧ x5 ≤ (-1)) ∧ True) (eC : (σ.1 108 0).toInt = x1 ∧ (σ.1 108 1).toInt = x2 ∧ (σ.1 108 2).toInt = x3 ∧ (σ.1 108 3).toInt = x4 ∧ True)
    (l0 : ∀ (τ : pm_S) (y : Nat → Int), an_GB pm_B τ → FQ [(93, 0), (108, 9999)] σ τ → (((-2147483648) ≤ x0 ∧ x0 ≤ 2147483647) ∧ (0 ≤ x1 ∧ x1 ≤ 100) ∧ (0 ≤ x2 ∧ x2 ≤ 99) ∧ (0 ≤ x3 ∧ x3 ≤ 1) ∧ (1 ≤ x4 ∧ x4 ≤ 52) ∧ ((-2147483648) ≤ x5 ∧ x5 ≤ (-1)) ∧ True) → (True) → (True) → ((τ.1 108 0).toInt = x1 ∧ (τ.1 108 1).toInt = x2 ∧ (τ.1 108 2).toInt = x3 ∧ (τ.1 108 3).toInt = x4 ∧ True) → Q (some (.int (Int32.ofInt 0))) τ)
    : Ok 172 21 0 [.ref 93, .int (Int32.ofInt (x5)), .int (Int32.ofInt (x0))] [] σ Q := by
  refine an_seg (B := pm_B) (F := [(93, 0), (108, 9999)]) (T := [108]) (S := []) (fun _ h => absurd h List.not_mem_nil) (k := 172) (d := 20) (cs := []) 18 0 6 [(0, (-2147483648), 2147483647), (1, 0, 100), (2, 0, 99), (3, 0, 1), (4, 1, 52), (5, (-2147483648), (-1))] [(108, (1, 0, 0), (0, 1, 0)), (108, (1, 0, 1), (0, 2, 0)), (108, (1, 0, 2), (0, 3, 0)), (108, (1, 0, 3), (0, 4, 0))] [(2, 93, 0), (0, 5, 0), (0, 0, 0)] [] [(9999, [], [(1, 0, 0)], [(0, (-2147483648), 2147483647), (1, 0, 100), (2, 0, 99), (3, 0, 1), (4, 1, 52), (5, (-2147483648), (-1))], [], [], [(108, (1, 0, 0), (0, 1, 0)), (108, (1, 0, 1), (0, 2, 0)), (108, (1, 0, 2), (0, 3, 0)), (108, (1, 0, 3), (0, 4, 0))])] (by decide +kernel) (ρ0 := (fun s => [x0, x1, x2, x3, x4, x5].getD s 0)) hB eF eC ⟨rfl, ⟨rfl, ⟨rfl, trivial⟩⟩⟩ trivial ?_
  refine List.forall_mem_cons.mpr ⟨?_, fun _ h => absurd h List.not_mem_nil⟩
  · intro ρ τ Lc stc hx g1 g2 g3 g4 g5 g6 g7 g8
    have e0 : ρ 0 = x0 := hx 0 (by decide)
    have e1 : ρ 1 = x1 := hx 1 (by decide)
    have e2 : ρ 2 = x2 := hx 2 (by decide)
    have e3 : ρ 3 = x3 := hx 3 (by decide)
    have e4 : ρ 4 = x4 := hx 4 (by decide)
    have e5 : ρ 5 = x5 := hx 5 (by decide)
    subst e0
    subst e1
    subst e2
    subst e3
    subst e4
    subst e5
    match stc, g8 with
    | [_], ⟨h, _⟩ => cases h; exact l0 τ ρ g1 g2 g3 g4 g5 g6
set_option maxRecDepth 100000 in
theorem zx_zxm_set0 {σ : pm_S} {Q : Option Value → pm_S → Prop} (x0 x1 x2 x3 x4 : Int)  (hB : an_GB pm_B σ) (eF : ((-2147483648) ≤ x0 ∧ x0 ≤ 2147483647) ∧ (0 ≤ x1 ∧ x1 ≤ 100) ∧ (0 ≤ x2 ∧ x2 ≤ 99) ∧ (0 ≤ x3 ∧ x3 ≤ 1) ∧ (1 ≤ x4 ∧ x4 ≤ 52) ∧ True) (eC : (σ.1 108 0).toInt = x1 ∧ (σ.1 108 1).toInt = x2 ∧ (σ.1 108 2).toInt = x3 ∧ (σ.1 108 3).toInt = x4 ∧ True)
    (l0 : ∀ (τ : pm_S) (y : Nat → Int), an_GB pm_B τ → FQ [(93, 0), (108, 9999)] σ τ → (((-2147483648) ≤ x0 ∧ x0 ≤ (-1)) ∧ (0 ≤ x1 ∧ x1 ≤ 100) ∧ (0 ≤ x2 ∧ x2 ≤ 99) ∧ (0 ≤ x3 ∧ x3 ≤ 1) ∧ (1 ≤ x4 ∧ x4 ≤ 52) ∧ True) → (True) → (True) → ((τ.1 108 0).toInt = x1 ∧ (τ.1 108 1).toInt = x2 ∧ (τ.1 108 2).toInt = x3 ∧ (τ.1 108 3).toInt = x4 ∧ True) → Q (some (.int (Int32.ofInt 0))) τ)
    (l1 : ∀ (τ : pm_S) (y : Nat → Int), an_GB pm_B τ → FQ [(93, 0), (108, 9999)] σ τ → ((101 ≤ x0 ∧ x0 ≤ 2147483647) ∧ (0 ≤ x1 ∧ x1 ≤ 100) ∧ (0 ≤ x2 ∧ x2 ≤ 99) ∧ (0 ≤ x3 ∧ x3 ≤ 1) ∧ (1 ≤ x4 ∧ x4 ≤ 52) ∧ True) → (True) → (True) → ((τ.1 108 0).toInt = x1 ∧ (τ.1 108 1).toInt = x2 ∧ (τ.1 108 2).toInt = x3 ∧ (τ.1 108 3).toInt = x4 ∧ True) → Q (some (.int (Int32.ofInt 0))) τ)
    (l2 : ∀ (τ : pm_S) (y : Nat → Int), an_GB pm_B τ → FQ [(93, 0), (108, 9999)] σ τ → ((0 ≤ x0 ∧ x0 ≤ 100) ∧ (0 ≤ x1 ∧ x1 ≤ 100) ∧ (0 ≤ x2 ∧ x2 ≤ 99) ∧ (0 ≤ x3 ∧ x3 ≤ 1) ∧ (1 ≤ x4 ∧ x4 ≤ 52) ∧ True) → (True) → (True) → ((τ.1 108 0).toInt = x0 ∧ (τ.1 108 1).toInt = x2 ∧ (τ.1 108 2).toInt = x3 ∧ (τ.1 108 3).toInt = x4 ∧ True) → Q (some (.int (Int32.ofInt 1))) τ)
    : Ok 172 21 0 [.ref 93, .int (Int32.ofInt 0), .int (Int32.ofInt (x0))] [] σ Q := by
  refine an_seg (B := pm_B) (F := [(93, 0), (108, 9999)]) (T := [108]) (S := []) (fun _ h => absurd h List.not_mem_nil) (k := 172) (d := 20) (cs := []) 56 0 5 [(0, (-2147483648), 2147483647), (1, 0, 100), (2, 0, 99), (3, 0, 1), (4, 1, 52)] [(108, (1, 0, 0), (0, 1, 0)), (108, (1, 0, 1), (0, 2, 0)), (108, (1, 0, 2), (0, 3, 0)), (108, (1, 0, 3), (0, 4, 0))] [(2, 93, 0), (1, 0, 0), (0, 0, 0)] [] [(9999, [], [(1, 0, 0)], [(0, (-2147483648), (-1)), (1, 0, 100), (2, 0, 99), (3, 0, 1), (4, 1, 52)], [], [], [(108, (1, 0, 0), (0, 1, 0)), (108, (1, 0, 1), (0, 2, 0)), (108, (1, 0, 2), (0, 3, 0)), (108, (1, 0, 3), (0, 4, 0))]),
    (9999, [], [(1, 0, 0)], [(0, 101, 2147483647), (1, 0, 100), (2, 0, 99), (3, 0, 1), (4, 1, 52)], [], [], [(108, (1, 0, 0), (0, 1, 0)), (108, (1, 0, 1), (0, 2, 0)), (108, (1, 0, 2), (0, 3, 0)), (108, (1, 0, 3), (0, 4, 0))]),
    (9999, [], [(1, 0, 1)], [(0, 0, 100), (1, 0, 100), (2, 0, 99), (3, 0, 1), (4, 1, 52)], [], [], [(108, (1, 0, 0), (0, 0, 0)), (108, (1, 0, 1), (0, 2, 0)), (108, (1, 0, 2), (0, 3, 0)), (108, (1, 0, 3), (0, 4, 0))])] (by decide +kernel) (ρ0 := (fun s => [x0, x1, x2, x3, x4].getD s 0)) hB eF eC ⟨rfl, ⟨rfl, ⟨rfl, trivial⟩⟩⟩ trivial ?_
  refine List.forall_mem_cons.mpr ⟨?_, List.forall_mem_cons.mpr ⟨?_, List.forall_mem_cons.mpr ⟨?_, fun _ h => absurd h List.not_mem_nil⟩⟩⟩
  · intro ρ τ Lc stc hx g1 g2 g3 g4 g5 g6 g7 g8
    have e0 : ρ 0 = x0 := hx 0 (by decide)
    have e1 : ρ 1 = x1 := hx 1 (by decide)
    have e2 : ρ 2 = x2 := hx 2 (by decide)
    have e3 : ρ 3 = x3 := hx 3 (by decide)
    have e4 : ρ 4 = x4 := hx 4 (by decide)
    subst e0
    subst e1
    subst e2
    subst e3
    subst e4
    match stc, g8 with
    | [_], ⟨h, _⟩ => cases h; exact l0 τ ρ g1 g2 g3 g4 g5 g6
  · intro ρ τ Lc stc hx g1 g2 g3 g4 g5 g6 g7 g8
    have e0 : ρ 0 = x0 := hx 0 (by decide)
    have e1 : ρ 1 = x1 := hx 1 (by decide)
    have e2 : ρ 2 = x2 := hx 2 (by decide)
    have e3 : ρ 3 = x3 := hx 3 (by decide)
    have e4 : ρ 4 = x4 := hx 4 (by decide)
    subst e0
    subst e1
    subst e2
    subst e3
    subst e4
    match stc, g8 with
    | [_], ⟨h, _⟩ => cases h; exact l1 τ ρ g1 g2 g3 g4 g5 g6
  · intro ρ τ Lc stc hx g1 g2 g3 g4 g5 g6 g7 g8
    have e0 : ρ 0 = x0 := hx 0 (by decide)
    have e1 : ρ 1 = x1 := hx 1 (by decide)
    have e2 : ρ 2 = x2 := hx 2 (by decide)
    have e3 : ρ 3 = x3 := hx 3 (by decide)
    have e4 : ρ 4 = x4 := hx 4 (by decide)
    subst e0
    subst e1
    subst e2
    subst e3
    subst e4
    match stc, g8 with
    | [_], ⟨h, _⟩ => cases h; exact l2 τ ρ g1 g2 g3 g4 g5 g6
set_option maxRecDepth 100000 in
theorem zx_zxm_set1 {σ : pm_S} {Q : Option Value → pm_S → Prop} (x0 x1 x2 x3 x4 : Int)  (hB : an_GB pm_B σ) (eF : ((-2147483648) ≤ x0 ∧ x0 ≤ 2147483647) ∧ (0 ≤ x1 ∧ x1 ≤ 100) ∧ (0 ≤ x2 ∧ x2 ≤ 99) ∧ (0 ≤ x3 ∧ x3 ≤ 1) ∧ (1 ≤ x4 ∧ x4 ≤ 52) ∧ True) (eC : (σ.1 108 0).toInt = x1 ∧ (σ.1 108 1).toInt = x2 ∧ (σ.1 108 2).toInt = x3 ∧ (σ.1 108 3).toInt = x4 ∧ True)
    (l0 : ∀ (τ : pm_S) (y : Nat → Int), an_GB pm_B τ → FQ [(93, 0), (108, 9999)] σ τ → (((-2147483648) ≤ x0 ∧ x0 ≤ (-1)) ∧ (0 ≤ x1 ∧ x1 ≤ 100) ∧ (0 ≤ x2 ∧ x2 ≤ 99) ∧ (0 ≤ x3 ∧ x3 ≤ 1) ∧ (1 ≤ x4 ∧ x4 ≤ 52) ∧ True) → (True) → (True) → ((τ.1 108 0).toInt = x1 ∧ (τ.1 108 1).toInt = x2 ∧ (τ.1 108 2).toInt = x3 ∧ (τ.1 108 3).toInt = x4 ∧ True) → Q (some (.int (Int32.ofInt 0))) τ)
    (l1 : ∀ (τ : pm_S) (y : Nat → Int), an_GB pm_B τ → FQ [(93, 0), (108, 9999)] σ τ → ((100 ≤ x0 ∧ x0 ≤ 2147483647) ∧ (0 ≤ x1 ∧ x1 ≤ 100) ∧ (0 ≤ x2 ∧ x2 ≤ 99) ∧ (0 ≤ x3 ∧ x3 ≤ 1) ∧ (1 ≤ x4 ∧ x4 ≤ 52) ∧ True) → (True) → (True) → ((τ.1 108 0).toInt = x1 ∧ (τ.1 108 1).toInt = x2 ∧ (τ.1 108 2).toInt = x3 ∧ (τ.1 108 3).toInt = x4 ∧ True) → Q (some (.int (Int32.ofInt 0))) τ)
    (l2 : ∀ (τ : pm_S) (y : Nat → Int), an_GB pm_B τ → FQ [(93, 0), (108, 9999)] σ τ → ((0 ≤ x0 ∧ x0 ≤ 99) ∧ (0 ≤ x1 ∧ x1 ≤ 100) ∧ (0 ≤ x2 ∧ x2 ≤ 99) ∧ (0 ≤ x3 ∧ x3 ≤ 1) ∧ (1 ≤ x4 ∧ x4 ≤ 52) ∧ True) → (True) → (True) → ((τ.1 108 0).toInt = x1 ∧ (τ.1 108 1).toInt = x0 ∧ (τ.1 108 2).toInt = x3 ∧ (τ.1 108 3).toInt = x4 ∧ True) → Q (some (.int (Int32.ofInt 1))) τ)
    : Ok 172 21 0 [.ref 93, .int (Int32.ofInt 1), .int (Int32.ofInt (x0))] [] σ Q := by
  refine an_seg (B := pm_B) (F := [(93, 0), (108, 9999)]) (T := [108]) (S := []) (fun _ h => absurd h List.not_mem_nil) (k := 172) (d := 20) (cs := []) 59 0 5 [(0, (-2147483648), 2147483647), (1, 0, 100), (2, 0, 99), (3, 0, 1), (4, 1, 52)] [(108, (1, 0, 0), (0, 1, 0)), (108, (1, 0, 1), (0, 2, 0)), (108, (1, 0, 2), (0, 3, 0)), (108, (1, 0, 3), (0, 4, 0))] [(2, 93, 0), (1, 0, 1), (0, 0, 0)] [] [(9999, [], [(1, 0, 0)], [(0, (-2147483648), (-1)), (1, 0, 100), (2, 0, 99), (3, 0, 1), (4, 1, 52)], [], [], [(108, (1, 0, 0), (0, 1, 0)), (108, (1, 0, 1), (0, 2, 0)), (108, (1, 0, 2), (0, 3, 0)), (108, (1, 0, 3), (0, 4, 0))]),
    (9999, [], [(1, 0, 0)], [(0, 100, 2147483647), (1, 0, 100), (2, 0, 99), (3, 0, 1), (4, 1, 52)], [], [], [(108, (1, 0, 0), (0, 1, 0)), (108, (1, 0, 1), (0, 2, 0)), (108, (1, 0, 2), (0, 3, 0)), (108, (1, 0, 3), (0, 4, 0))]),
    (9999, [], [(1, 0, 1)], [(0, 0, 99), (1, 0, 100), (2, 0, 99), (3, 0, 1), (4, 1, 52)], [], [], [(108, (1, 0, 0), (0, 1, 0)), (108, (1, 0, 1), (0, 0, 0)), (108, (1, 0, 2), (0, 3, 0)), (108, (1, 0, 3), (0, 4, 0))])] (by decide +kernel) (ρ0 := (fun s => [x0, x1, x2, x3, x4].getD s 0)) hB eF eC ⟨rfl, ⟨rfl, ⟨rfl, trivial⟩⟩⟩ trivial ?_
  refine List.forall_mem_cons.mpr ⟨?_, List.forall_mem_cons.mpr ⟨?_, List.forall_mem_cons.mpr ⟨?_, fun _ h => absurd h List.not_mem_nil⟩⟩⟩
  · intro ρ τ Lc stc hx g1 g2 g3 g4 g5 g6 g7 g8
    have e0 : ρ 0 = x0 := hx 0 (by decide)
    have e1 : ρ 1 = x1 := hx 1 (by decide)
    have e2 : ρ 2 = x2 := hx 2 (by decide)
    have e3 : ρ 3 = x3 := hx 3 (by decide)
    have e4 : ρ 4 = x4 := hx 4 (by decide)
    subst e0
    subst e1
    subst e2
    subst e3
    subst e4
    match stc, g8 with
    | [_], ⟨h, _⟩ => cases h; exact l0 τ ρ g1 g2 g3 g4 g5 g6
  · intro ρ τ Lc stc hx g1 g2 g3 g4 g5 g6 g7 g8
    have e0 : ρ 0 = x0 := hx 0 (by decide)
    have e1 : ρ 1 = x1 := hx 1 (by decide)
    have e2 : ρ 2 = x2 := hx 2 (by decide)
    have e3 : ρ 3 = x3 := hx 3 (by decide)
    have e4 : ρ 4 = x4 := hx 4 (by decide)
    subst e0
    subst e1
    subst e2
    subst e3
    subst e4
    match stc, g8 with
    | [_], ⟨h, _⟩ => cases h; exact l1 τ ρ g1 g2 g3 g4 g5 g6
  · intro ρ τ Lc stc hx g1 g2 g3 g4 g5 g6 g7 g8
    have e0 : ρ 0 = x0 := hx 0 (by decide)
    have e1 : ρ 1 = x1 := hx 1 (by decide)
    have e2 : ρ 2 = x2 := hx 2 (by decide)
    have e3 : ρ 3 = x3 := hx 3 (by decide)
    have e4 : ρ 4 = x4 := hx 4 (by decide)
    subst e0
    subst e1
    subst e2
    subst e3
    subst e4
    match stc, g8 with
    | [_], ⟨h, _⟩ => cases h; exact l2 τ ρ g1 g2 g3 g4 g5 g6
set_option maxRecDepth 100000 in
theorem zx_zxm_set2 {σ : pm_S} {Q : Option Value → pm_S → Prop} (x0 x1 x2 x3 x4 : Int)  (hB : an_GB pm_B σ) (eF : ((-2147483648) ≤ x0 ∧ x0 ≤ 2147483647) ∧ (0 ≤ x1 ∧ x1 ≤ 100) ∧ (0 ≤ x2 ∧ x2 ≤ 99) ∧ (0 ≤ x3 ∧ x3 ≤ 1) ∧ (1 ≤ x4 ∧ x4 ≤ 52) ∧ True) (eC : (σ.1 108 0).toInt = x1 ∧ (σ.1 108 1).toInt = x2 ∧ (σ.1 108 2).toInt = x3 ∧ (σ.1 108 3).toInt = x4 ∧ True)
    (l0 : ∀ (τ : pm_S) (y : Nat → Int), an_GB pm_B τ → FQ [(93, 0), (108, 9999)] σ τ → (((-2147483648) ≤ x0 ∧ x0 ≤ (-1)) ∧ (0 ≤ x1 ∧ x1 ≤ 100) ∧ (0 ≤ x2 ∧ x2 ≤ 99) ∧ (0 ≤ x3 ∧ x3 ≤ 1) ∧ (1 ≤ x4 ∧ x4 ≤ 52) ∧ True) → (True) → (True) → ((τ.1 108 0).toInt = x1 ∧ (τ.1 108 1).toInt = x2 ∧ (τ.1 108 2).toInt = x3 ∧ (τ.1 108 3).toInt = x4 ∧ True) → Q (some (.int (Int32.ofInt 0))) τ)
    (l1 : ∀ (τ : pm_S) (y : Nat → Int), an_GB pm_B τ → FQ [(93, 0), (108, 9999)] σ τ → ((2 ≤ x0 ∧ x0 ≤ 2147483647) ∧ (0 ≤ x1 ∧ x1 ≤ 100) ∧ (0 ≤ x2 ∧ x2 ≤ 99) ∧ (0 ≤ x3 ∧ x3 ≤ 1) ∧ (1 ≤ x4 ∧ x4 ≤ 52) ∧ True) → (True) → (True) → ((τ.1 108 0).toInt = x1 ∧ (τ.1 108 1).toInt = x2 ∧ (τ.1 108 2).toInt = x3 ∧ (τ.1 108 3).toInt = x4 ∧ True) → Q (some (.int (Int32.ofInt 0))) τ)
    (l2 : ∀ (τ : pm_S) (y : Nat → Int), an_GB pm_B τ → FQ [(93, 0), (108, 9999)] σ τ → ((0 ≤ x0 ∧ x0 ≤ 1) ∧ (0 ≤ x1 ∧ x1 ≤ 100) ∧ (0 ≤ x2 ∧ x2 ≤ 99) ∧ (0 ≤ x3 ∧ x3 ≤ 1) ∧ (1 ≤ x4 ∧ x4 ≤ 52) ∧ True) → (True) → (True) → ((τ.1 108 0).toInt = x1 ∧ (τ.1 108 1).toInt = x2 ∧ (τ.1 108 2).toInt = x0 ∧ (τ.1 108 3).toInt = x4 ∧ True) → Q (some (.int (Int32.ofInt 1))) τ)
    : Ok 172 21 0 [.ref 93, .int (Int32.ofInt 2), .int (Int32.ofInt (x0))] [] σ Q := by
  refine an_seg (B := pm_B) (F := [(93, 0), (108, 9999)]) (T := [108]) (S := []) (fun _ h => absurd h List.not_mem_nil) (k := 172) (d := 20) (cs := []) 62 0 5 [(0, (-2147483648), 2147483647), (1, 0, 100), (2, 0, 99), (3, 0, 1), (4, 1, 52)] [(108, (1, 0, 0), (0, 1, 0)), (108, (1, 0, 1), (0, 2, 0)), (108, (1, 0, 2), (0, 3, 0)), (108, (1, 0, 3), (0, 4, 0))] [(2, 93, 0), (1, 0, 2), (0, 0, 0)] [] [(9999, [], [(1, 0, 0)], [(0, (-2147483648), (-1)), (1, 0, 100), (2, 0, 99), (3, 0, 1), (4, 1, 52)], [], [], [(108, (1, 0, 0), (0, 1, 0)), (108, (1, 0, 1), (0, 2, 0)), (108, (1, 0, 2), (0, 3, 0)), (108, (1, 0, 3), (0, 4, 0))]),
    (9999, [], [(1, 0, 0)], [(0, 2, 2147483647), (1, 0, 100), (2, 0, 99), (3, 0, 1), (4, 1, 52)], [], [], [(108, (1, 0, 0), (0, 1, 0)), (108, (1, 0, 1), (0, 2, 0)), (108, (1, 0, 2), (0, 3, 0)), (108, (1, 0, 3), (0, 4, 0))]),
    (9999, [], [(1, 0, 1)], [(0, 0, 1), (1, 0, 100), (2, 0, 99), (3, 0, 1), (4, 1, 52)], [], [], [(108, (1, 0, 0), (0, 1, 0)), (108, (1, 0, 1), (0, 2, 0)), (108, (1, 0, 2), (0, 0, 0)), (108, (1, 0, 3), (0, 4, 0))])] (by decide +kernel) (ρ0 := (fun s => [x0, x1, x2, x3, x4].getD s 0)) hB eF eC ⟨rfl, ⟨rfl, ⟨rfl, trivial⟩⟩⟩ trivial ?_
  refine List.forall_mem_cons.mpr ⟨?_, List.forall_mem_cons.mpr ⟨?_, List.forall_mem_cons.mpr ⟨?_, fun _ h => absurd h List.not_mem_nil⟩⟩⟩
  · intro ρ τ Lc stc hx g1 g2 g3 g4 g5 g6 g7 g8
    have e0 : ρ 0 = x0 := hx 0 (by decide)
    have e1 : ρ 1 = x1 := hx 1 (by decide)
    have e2 : ρ 2 = x2 := hx 2 (by decide)
    have e3 : ρ 3 = x3 := hx 3 (by decide)
    have e4 : ρ 4 = x4 := hx 4 (by decide)
    subst e0
    subst e1
    subst e2
    subst e3
    subst e4
    match stc, g8 with
    | [_], ⟨h, _⟩ => cases h; exact l0 τ ρ g1 g2 g3 g4 g5 g6
  · intro ρ τ Lc stc hx g1 g2 g3 g4 g5 g6 g7 g8
    have e0 : ρ 0 = x0 := hx 0 (by decide)
    have e1 : ρ 1 = x1 := hx 1 (by decide)
    have e2 : ρ 2 = x2 := hx 2 (by decide)
    have e3 : ρ 3 = x3 := hx 3 (by decide)
    have e4 : ρ 4 = x4 := hx 4 (by decide)
    subst e0
    subst e1
    subst e2
    subst e3
    subst e4
    match stc, g8 with
    | [_], ⟨h, _⟩ => cases h; exact l1 τ ρ g1 g2 g3 g4 g5 g6
  · intro ρ τ Lc stc hx g1 g2 g3 g4 g5 g6 g7 g8
    have e0 : ρ 0 = x0 := hx 0 (by decide)
    have e1 : ρ 1 = x1 := hx 1 (by decide)
    have e2 : ρ 2 = x2 := hx 2 (by decide)
    have e3 : ρ 3 = x3 := hx 3 (by decide)
    have e4 : ρ 4 = x4 := hx 4 (by decide)
    subst e0
    subst e1
    subst e2
    subst e3
    subst e4
    match stc, g8 with
    | [_], ⟨h, _⟩ => cases h; exact l2 τ ρ g1 g2 g3 g4 g5 g6
set_option maxRecDepth 100000 in
theorem zx_zxm_set3 {σ : pm_S} {Q : Option Value → pm_S → Prop} (x0 x1 x2 x3 x4 : Int)  (hB : an_GB pm_B σ) (eF : ((-2147483648) ≤ x0 ∧ x0 ≤ 2147483647) ∧ (0 ≤ x1 ∧ x1 ≤ 100) ∧ (0 ≤ x2 ∧ x2 ≤ 99) ∧ (0 ≤ x3 ∧ x3 ≤ 1) ∧ (1 ≤ x4 ∧ x4 ≤ 52) ∧ True) (eC : (σ.1 108 0).toInt = x1 ∧ (σ.1 108 1).toInt = x2 ∧ (σ.1 108 2).toInt = x3 ∧ (σ.1 108 3).toInt = x4 ∧ True)
    (l0 : ∀ (τ : pm_S) (y : Nat → Int), an_GB pm_B τ → FQ [(93, 0), (108, 9999)] σ τ → (((-2147483648) ≤ x0 ∧ x0 ≤ 0) ∧ (0 ≤ x1 ∧ x1 ≤ 100) ∧ (0 ≤ x2 ∧ x2 ≤ 99) ∧ (0 ≤ x3 ∧ x3 ≤ 1) ∧ (1 ≤ x4 ∧ x4 ≤ 52) ∧ True) → (True) → (True) → ((τ.1 108 0).toInt = x1 ∧ (τ.1 108 1).toInt = x2 ∧ (τ.1 108 2).toInt = x3 ∧ (τ.1 108 3).toInt = x4 ∧ True) → Q (some (.int (Int32.ofInt 0))) τ)
    (l1 : ∀ (τ : pm_S) (y : Nat → Int), an_GB pm_B τ → FQ [(93, 0), (108, 9999)] σ τ → ((53 ≤ x0 ∧ x0 ≤ 2147483647) ∧ (0 ≤ x1 ∧ x1 ≤ 100) ∧ (0 ≤ x2 ∧ x2 ≤ 99) ∧ (0 ≤ x3 ∧ x3 ≤ 1) ∧ (1 ≤ x4 ∧ x4 ≤ 52) ∧ True) → (True) → (True) → ((τ.1 108 0).toInt = x1 ∧ (τ.1 108 1).toInt = x2 ∧ (τ.1 108 2).toInt = x3 ∧ (τ.1 108 3).toInt = x4 ∧ True) → Q (some (.int (Int32.ofInt 0))) τ)
    (l2 : ∀ (τ : pm_S) (y : Nat → Int), an_GB pm_B τ → FQ [(93, 0), (108, 9999)] σ τ → ((1 ≤ x0 ∧ x0 ≤ 52) ∧ (0 ≤ x1 ∧ x1 ≤ 100) ∧ (0 ≤ x2 ∧ x2 ≤ 99) ∧ (0 ≤ x3 ∧ x3 ≤ 1) ∧ (1 ≤ x4 ∧ x4 ≤ 52) ∧ True) → (True) → (True) → ((τ.1 108 0).toInt = x1 ∧ (τ.1 108 1).toInt = x2 ∧ (τ.1 108 2).toInt = x3 ∧ (τ.1 108 3).toInt = x0 ∧ True) → Q (some (.int (Int32.ofInt 1))) τ)
    : Ok 172 21 0 [.ref 93, .int (Int32.ofInt 3), .int (Int32.ofInt (x0))] [] σ Q := by
  refine an_seg (B := pm_B) (F := [(93, 0), (108, 9999)]) (T := [108]) (S := []) (fun _ h => absurd h List.not_mem_nil) (k := 172) (d := 20) (cs := []) 62 0 5 [(0, (-2147483648), 2147483647), (1, 0, 100), (2, 0, 99), (3, 0, 1), (4, 1, 52)] [(108, (1, 0, 0), (0, 1, 0)), (108, (1, 0, 1), (0, 2, 0)), (108, (1, 0, 2), (0, 3, 0)), (108, (1, 0, 3), (0, 4, 0))] [(2, 93, 0), (1, 0, 3), (0, 0, 0)] [] [(9999, [], [(1, 0, 0)], [(0, (-2147483648), 0), (1, 0, 100), (2, 0, 99), (3, 0, 1), (4, 1, 52)], [], [], [(108, (1, 0, 0), (0, 1, 0)), (108, (1, 0, 1), (0, 2, 0)), (108, (1, 0, 2), (0, 3, 0)), (108, (1, 0, 3), (0, 4, 0))]),
    (9999, [], [(1, 0, 0)], [(0, 53, 2147483647), (1, 0, 100), (2, 0, 99), (3, 0, 1), (4, 1, 52)], [], [], [(108, (1, 0, 0), (0, 1, 0)), (108, (1, 0, 1), (0, 2, 0)), (108, (1, 0, 2), (0, 3, 0)), (108, (1, 0, 3), (0, 4, 0))]),
    (9999, [], [(1, 0, 1)], [(0, 1, 52), (1, 0, 100), (2, 0, 99), (3, 0, 1), (4, 1, 52)], [], [], [(108, (1, 0, 0), (0, 1, 0)), (108, (1, 0, 1), (0, 2, 0)), (108, (1, 0, 2), (0, 3, 0)), (108, (1, 0, 3), (0, 0, 0))])] (by decide +kernel) (ρ0 := (fun s => [x0, x1, x2, x3, x4].getD s 0)) hB eF eC ⟨rfl, ⟨rfl, ⟨rfl, trivial⟩⟩⟩ trivial ?_
  refine List.forall_mem_cons.mpr ⟨?_, List.forall_mem_cons.mpr ⟨?_, List.forall_mem_cons.mpr ⟨?_, fun _ h => absurd h List.not_mem_nil⟩⟩⟩
  · intro ρ τ Lc stc hx g1 g2 g3 g4 g5 g6 g7 g8
    have e0 : ρ 0 = x0 := hx 0 (by decide)
    have e1 : ρ 1 = x1 := hx 1 (by decide)
    have e2 : ρ 2 = x2 := hx 2 (by decide)
    have e3 : ρ 3 = x3 := hx 3 (by decide)
    have e4 : ρ 4 = x4 := hx 4 (by decide)
    subst e0
    subst e1
    subst e2
    subst e3
    subst e4
    match stc, g8 with
    | [_], ⟨h, _⟩ => cases h; exact l0 τ ρ g1 g2 g3 g4 g5 g6
  · intro ρ τ Lc stc hx g1 g2 g3 g4 g5 g6 g7 g8
    have e0 : ρ 0 = x0 := hx 0 (by decide)
    have e1 : ρ 1 = x1 := hx 1 (by decide)
    have e2 : ρ 2 = x2 := hx 2 (by decide)
    have e3 : ρ 3 = x3 := hx 3 (by decide)
    have e4 : ρ 4 = x4 := hx 4 (by decide)
    subst e0
    subst e1
    subst e2
    subst e3
    subst e4
    match stc, g8 with
    | [_], ⟨h, _⟩ => cases h; exact l1 τ ρ g1 g2 g3 g4 g5 g6
  · intro ρ τ Lc stc hx g1 g2 g3 g4 g5 g6 g7 g8
    have e0 : ρ 0 = x0 := hx 0 (by decide)
    have e1 : ρ 1 = x1 := hx 1 (by decide)
    have e2 : ρ 2 = x2 := hx 2 (by decide)
    have e3 : ρ 3 = x3 := hx 3 (by decide)
    have e4 : ρ 4 = x4 := hx 4 (by decide)
    subst e0
    subst e1
    subst e2
    subst e3
    subst e4
    match stc, g8 with
    | [_], ⟨h, _⟩ => cases h; exact l2 τ ρ g1 g2 g3 g4 g5 g6
set_option maxRecDepth 100000 in
theorem zx_zxm_setp {σ : pm_S} {Q : Option Value → pm_S → Prop} (x0 x1 x2 x3 x4 x5 : Int)  (hB : an_GB pm_B σ) (eF : ((-2147483648) ≤ x0 ∧ x0 ≤ 2147483647) ∧ (0 ≤ x1 ∧ x1 ≤ 100) ∧ (0 ≤ x2 ∧ x2 ≤ 99) ∧ (0 ≤ x3 ∧ x3 ≤ 1) ∧ (1 ≤ x4 ∧ x4 ≤ 52) ∧ (4 ≤ x5 ∧ x5 ≤ 2147483647) ∧ True) (eC : (σ.1 108 0).toInt = x1 ∧ (σ.1 108 1).toInt = x2 ∧ (σ.1 108 2).toInt = x3 ∧ (σ.1 108 3).toInt = x4 ∧ True)
    (l0 : ∀ (τ : pm_S) (y : Nat → Int), an_GB pm_B τ → FQ [(93, 0), (108, 9999)] σ τ → (((-2147483648) ≤ x0 ∧ x0 ≤ 2147483647) ∧ (0 ≤ x1 ∧ x1 ≤ 100) ∧ (0 ≤ x2 ∧ x2 ≤ 99) ∧ (0 ≤ x3 ∧ x3 ≤ 1) ∧ (1 ≤ x4 ∧ x4 ≤ 52) ∧ (4 ≤ x5 ∧ x5 ≤ 2147483647) ∧ True) → (True) → (True) → ((τ.1 108 0).toInt = x1 ∧ (τ.1 108 1).toInt = x2 ∧ (τ.1 108 2).toInt = x3 ∧ (τ.1 108 3).toInt = x4 ∧ True) → Q (some (.int (Int32.ofInt 0))) τ)
    : Ok 172 21 0 [.ref 93, .int (Int32.ofInt (x5)), .int (Int32.ofInt (x0))] [] σ Q := by
  refine an_seg (B := pm_B) (F := [(93, 0), (108, 9999)]) (T := [108]) (S := []) (fun _ h => absurd h List.not_mem_nil) (k := 172) (d := 20) (cs := []) 21 0 6 [(0, (-2147483648), 2147483647), (1, 0, 100), (2, 0, 99), (3, 0, 1), (4, 1, 52), (5, 4, 2147483647)] [(108, (1, 0, 0), (0, 1, 0)), (108, (1, 0, 1), (0, 2, 0)), (108, (1, 0, 2), (0, 3, 0)), (108, (1, 0, 3), (0, 4, 0))] [(2, 93, 0), (0, 5, 0), (0, 0, 0)] [] [(9999, [], [(1, 0, 0)], [(0, (-2147483648), 2147483647), (1, 0, 100), (2, 0, 99), (3, 0, 1), (4, 1, 52), (5, 4, 2147483647)], [], [], [(108, (1, 0, 0), (0, 1, 0)), (108, (1, 0, 1), (0, 2, 0)), (108, (1, 0, 2), (0, 3, 0)), (108, (1, 0, 3), (0, 4, 0))])] (by decide +kernel) (ρ0 := (fun s => [x0, x1, x2, x3, x4, x5].getD s 0)) hB eF eC ⟨rfl, ⟨rfl, ⟨rfl, trivial⟩⟩⟩ trivial ?_
  refine List.forall_mem_cons.mpr ⟨?_, fun _ h => absurd h List.not_mem_nil⟩
  · intro ρ τ Lc stc hx g1 g2 g3 g4 g5 g6 g7 g8
    have e0 : ρ 0 = x0 := hx 0 (by decide)
    have e1 : ρ 1 = x1 := hx 1 (by decide)
    have e2 : ρ 2 = x2 := hx 2 (by decide)
    have e3 : ρ 3 = x3 := hx 3 (by decide)
    have e4 : ρ 4 = x4 := hx 4 (by decide)
    have e5 : ρ 5 = x5 := hx 5 (by decide)
    subst e0
    subst e1
    subst e2
    subst e3
    subst e4
    subst e5
    match stc, g8 with
    | [_], ⟨h, _⟩ => cases h; exact l0 τ ρ g1 g2 g3 g4 g5 g6
set_option maxRecDepth 20000 in
theorem zxm_set {σ : pm_S} (z v : Int) (hz : (-2147483648) ≤ z ∧ z ≤ 2147483647) (hv : (-2147483648) ≤ v ∧ v ≤ 2147483647) (hB : an_GB pm_B σ) : Sp 172 21 [.ref 93, .int (Int32.ofInt z), .int (Int32.ofInt v)] σ (QSet 108 [(93, 0), (108, 9999)] σ z v) := by
  have b0 : 0 ≤ (σ.1 108 0).toInt ∧ (σ.1 108 0).toInt ≤ 100 := hB 108 0 (by decide)
  have b1 : 0 ≤ (σ.1 108 1).toInt ∧ (σ.1 108 1).toInt ≤ 99 := hB 108 1 (by decide)
  have b2 : 0 ≤ (σ.1 108 2).toInt ∧ (σ.1 108 2).toInt ≤ 1 := hB 108 2 (by decide)
  have b3 : 1 ≤ (σ.1 108 3).toInt ∧ (σ.1 108 3).toInt ≤ 52 := hB 108 3 (by decide)
  refine Sp.at rfl rfl ?_
  rcases (show z ≤ -1 ∨ z = 0 ∨ z = 1 ∨ z = 2 ∨ z = 3 ∨ 4 ≤ z by omega) with h | h | h | h | h | h
  · refine zx_zxm_setn v (σ.1 108 0).toInt (σ.1 108 1).toInt (σ.1 108 2).toInt (σ.1 108 3).toInt z hB ⟨hv, b0, b1, b2, b3, ⟨by omega, by omega⟩, trivial⟩ ⟨rfl, rfl, rfl, rfl, trivial⟩ ?_
    · intro τ y hB1 F1 q _ _ c
      have q0 := q.1
      have q1 := q.2.1
      have q2 := q.2.2.1
      have q3 := q.2.2.2.1
      have q4 := q.2.2.2.2.1
      have q5 := q.2.2.2.2.2.1
      exact ⟨hB1, FQ.up rfl F1, Or.inl ⟨(show ¬ ((z = 0 ∧ 0 ≤ v ∧ v ≤ 100) ∨ (z = 1 ∧ 0 ≤ v ∧ v ≤ 99) ∨ (z = 2 ∧ 0 ≤ v ∧ v ≤ 1) ∨ (z = 3 ∧ 1 ≤ v ∧ v ≤ 52)) by omega), rfl, row4 (Int32.toInt_inj.mp c.1) (Int32.toInt_inj.mp c.2.1) (Int32.toInt_inj.mp c.2.2.1) (Int32.toInt_inj.mp c.2.2.2.1)⟩⟩
  · subst h
    refine zx_zxm_set0 v (σ.1 108 0).toInt (σ.1 108 1).toInt (σ.1 108 2).toInt (σ.1 108 3).toInt hB ⟨hv, b0, b1, b2, b3, trivial⟩ ⟨rfl, rfl, rfl, rfl, trivial⟩ ?_ ?_ ?_
    · intro τ y hB1 F1 q _ _ c
      have q0 := q.1
      have q1 := q.2.1
      have q2 := q.2.2.1
      have q3 := q.2.2.2.1
      have q4 := q.2.2.2.2.1
      exact ⟨hB1, FQ.up rfl F1, Or.inl ⟨(show ¬ ((0 = 0 ∧ 0 ≤ v ∧ v ≤ 100) ∨ (0 = 1 ∧ 0 ≤ v ∧ v ≤ 99) ∨ (0 = 2 ∧ 0 ≤ v ∧ v ≤ 1) ∨ (0 = 3 ∧ 1 ≤ v ∧ v ≤ 52)) by omega), rfl, row4 (Int32.toInt_inj.mp c.1) (Int32.toInt_inj.mp c.2.1) (Int32.toInt_inj.mp c.2.2.1) (Int32.toInt_inj.mp c.2.2.2.1)⟩⟩
    · intro τ y hB1 F1 q _ _ c
      have q0 := q.1
      have q1 := q.2.1
      have q2 := q.2.2.1
      have q3 := q.2.2.2.1
      have q4 := q.2.2.2.2.1
      exact ⟨hB1, FQ.up rfl F1, Or.inl ⟨(show ¬ ((0 = 0 ∧ 0 ≤ v ∧ v ≤ 100) ∨ (0 = 1 ∧ 0 ≤ v ∧ v ≤ 99) ∨ (0 = 2 ∧ 0 ≤ v ∧ v ≤ 1) ∨ (0 = 3 ∧ 1 ≤ v ∧ v ≤ 52)) by omega), rfl, row4 (Int32.toInt_inj.mp c.1) (Int32.toInt_inj.mp c.2.1) (Int32.toInt_inj.mp c.2.2.1) (Int32.toInt_inj.mp c.2.2.2.1)⟩⟩
    · intro τ y hB1 F1 q _ _ c
      have q0 := q.1
      have q1 := q.2.1
      have q2 := q.2.2.1
      have q3 := q.2.2.2.1
      have q4 := q.2.2.2.2.1
      exact ⟨hB1, FQ.up rfl F1, Or.inr ⟨(show ((0 = 0 ∧ 0 ≤ v ∧ v ≤ 100) ∨ (0 = 1 ∧ 0 ≤ v ∧ v ≤ 99) ∨ (0 = 2 ∧ 0 ≤ v ∧ v ≤ 1) ∨ (0 = 3 ∧ 1 ≤ v ∧ v ≤ 52)) by omega), rfl, row4 (g := fun j => if (j : Int) = 0 then Int32.ofInt v else σ.1 108 j) ((Int32.toInt_inj.mp (c.1.trans (ti_of hv.1 hv.2).symm)).trans (if_pos rfl).symm) ((Int32.toInt_inj.mp c.2.1).trans (if_neg (by decide)).symm) ((Int32.toInt_inj.mp c.2.2.1).trans (if_neg (by decide)).symm) ((Int32.toInt_inj.mp c.2.2.2.1).trans (if_neg (by decide)).symm)⟩⟩
  · subst h
    refine zx_zxm_set1 v (σ.1 108 0).toInt (σ.1 108 1).toInt (σ.1 108 2).toInt (σ.1 108 3).toInt hB ⟨hv, b0, b1, b2, b3, trivial⟩ ⟨rfl, rfl, rfl, rfl, trivial⟩ ?_ ?_ ?_
    · intro τ y hB1 F1 q _ _ c
      have q0 := q.1
      have q1 := q.2.1
      have q2 := q.2.2.1
      have q3 := q.2.2.2.1
      have q4 := q.2.2.2.2.1
      exact ⟨hB1, FQ.up rfl F1, Or.inl ⟨(show ¬ ((1 = 0 ∧ 0 ≤ v ∧ v ≤ 100) ∨ (1 = 1 ∧ 0 ≤ v ∧ v ≤ 99) ∨ (1 = 2 ∧ 0 ≤ v ∧ v ≤ 1) ∨ (1 = 3 ∧ 1 ≤ v ∧ v ≤ 52)) by omega), rfl, row4 (Int32.toInt_inj.mp c.1) (Int32.toInt_inj.mp c.2.1) (Int32.toInt_inj.mp c.2.2.1) (Int32.toInt_inj.mp c.2.2.2.1)⟩⟩
    · intro τ y hB1 F1 q _ _ c
      have q0 := q.1
      have q1 := q.2.1
      have q2 := q.2.2.1
      have q3 := q.2.2.2.1
      have q4 := q.2.2.2.2.1
      exact ⟨hB1, FQ.up rfl F1, Or.inl ⟨(show ¬ ((1 = 0 ∧ 0 ≤ v ∧ v ≤ 100) ∨ (1 = 1 ∧ 0 ≤ v ∧ v ≤ 99) ∨ (1 = 2 ∧ 0 ≤ v ∧ v ≤ 1) ∨ (1 = 3 ∧ 1 ≤ v ∧ v ≤ 52)) by omega), rfl, row4 (Int32.toInt_inj.mp c.1) (Int32.toInt_inj.mp c.2.1) (Int32.toInt_inj.mp c.2.2.1) (Int32.toInt_inj.mp c.2.2.2.1)⟩⟩
    · intro τ y hB1 F1 q _ _ c
      have q0 := q.1
      have q1 := q.2.1
      have q2 := q.2.2.1
      have q3 := q.2.2.2.1
      have q4 := q.2.2.2.2.1
      exact ⟨hB1, FQ.up rfl F1, Or.inr ⟨(show ((1 = 0 ∧ 0 ≤ v ∧ v ≤ 100) ∨ (1 = 1 ∧ 0 ≤ v ∧ v ≤ 99) ∨ (1 = 2 ∧ 0 ≤ v ∧ v ≤ 1) ∨ (1 = 3 ∧ 1 ≤ v ∧ v ≤ 52)) by omega), rfl, row4 (g := fun j => if (j : Int) = 1 then Int32.ofInt v else σ.1 108 j) ((Int32.toInt_inj.mp c.1).trans (if_neg (by decide)).symm) ((Int32.toInt_inj.mp (c.2.1.trans (ti_of hv.1 hv.2).symm)).trans (if_pos rfl).symm) ((Int32.toInt_inj.mp c.2.2.1).trans (if_neg (by decide)).symm) ((Int32.toInt_inj.mp c.2.2.2.1).trans (if_neg (by decide)).symm)⟩⟩
  · subst h
    refine zx_zxm_set2 v (σ.1 108 0).toInt (σ.1 108 1).toInt (σ.1 108 2).toInt (σ.1 108 3).toInt hB ⟨hv, b0, b1, b2, b3, trivial⟩ ⟨rfl, rfl, rfl, rfl, trivial⟩ ?_ ?_ ?_
    · intro τ y hB1 F1 q _ _ c
      have q0 := q.1
      have q1 := q.2.1
      have q2 := q.2.2.1
      have q3 := q.2.2.2.1
      have q4 := q.2.2.2.2.1
      exact ⟨hB1, FQ.up rfl F1, Or.inl ⟨(show ¬ ((2 = 0 ∧ 0 ≤ v ∧ v ≤ 100) ∨ (2 = 1 ∧ 0 ≤ v ∧ v ≤ 99) ∨ (2 = 2 ∧ 0 ≤ v ∧ v ≤ 1) ∨ (2 = 3 ∧ 1 ≤ v ∧ v ≤ 52)) by omega), rfl, row4 (Int32.toInt_inj.mp c.1) (Int32.toInt_inj.mp c.2.1) (Int32.toInt_inj.mp c.2.2.1) (Int32.toInt_inj.mp c.2.2.2.1)⟩⟩
    · intro τ y hB1 F1 q _ _ c
      have q0 := q.1
      have q1 := q.2.1
      have q2 := q.2.2.1
      have q3 := q.2.2.2.1
      have q4 := q.2.2.2.2.1
      exact ⟨hB1, FQ.up rfl F1, Or.inl ⟨(show ¬ ((2 = 0 ∧ 0 ≤ v ∧ v ≤ 100) ∨ (2 = 1 ∧ 0 ≤ v ∧ v ≤ 99) ∨ (2 = 2 ∧ 0 ≤ v ∧ v ≤ 1) ∨ (2 = 3 ∧ 1 ≤ v ∧ v ≤ 52)) by omega), rfl, row4 (Int32.toInt_inj.mp c.1) (Int32.toInt_inj.mp c.2.1) (Int32.toInt_inj.mp c.2.2.1) (Int32.toInt_inj.mp c.2.2.2.1)⟩⟩
    · intro τ y hB1 F1 q _ _ c
      have q0 := q.1
      have q1 := q.2.1
      have q2 := q.2.2.1
      have q3 := q.2.2.2.1
      have q4 := q.2.2.2.2.1
      exact ⟨hB1, FQ.up rfl F1, Or.inr ⟨(show ((2 = 0 ∧ 0 ≤ v ∧ v ≤ 100) ∨ (2 = 1 ∧ 0 ≤ v ∧ v ≤ 99) ∨ (2 = 2 ∧ 0 ≤ v ∧ v ≤ 1) ∨ (2 = 3 ∧ 1 ≤ v ∧ v ≤ 52)) by omega), rfl, row4 (g := fun j => if (j : Int) = 2 then Int32.ofInt v else σ.1 108 j) ((Int32.toInt_inj.mp c.1).trans (if_neg (by decide)).symm) ((Int32.toInt_inj.mp c.2.1).trans (if_neg (by decide)).symm) ((Int32.toInt_inj.mp (c.2.2.1.trans (ti_of hv.1 hv.2).symm)).trans (if_pos rfl).symm) ((Int32.toInt_inj.mp c.2.2.2.1).trans (if_neg (by decide)).symm)⟩⟩
  · subst h
    refine zx_zxm_set3 v (σ.1 108 0).toInt (σ.1 108 1).toInt (σ.1 108 2).toInt (σ.1 108 3).toInt hB ⟨hv, b0, b1, b2, b3, trivial⟩ ⟨rfl, rfl, rfl, rfl, trivial⟩ ?_ ?_ ?_
    · intro τ y hB1 F1 q _ _ c
      have q0 := q.1
      have q1 := q.2.1
      have q2 := q.2.2.1
      have q3 := q.2.2.2.1
      have q4 := q.2.2.2.2.1
      exact ⟨hB1, FQ.up rfl F1, Or.inl ⟨(show ¬ ((3 = 0 ∧ 0 ≤ v ∧ v ≤ 100) ∨ (3 = 1 ∧ 0 ≤ v ∧ v ≤ 99) ∨ (3 = 2 ∧ 0 ≤ v ∧ v ≤ 1) ∨ (3 = 3 ∧ 1 ≤ v ∧ v ≤ 52)) by omega), rfl, row4 (Int32.toInt_inj.mp c.1) (Int32.toInt_inj.mp c.2.1) (Int32.toInt_inj.mp c.2.2.1) (Int32.toInt_inj.mp c.2.2.2.1)⟩⟩
    · intro τ y hB1 F1 q _ _ c
      have q0 := q.1
      have q1 := q.2.1
      have q2 := q.2.2.1
      have q3 := q.2.2.2.1
      have q4 := q.2.2.2.2.1
      exact ⟨hB1, FQ.up rfl F1, Or.inl ⟨(show ¬ ((3 = 0 ∧ 0 ≤ v ∧ v ≤ 100) ∨ (3 = 1 ∧ 0 ≤ v ∧ v ≤ 99) ∨ (3 = 2 ∧ 0 ≤ v ∧ v ≤ 1) ∨ (3 = 3 ∧ 1 ≤ v ∧ v ≤ 52)) by omega), rfl, row4 (Int32.toInt_inj.mp c.1) (Int32.toInt_inj.mp c.2.1) (Int32.toInt_inj.mp c.2.2.1) (Int32.toInt_inj.mp c.2.2.2.1)⟩⟩
    · intro τ y hB1 F1 q _ _ c
      have q0 := q.1
      have q1 := q.2.1
      have q2 := q.2.2.1
      have q3 := q.2.2.2.1
      have q4 := q.2.2.2.2.1
      exact ⟨hB1, FQ.up rfl F1, Or.inr ⟨(show ((3 = 0 ∧ 0 ≤ v ∧ v ≤ 100) ∨ (3 = 1 ∧ 0 ≤ v ∧ v ≤ 99) ∨ (3 = 2 ∧ 0 ≤ v ∧ v ≤ 1) ∨ (3 = 3 ∧ 1 ≤ v ∧ v ≤ 52)) by omega), rfl, row4 (g := fun j => if (j : Int) = 3 then Int32.ofInt v else σ.1 108 j) ((Int32.toInt_inj.mp c.1).trans (if_neg (by decide)).symm) ((Int32.toInt_inj.mp c.2.1).trans (if_neg (by decide)).symm) ((Int32.toInt_inj.mp c.2.2.1).trans (if_neg (by decide)).symm) ((Int32.toInt_inj.mp (c.2.2.2.1.trans (ti_of hv.1 hv.2).symm)).trans (if_pos rfl).symm)⟩⟩
  · refine zx_zxm_setp v (σ.1 108 0).toInt (σ.1 108 1).toInt (σ.1 108 2).toInt (σ.1 108 3).toInt z hB ⟨hv, b0, b1, b2, b3, ⟨by omega, by omega⟩, trivial⟩ ⟨rfl, rfl, rfl, rfl, trivial⟩ ?_
    · intro τ y hB1 F1 q _ _ c
      have q0 := q.1
      have q1 := q.2.1
      have q2 := q.2.2.1
      have q3 := q.2.2.2.1
      have q4 := q.2.2.2.2.1
      have q5 := q.2.2.2.2.2.1
      exact ⟨hB1, FQ.up rfl F1, Or.inl ⟨(show ¬ ((z = 0 ∧ 0 ≤ v ∧ v ≤ 100) ∨ (z = 1 ∧ 0 ≤ v ∧ v ≤ 99) ∨ (z = 2 ∧ 0 ≤ v ∧ v ≤ 1) ∨ (z = 3 ∧ 1 ≤ v ∧ v ≤ 52)) by omega), rfl, row4 (Int32.toInt_inj.mp c.1) (Int32.toInt_inj.mp c.2.1) (Int32.toInt_inj.mp c.2.2.1) (Int32.toInt_inj.mp c.2.2.2.1)⟩⟩
