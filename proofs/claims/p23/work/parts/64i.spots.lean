/-! spots, people, debts, lines as keys -/
set_option maxRecDepth 100000 in
theorem sg_csp {σ : pm_S} {Q : Option Value → pm_S → Prop} (x0 x1 : Int)  (hB : an_GB pm_B σ) (eF : ((-2147483648) ≤ x0 ∧ x0 ≤ 2147483647) ∧ (0 ≤ x1 ∧ x1 ≤ 10) ∧ True) (eC : (σ.1 3 0).toInt = x1 ∧ True)
    (l0 : ∀ (τ : pm_S) (y : Nat → Int), an_GB pm_B τ → FQ [(3, 0), (4, 9999)] σ τ → (((-2147483648) ≤ x0 ∧ x0 ≤ (-1)) ∧ (0 ≤ x1 ∧ x1 ≤ 10) ∧ True) → (True) → (True) → ((τ.1 3 0).toInt = x1 ∧ True) → Q (some (.int (Int32.ofInt (-1)))) τ)
    (l1 : ∀ (τ : pm_S) (y : Nat → Int), an_GB pm_B τ → FQ [(3, 0), (4, 9999)] σ τ → ((100 ≤ x0 ∧ x0 ≤ 2147483647) ∧ (0 ≤ x1 ∧ x1 ≤ 10) ∧ True) → (True) → (True) → ((τ.1 3 0).toInt = x1 ∧ True) → Q (some (.int (Int32.ofInt (-1)))) τ)
    (l2 : ∀ (τ : pm_S) (y : Nat → Int), an_GB pm_B τ → FQ [(3, 0), (4, 9999)] σ τ → ((0 ≤ x0 ∧ x0 ≤ 99) ∧ (0 ≤ x1 ∧ x1 ≤ 9) ∧ True) → (True) → (True) → ((τ.1 3 0).toInt = x1 + 1 ∧ True) → Q (some (.int (Int32.ofInt (x1)))) τ)
    (l3 : ∀ (τ : pm_S) (y : Nat → Int), an_GB pm_B τ → FQ [(3, 0), (4, 9999)] σ τ → ((0 ≤ x0 ∧ x0 ≤ 99) ∧ (10 ≤ x1 ∧ x1 ≤ 10) ∧ True) → (True) → (True) → ((τ.1 3 0).toInt = x1 ∧ True) → Q (some (.int (Int32.ofInt (-1)))) τ)
    : Ok 129 21 0 [.ref 0, .int (Int32.ofInt (x0))] [] σ Q := by
  refine an_seg (B := pm_B) (F := [(3, 0), (4, 9999)]) (T := []) (S := []) (fun _ h => absurd h List.not_mem_nil) (k := 129) (d := 20) (cs := []) 34 0 2 [(0, (-2147483648), 2147483647), (1, 0, 10)] [(3, (1, 0, 0), (0, 1, 0))] [(2, 0, 0), (0, 0, 0)] [] [(9999, [], [(1, 0, (-1))], [(0, (-2147483648), (-1)), (1, 0, 10)], [], [], [(3, (1, 0, 0), (0, 1, 0))]),
    (9999, [], [(1, 0, (-1))], [(0, 100, 2147483647), (1, 0, 10)], [], [], [(3, (1, 0, 0), (0, 1, 0))]),
    (9999, [], [(0, 1, 0)], [(0, 0, 99), (1, 0, 9)], [], [], [(3, (1, 0, 0), (0, 1, 1))]),
    (9999, [], [(1, 0, (-1))], [(0, 0, 99), (1, 10, 10)], [], [], [(3, (1, 0, 0), (0, 1, 0))])] (by decide +kernel) (ρ0 := (fun s => [x0, x1].getD s 0)) hB eF eC ⟨rfl, ⟨rfl, trivial⟩⟩ trivial ?_
  refine List.forall_mem_cons.mpr ⟨?_, List.forall_mem_cons.mpr ⟨?_, List.forall_mem_cons.mpr ⟨?_, List.forall_mem_cons.mpr ⟨?_, fun _ h => absurd h List.not_mem_nil⟩⟩⟩⟩
  · intro ρ τ Lc stc hx g1 g2 g3 g4 g5 g6 g7 g8
    have e0 : ρ 0 = x0 := hx 0 (by decide)
    have e1 : ρ 1 = x1 := hx 1 (by decide)
    subst e0
    subst e1
    match stc, g8 with
    | [_], ⟨h, _⟩ => cases h; exact l0 τ ρ g1 g2 g3 g4 g5 g6
  · intro ρ τ Lc stc hx g1 g2 g3 g4 g5 g6 g7 g8
    have e0 : ρ 0 = x0 := hx 0 (by decide)
    have e1 : ρ 1 = x1 := hx 1 (by decide)
    subst e0
    subst e1
    match stc, g8 with
    | [_], ⟨h, _⟩ => cases h; exact l1 τ ρ g1 g2 g3 g4 g5 g6
  · intro ρ τ Lc stc hx g1 g2 g3 g4 g5 g6 g7 g8
    have e0 : ρ 0 = x0 := hx 0 (by decide)
    have e1 : ρ 1 = x1 := hx 1 (by decide)
    subst e0
    subst e1
    match stc, g8 with
    | [_], ⟨h, _⟩ => cases h; exact l2 τ ρ g1 g2 g3 g4 g5 g6
  · intro ρ τ Lc stc hx g1 g2 g3 g4 g5 g6 g7 g8
    have e0 : ρ 0 = x0 := hx 0 (by decide)
    have e1 : ρ 1 = x1 := hx 1 (by decide)
    subst e0
    subst e1
    match stc, g8 with
    | [_], ⟨h, _⟩ => cases h; exact l3 τ ρ g1 g2 g3 g4 g5 g6
set_option maxRecDepth 100000 in
theorem sg_msp {σ : pm_S} {Q : Option Value → pm_S → Prop} (x0 x1 : Int)  (hB : an_GB pm_B σ) (eF : ((-2147483648) ≤ x0 ∧ x0 ≤ 2147483647) ∧ (0 ≤ x1 ∧ x1 ≤ 10) ∧ True) (eC : (σ.1 93 2).toInt = x1 ∧ True)
    (l0 : ∀ (τ : pm_S) (y : Nat → Int), an_GB pm_B τ → FQ [(93, 0), (93, 2), (94, 9999)] σ τ → (((-2147483648) ≤ x0 ∧ x0 ≤ (-1)) ∧ (0 ≤ x1 ∧ x1 ≤ 10) ∧ True) → (True) → (True) → ((τ.1 93 2).toInt = x1 ∧ True) → Q (some (.int (Int32.ofInt (-1)))) τ)
    (l1 : ∀ (τ : pm_S) (y : Nat → Int), an_GB pm_B τ → FQ [(93, 0), (93, 2), (94, 9999)] σ τ → ((100 ≤ x0 ∧ x0 ≤ 2147483647) ∧ (0 ≤ x1 ∧ x1 ≤ 10) ∧ True) → (True) → (True) → ((τ.1 93 2).toInt = x1 ∧ True) → Q (some (.int (Int32.ofInt (-1)))) τ)
    (l2 : ∀ (τ : pm_S) (y : Nat → Int), an_GB pm_B τ → FQ [(93, 0), (93, 2), (94, 9999)] σ τ → ((0 ≤ x0 ∧ x0 ≤ 99) ∧ (0 ≤ x1 ∧ x1 ≤ 9) ∧ True) → (True) → (True) → ((τ.1 93 2).toInt = x1 + 1 ∧ True) → Q (some (.int (Int32.ofInt (x1)))) τ)
    (l3 : ∀ (τ : pm_S) (y : Nat → Int), an_GB pm_B τ → FQ [(93, 0), (93, 2), (94, 9999)] σ τ → ((0 ≤ x0 ∧ x0 ≤ 99) ∧ (10 ≤ x1 ∧ x1 ≤ 10) ∧ True) → (True) → (True) → ((τ.1 93 2).toInt = x1 ∧ True) → Q (some (.int (Int32.ofInt (-1)))) τ)
    : Ok 166 21 0 [.ref 93, .int (Int32.ofInt (x0))] [] σ Q := by
  refine an_seg (B := pm_B) (F := [(93, 0), (93, 2), (94, 9999)]) (T := []) (S := []) (fun _ h => absurd h List.not_mem_nil) (k := 166) (d := 20) (cs := []) 41 0 2 [(0, (-2147483648), 2147483647), (1, 0, 10)] [(93, (1, 0, 2), (0, 1, 0))] [(2, 93, 0), (0, 0, 0)] [] [(9999, [], [(1, 0, (-1))], [(0, (-2147483648), (-1)), (1, 0, 10)], [], [], [(93, (1, 0, 2), (0, 1, 0))]),
    (9999, [], [(1, 0, (-1))], [(0, 100, 2147483647), (1, 0, 10)], [], [], [(93, (1, 0, 2), (0, 1, 0))]),
    (9999, [], [(0, 1, 0)], [(0, 0, 99), (1, 0, 9)], [], [], [(93, (1, 0, 2), (0, 1, 1))]),
    (9999, [], [(1, 0, (-1))], [(0, 0, 99), (1, 10, 10)], [], [], [(93, (1, 0, 2), (0, 1, 0))])] (by decide +kernel) (ρ0 := (fun s => [x0, x1].getD s 0)) hB eF eC ⟨rfl, ⟨rfl, trivial⟩⟩ trivial ?_
  refine List.forall_mem_cons.mpr ⟨?_, List.forall_mem_cons.mpr ⟨?_, List.forall_mem_cons.mpr ⟨?_, List.forall_mem_cons.mpr ⟨?_, fun _ h => absurd h List.not_mem_nil⟩⟩⟩⟩
  · intro ρ τ Lc stc hx g1 g2 g3 g4 g5 g6 g7 g8
    have e0 : ρ 0 = x0 := hx 0 (by decide)
    have e1 : ρ 1 = x1 := hx 1 (by decide)
    subst e0
    subst e1
    match stc, g8 with
    | [_], ⟨h, _⟩ => cases h; exact l0 τ ρ g1 g2 g3 g4 g5 g6
  · intro ρ τ Lc stc hx g1 g2 g3 g4 g5 g6 g7 g8
    have e0 : ρ 0 = x0 := hx 0 (by decide)
    have e1 : ρ 1 = x1 := hx 1 (by decide)
    subst e0
    subst e1
    match stc, g8 with
    | [_], ⟨h, _⟩ => cases h; exact l1 τ ρ g1 g2 g3 g4 g5 g6
  · intro ρ τ Lc stc hx g1 g2 g3 g4 g5 g6 g7 g8
    have e0 : ρ 0 = x0 := hx 0 (by decide)
    have e1 : ρ 1 = x1 := hx 1 (by decide)
    subst e0
    subst e1
    match stc, g8 with
    | [_], ⟨h, _⟩ => cases h; exact l2 τ ρ g1 g2 g3 g4 g5 g6
  · intro ρ τ Lc stc hx g1 g2 g3 g4 g5 g6 g7 g8
    have e0 : ρ 0 = x0 := hx 0 (by decide)
    have e1 : ρ 1 = x1 := hx 1 (by decide)
    subst e0
    subst e1
    match stc, g8 with
    | [_], ⟨h, _⟩ => cases h; exact l3 τ ρ g1 g2 g3 g4 g5 g6
abbrev K3r : KY := [(0, 2, 93, 64), (36, 0, 133, 1)]
abbrev Ks : KY := (3, 0, 93, 2) :: K3r
theorem KE.c {q : Nat × Nat × Nat × Nat} {K : KY} {σ : pm_S} (h1 : (σ.1 q.1 q.2.1).toInt = (σ.1 q.2.2.1 q.2.2.2).toInt) (h2 : KE K σ) : KE (q :: K) σ := fun q2 hq => by
  rcases List.mem_cons.mp hq with rfl | hq
  · exact Int32.toInt_inj.mp h1
  · exact h2 q2 hq
theorem KE.d {q : Nat × Nat × Nat × Nat} {K : KY} {σ : pm_S} (h : KE (q :: K) σ) : (σ.1 q.1 q.2.1).toInt = (σ.1 q.2.2.1 q.2.2.2).toInt ∧ KE K σ := ⟨congrArg Int32.toInt (h q List.mem_cons_self), fun q2 hq => h q2 (List.mem_cons_of_mem _ hq)⟩
theorem t3_sp {σ τ τ2 : pm_S} {v1 v2 : Int} {n1 n2 : Int} (hI : IK Ks σ) (hF1 : FQ [(3, 0), (4, 9999)] σ τ) (hF2 : FQ [(93, 0), (93, 2), (94, 9999)] τ τ2) (hB2 : an_GB pm_B τ2) (c1 : (τ.1 3 0).toInt = n1) (c2 : (τ2.1 93 2).toInt = n2) (e : n1 = n2) (ev : v1 = v2) (h1 : n2 = cI σ 2 ∨ 1 ≤ n2) : an_sh 1 (some (.int (Int32.ofInt v2))) ∧ (true = true → some (Value.int (Int32.ofInt v1)) = some (.int (Int32.ofInt v2))) ∧ IK Ks τ2 := by
  have hPτ : mP τ := mP93 σ τ (fun p j hp => hF1 p j (an_foot93 rfl hp)) hI.2.1
  have k1 : KE K3r τ := (KX.of rfl hF1).ke (KE.d hI.2.2).2
  have k2 : KE K3r τ2 := (KX.of rfl hF2).ke k1
  have e2 : cI τ 2 = cI σ 2 := hF1.c 2 rfl
  refine ⟨⟨_, rfl⟩, fun _ => by rw [ev], hB2, ⟨⟨pPP.fr _ rfl rfl rfl rfl rfl rfl rfl rfl hF2 hPτ.1.1, ?_⟩, mP_img (hF2.c 64 rfl) (fun i => hF2 133 i rfl) hPτ⟩, KE.c (by
    show (τ2.1 3 0).toInt = (τ2.1 93 2).toInt
    rw [hF2 3 0 rfl]
    omega) k2⟩
  have e5 : cI τ2 5 = cI τ 5 := hF2.c 5 rfl
  have c2' : cI τ2 2 = n2 := c2
  rcases h1 with h | h
  · unfold sPP
    rw [e5, c2', h, ← e2]
    exact hPτ.1.2
  · exact Or.inl (by omega)
theorem ts_spot (a1 : Int32) : Two 1 true (IK Ks) (IK Ks) 129 166 [.int a1] := by
  intro σ hI
  have e : (σ.1 3 0).toInt = cI σ 2 := (KE.d hI.2.2).1
  have g : 0 ≤ cI σ 2 ∧ cI σ 2 ≤ 10 := hI.1 93 2 (by decide)
  refine Sp.up (D := 21) ?_ (by decide)
  refine Sp.at rfl rfl ?_
  show Ok 129 21 0 [.ref 0, .int a1] [] σ _
  rw [← oI a1]
  refine sg_csp a1.toInt (cI σ 2) hI.1 ⟨ai_rng a1, g, trivial⟩ ⟨e, trivial⟩ ?_ ?_ ?_ ?_ <;>
  · intro τ y hB1 hF1 f _ _ c
    have f1 := f.1
    have f2 := f.2.1
    refine ⟨⟨_, rfl⟩, Sp.up (D := 21) ?_ (by decide)⟩
    refine Sp.at rfl rfl ?_
    refine sg_msp a1.toInt (cI σ 2) hB1 ⟨ai_rng a1, g, trivial⟩ ⟨hF1.c 2 rfl, trivial⟩ ?_ ?_ ?_ ?_ <;>
    · intro τ2 y2 hB2 hF2 f3 _ _ c2
      have f4 := f3.1
      have f5 := f3.2.1
      first
        | (exfalso; omega)
        | exact t3_sp hI hF1 hF2 hB2 c.1 c2.1 (by omega) rfl (by omega)
