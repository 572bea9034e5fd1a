/-! rows exactly: a state that is another one but for some stores -/
def pu_v (f : Nat → Nat → Int32) : List (Nat × Nat × Int32) → Nat → Nat → Int32
  | [], p, j => f p j
  | q :: l, p, j => match Nat.beq p q.1 with
    | true => if j = q.2.1 then q.2.2 else pu_v f l p j
    | false => pu_v f l p j
/-- outside of F the state is that of σ with the stores l (the latest first) -/
def puF (F : List (Nat × Nat)) (l : List (Nat × Nat × Int32)) (σ τ : pm_S) : Prop := ∀ p j, an_inF F p j = false → τ.1 p j = pu_v σ.1 l p j
theorem pu_cg {f g : Nat → Nat → Int32} : ∀ (l : List (Nat × Nat × Int32)) (p j : Nat), f p j = g p j → pu_v f l p j = pu_v g l p j
  | [], _, _, h => h
  | q :: l, p, j, h => by
    unfold pu_v
    rw [pu_cg l p j h]
theorem pu_app (f : Nat → Nat → Int32) : ∀ (l m : List (Nat × Nat × Int32)) (p j : Nat), pu_v (pu_v f m) l p j = pu_v f (l ++ m) p j
  | [], _, _, _ => rfl
  | q :: l, m, p, j => by
    show (match Nat.beq p q.1 with
      | true => if j = q.2.1 then q.2.2 else pu_v (pu_v f m) l p j
      | false => pu_v (pu_v f m) l p j) = (match Nat.beq p q.1 with
      | true => if j = q.2.1 then q.2.2 else pu_v f (l ++ m) p j
      | false => pu_v f (l ++ m) p j)
    rw [pu_app f l m p j]
theorem pu_ne {f : Nat → Nat → Int32} {p : Nat} (j : Nat) : ∀ {l : List (Nat × Nat × Int32)}, l.all (fun q => !Nat.beq p q.1) = true → pu_v f l p j = f p j
  | [], _ => rfl
  | q :: l, h => by
    rw [List.all_cons, Bool.and_eq_true, Bool.not_eq_true'] at h
    unfold pu_v
    rw [h.1]
    exact pu_ne j h.2
theorem puF.rf (F : List (Nat × Nat)) (σ : pm_S) : puF F [] σ σ := fun _ _ _ => rfl
theorem puF.fq {F G : List (Nat × Nat)} {l : List (Nat × Nat × Int32)} {σ τ υ : pm_S} (hs : an_subF G F = true) (h : puF F l σ τ) (g : FQ G τ υ) : puF F l σ υ := fun p j q => (g p j (an_subF_ok hs q)).trans (h p j q)
theorem puF.put {F : List (Nat × Nat)} {l : List (Nat × Nat × Int32)} {σ τ : pm_S} {p y : Nat} {w : Int32} (h : puF F l σ τ) : puF F ((p, y, w) :: l) σ (put τ p y w) := fun p' j' q => by
  rw [put_get]
  show _ = (match Nat.beq p' p with
    | true => if j' = y then w else pu_v σ.1 l p' j'
    | false => pu_v σ.1 l p' j')
  split
  · rename_i e
    rw [if_pos e.2, e.1, Nat.beq_refl]
  · rename_i e
    rw [h p' j' q]
    split
    · rename_i e2
      rw [if_neg (fun z => e ⟨Nat.eq_of_beq_eq_true e2, z⟩)]
    · rfl
theorem puF.up {F G : List (Nat × Nat)} {l : List (Nat × Nat × Int32)} {σ τ : pm_S} (hs : an_subF F G = true) (h : puF F l σ τ) : puF G l σ τ := fun p j q => h p j (an_subF_ok hs q)
theorem puF.tr {F : List (Nat × Nat)} {l m : List (Nat × Nat × Int32)} {σ τ υ : pm_S} (h : puF F l σ τ) (g : puF F m τ υ) : puF F (m ++ l) σ υ := fun p j q => by
  rw [g p j q, ← pu_app]
  exact pu_cg m p j (h p j q)
theorem puF.nil {F : List (Nat × Nat)} {σ τ : pm_S} (h : puF F [] σ τ) : FQ F σ τ := h
/-- as a footprint -/
theorem puF.ft {F G : List (Nat × Nat)} {l : List (Nat × Nat × Int32)} {σ τ : pm_S} (hs : an_subF F G = true) (hl : l.all (fun q => an_inR G q.1) = true) (h : puF F l σ τ) : FQ G σ τ := fun p j q => by
  rw [h p j (an_subF_ok hs q)]
  refine pu_ne j (List.all_eq_true.mpr (fun r hr => ?_))
  rw [Bool.not_eq_true']
  refine Bool.eq_false_iff.mpr (fun e => ?_)
  have := an_inR_ok (List.all_eq_true.mp hl r hr) j
  rw [← Nat.eq_of_beq_eq_true e, q] at this
  cases this
set_option maxRecDepth 100000 in
theorem x_padd_s0 {σ : pm_S} {Q : Option Value → pm_S → Prop} (x0 x1 x2 x3 : Int) (v4 : Value) (hv4 : v4.category = 1) (hB : an_GB pm_B σ) (eF : (0 ≤ x0 ∧ x0 ≤ 9) ∧ ((-2147483648) ≤ x1 ∧ x1 ≤ 2147483647) ∧ ((-2147483648) ≤ x2 ∧ x2 ≤ 2147483647) ∧ (0 ≤ x3 ∧ x3 ≤ 10) ∧ True) (eC : (σ.1 7 0).toInt = x3 ∧ True)
    (l0 : ∀ (τ : pm_S) (y : Nat → Int), an_GB pm_B τ → FQ [(7, 0)] σ τ → ((0 ≤ x0 ∧ x0 ≤ 9) ∧ ((-2147483648) ≤ x1 ∧ x1 ≤ (-1)) ∧ ((-2147483648) ≤ x2 ∧ x2 ≤ 2147483647) ∧ (0 ≤ x3 ∧ x3 ≤ 10) ∧ True) → (True) → (True) → ((τ.1 7 0).toInt = x3 ∧ True) → Q (some (.int (Int32.ofInt (-1)))) τ)
    (l1 : ∀ (τ : pm_S) (y : Nat → Int), an_GB pm_B τ → FQ [(7, 0)] σ τ → ((0 ≤ x0 ∧ x0 ≤ 9) ∧ (100000 ≤ x1 ∧ x1 ≤ 2147483647) ∧ ((-2147483648) ≤ x2 ∧ x2 ≤ 2147483647) ∧ (0 ≤ x3 ∧ x3 ≤ 10) ∧ True) → (True) → (True) → ((τ.1 7 0).toInt = x3 ∧ True) → Q (some (.int (Int32.ofInt (-1)))) τ)
    (l2 : ∀ (τ : pm_S) (y : Nat → Int), an_GB pm_B τ → FQ [(7, 0)] σ τ → ((0 ≤ x0 ∧ x0 ≤ 9) ∧ (0 ≤ x1 ∧ x1 ≤ 99999) ∧ ((-2147483648) ≤ x2 ∧ x2 ≤ (-1)) ∧ (0 ≤ x3 ∧ x3 ≤ 10) ∧ True) → (True) → (True) → ((τ.1 7 0).toInt = x3 ∧ True) → Q (some (.int (Int32.ofInt (-1)))) τ)
    (l3 : ∀ (τ : pm_S) (y : Nat → Int), an_GB pm_B τ → FQ [(7, 0)] σ τ → ((0 ≤ x0 ∧ x0 ≤ 9) ∧ (0 ≤ x1 ∧ x1 ≤ 99999) ∧ (100 ≤ x2 ∧ x2 ≤ 2147483647) ∧ (0 ≤ x3 ∧ x3 ≤ 10) ∧ True) → (True) → (True) → ((τ.1 7 0).toInt = x3 ∧ True) → Q (some (.int (Int32.ofInt (-1)))) τ)
    (l4 : ∀ (τ : pm_S) (y : Nat → Int), an_GB pm_B τ → FQ [(7, 0)] σ τ → ((0 ≤ x0 ∧ x0 ≤ 9) ∧ (0 ≤ x1 ∧ x1 ≤ 99999) ∧ (0 ≤ x2 ∧ x2 ≤ 99) ∧ (0 ≤ x3 ∧ x3 ≤ 9) ∧ True) → (True) → (True) → ((τ.1 7 0).toInt = x3 ∧ True) → Ok 62 21 27 [.ref 7, .int (Int32.ofInt (x0)), .int (Int32.ofInt (x1)), .int (Int32.ofInt (x2)), .int (Int32.ofInt 1)] [.int (Int32.ofInt (x0)), .int (Int32.ofInt (x3)), .ref 8] τ Q)
    (l5 : ∀ (τ : pm_S) (y : Nat → Int), an_GB pm_B τ → FQ [(7, 0)] σ τ → ((0 ≤ x0 ∧ x0 ≤ 9) ∧ (0 ≤ x1 ∧ x1 ≤ 99999) ∧ (0 ≤ x2 ∧ x2 ≤ 99) ∧ (10 ≤ x3 ∧ x3 ≤ 10) ∧ True) → (True) → (True) → ((τ.1 7 0).toInt = x3 ∧ True) → Q (some (.int (Int32.ofInt (-1)))) τ)
    : Ok 62 21 0 [.ref 7, .int (Int32.ofInt (x0)), .int (Int32.ofInt (x1)), .int (Int32.ofInt (x2)), v4] [] σ Q := by
  refine an_seg (B := pm_B) (F := [(7, 0)]) (T := []) (S := []) (fun _ h => absurd h List.not_mem_nil) (k := 62) (d := 20) (cs := [27, 33, 39, 45, 51]) 26 0 4 [(0, 0, 9), (1, (-2147483648), 2147483647), (2, (-2147483648), 2147483647), (3, 0, 10)] [(7, (1, 0, 0), (0, 3, 0))] [(2, 7, 0), (0, 0, 0), (0, 1, 0), (0, 2, 0), (5, 0, 0)] [] [(9999, [], [(1, 0, (-1))], [(0, 0, 9), (1, (-2147483648), (-1)), (2, (-2147483648), 2147483647), (3, 0, 10)], [], [], [(7, (1, 0, 0), (0, 3, 0))]),
    (9999, [], [(1, 0, (-1))], [(0, 0, 9), (1, 100000, 2147483647), (2, (-2147483648), 2147483647), (3, 0, 10)], [], [], [(7, (1, 0, 0), (0, 3, 0))]),
    (9999, [], [(1, 0, (-1))], [(0, 0, 9), (1, 0, 99999), (2, (-2147483648), (-1)), (3, 0, 10)], [], [], [(7, (1, 0, 0), (0, 3, 0))]),
    (9999, [], [(1, 0, (-1))], [(0, 0, 9), (1, 0, 99999), (2, 100, 2147483647), (3, 0, 10)], [], [], [(7, (1, 0, 0), (0, 3, 0))]),
    (27, [(2, 7, 0), (0, 0, 0), (0, 1, 0), (0, 2, 0), (1, 0, 1)], [(0, 0, 0), (0, 3, 0), (2, 8, 0)], [(0, 0, 9), (1, 0, 99999), (2, 0, 99), (3, 0, 9)], [], [], [(7, (1, 0, 0), (0, 3, 0))]),
    (9999, [], [(1, 0, (-1))], [(0, 0, 9), (1, 0, 99999), (2, 0, 99), (3, 10, 10)], [], [], [(7, (1, 0, 0), (0, 3, 0))])] (by decide +kernel) (ρ0 := (fun s => [x0, x1, x2, x3].getD s 0)) hB eF eC ⟨rfl, ⟨rfl, ⟨rfl, ⟨rfl, ⟨hv4, trivial⟩⟩⟩⟩⟩ trivial ?_
  refine List.forall_mem_cons.mpr ⟨?_, List.forall_mem_cons.mpr ⟨?_, List.forall_mem_cons.mpr ⟨?_, List.forall_mem_cons.mpr ⟨?_, List.forall_mem_cons.mpr ⟨?_, List.forall_mem_cons.mpr ⟨?_, fun _ h => absurd h List.not_mem_nil⟩⟩⟩⟩⟩⟩
  · intro ρ τ Lc stc hx g1 g2 g3 g4 g5 g6 g7 g8
    have e0 : ρ 0 = x0 := hx 0 (by decide)
    have e1 : ρ 1 = x1 := hx 1 (by decide)
    have e2 : ρ 2 = x2 := hx 2 (by decide)
    have e3 : ρ 3 = x3 := hx 3 (by decide)
    subst e0
    subst e1
    subst e2
    subst e3
    match stc, g8 with
    | [_], ⟨h, _⟩ => cases h; exact l0 τ ρ g1 g2 g3 g4 g5 g6
  · intro ρ τ Lc stc hx g1 g2 g3 g4 g5 g6 g7 g8
    have e0 : ρ 0 = x0 := hx 0 (by decide)
    have e1 : ρ 1 = x1 := hx 1 (by decide)
    have e2 : ρ 2 = x2 := hx 2 (by decide)
    have e3 : ρ 3 = x3 := hx 3 (by decide)
    subst e0
    subst e1
    subst e2
    subst e3
    match stc, g8 with
    | [_], ⟨h, _⟩ => cases h; exact l1 τ ρ g1 g2 g3 g4 g5 g6
  · intro ρ τ Lc stc hx g1 g2 g3 g4 g5 g6 g7 g8
    have e0 : ρ 0 = x0 := hx 0 (by decide)
    have e1 : ρ 1 = x1 := hx 1 (by decide)
    have e2 : ρ 2 = x2 := hx 2 (by decide)
    have e3 : ρ 3 = x3 := hx 3 (by decide)
    subst e0
    subst e1
    subst e2
    subst e3
    match stc, g8 with
    | [_], ⟨h, _⟩ => cases h; exact l2 τ ρ g1 g2 g3 g4 g5 g6
  · intro ρ τ Lc stc hx g1 g2 g3 g4 g5 g6 g7 g8
    have e0 : ρ 0 = x0 := hx 0 (by decide)
    have e1 : ρ 1 = x1 := hx 1 (by decide)
    have e2 : ρ 2 = x2 := hx 2 (by decide)
    have e3 : ρ 3 = x3 := hx 3 (by decide)
    subst e0
    subst e1
    subst e2
    subst e3
    match stc, g8 with
    | [_], ⟨h, _⟩ => cases h; exact l3 τ ρ g1 g2 g3 g4 g5 g6
  · intro ρ τ Lc stc hx g1 g2 g3 g4 g5 g6 g7 g8
    have e0 : ρ 0 = x0 := hx 0 (by decide)
    have e1 : ρ 1 = x1 := hx 1 (by decide)
    have e2 : ρ 2 = x2 := hx 2 (by decide)
    have e3 : ρ 3 = x3 := hx 3 (by decide)
    subst e0
    subst e1
    subst e2
    subst e3
    have g7 := g7 (by decide)
    match Lc, stc, g7, g8 with
    | [v0, v1, v2, v3, v4], [w0, w1, w2], ⟨hv0, hv1, hv2, hv3, hv4, _⟩, ⟨hw0, hw1, hw2, _⟩ =>
      cases hv0
      cases hv1
      cases hv2
      cases hv3
      cases hv4
      cases hw0
      cases hw1
      cases hw2
      exact l4 τ ρ  g1 g2 g3 g4 g5 g6
  · intro ρ τ Lc stc hx g1 g2 g3 g4 g5 g6 g7 g8
    have e0 : ρ 0 = x0 := hx 0 (by decide)
    have e1 : ρ 1 = x1 := hx 1 (by decide)
    have e2 : ρ 2 = x2 := hx 2 (by decide)
    have e3 : ρ 3 = x3 := hx 3 (by decide)
    subst e0
    subst e1
    subst e2
    subst e3
    match stc, g8 with
    | [_], ⟨h, _⟩ => cases h; exact l5 τ ρ g1 g2 g3 g4 g5 g6
set_option maxRecDepth 100000 in
theorem x_padd_s1 {σ : pm_S} {Q : Option Value → pm_S → Prop} (x0 x1 x2 x3 : Int)  (hB : an_GB pm_B σ) (eF : (0 ≤ x0 ∧ x0 ≤ 9) ∧ (0 ≤ x1 ∧ x1 ≤ 99999) ∧ (0 ≤ x2 ∧ x2 ≤ 99) ∧ (0 ≤ x3 ∧ x3 ≤ 9) ∧ True) (eC : (σ.1 7 0).toInt = x3 ∧ True)
    (l0 : ∀ (τ : pm_S) (y : Nat → Int), an_GB pm_B τ → FQ [(7, 0)] σ τ → ((0 ≤ x0 ∧ x0 ≤ 9) ∧ (0 ≤ x1 ∧ x1 ≤ 99999) ∧ (0 ≤ x2 ∧ x2 ≤ 99) ∧ (0 ≤ x3 ∧ x3 ≤ 9) ∧ True) → (True) → (True) → ((τ.1 7 0).toInt = x3 ∧ True) → Ok 62 21 33 [.ref 7, .int (Int32.ofInt (x0)), .int (Int32.ofInt (x1)), .int (Int32.ofInt (x2)), .int (Int32.ofInt 1)] [.int (Int32.ofInt (x1)), .int (Int32.ofInt (x3)), .ref 9] τ Q)
    : Ok 62 21 28 [.ref 7, .int (Int32.ofInt (x0)), .int (Int32.ofInt (x1)), .int (Int32.ofInt (x2)), .int (Int32.ofInt 1)] [] σ Q := by
  refine an_seg (B := pm_B) (F := [(7, 0)]) (T := []) (S := []) (fun _ h => absurd h List.not_mem_nil) (k := 62) (d := 20) (cs := [27, 33, 39, 45, 51]) 7 28 4 [(0, 0, 9), (1, 0, 99999), (2, 0, 99), (3, 0, 9)] [(7, (1, 0, 0), (0, 3, 0))] [(2, 7, 0), (0, 0, 0), (0, 1, 0), (0, 2, 0), (1, 0, 1)] [] [(33, [(2, 7, 0), (0, 0, 0), (0, 1, 0), (0, 2, 0), (1, 0, 1)], [(0, 1, 0), (0, 3, 0), (2, 9, 0)], [(0, 0, 9), (1, 0, 99999), (2, 0, 99), (3, 0, 9)], [], [], [(7, (1, 0, 0), (0, 3, 0))])] (by decide +kernel) (ρ0 := (fun s => [x0, x1, x2, x3].getD s 0)) hB eF eC ⟨rfl, ⟨rfl, ⟨rfl, ⟨rfl, ⟨rfl, trivial⟩⟩⟩⟩⟩ trivial ?_
  refine List.forall_mem_cons.mpr ⟨?_, fun _ h => absurd h List.not_mem_nil⟩
  · intro ρ τ Lc stc hx g1 g2 g3 g4 g5 g6 g7 g8
    have e0 : ρ 0 = x0 := hx 0 (by decide)
    have e1 : ρ 1 = x1 := hx 1 (by decide)
    have e2 : ρ 2 = x2 := hx 2 (by decide)
    have e3 : ρ 3 = x3 := hx 3 (by decide)
    subst e0
    subst e1
    subst e2
    subst e3
    have g7 := g7 (by decide)
    match Lc, stc, g7, g8 with
    | [v0, v1, v2, v3, v4], [w0, w1, w2], ⟨hv0, hv1, hv2, hv3, hv4, _⟩, ⟨hw0, hw1, hw2, _⟩ =>
      cases hv0
      cases hv1
      cases hv2
      cases hv3
      cases hv4
      cases hw0
      cases hw1
      cases hw2
      exact l0 τ ρ  g1 g2 g3 g4 g5 g6
set_option maxRecDepth 100000 in
theorem x_padd_s2 {σ : pm_S} {Q : Option Value → pm_S → Prop} (x0 x1 x2 x3 : Int)  (hB : an_GB pm_B σ) (eF : (0 ≤ x0 ∧ x0 ≤ 9) ∧ (0 ≤ x1 ∧ x1 ≤ 99999) ∧ (0 ≤ x2 ∧ x2 ≤ 99) ∧ (0 ≤ x3 ∧ x3 ≤ 9) ∧ True) (eC : (σ.1 7 0).toInt = x3 ∧ True)
    (l0 : ∀ (τ : pm_S) (y : Nat → Int), an_GB pm_B τ → FQ [(7, 0)] σ τ → ((0 ≤ x0 ∧ x0 ≤ 9) ∧ (0 ≤ x1 ∧ x1 ≤ 99999) ∧ (0 ≤ x2 ∧ x2 ≤ 99) ∧ (0 ≤ x3 ∧ x3 ≤ 9) ∧ True) → (True) → (True) → ((τ.1 7 0).toInt = x3 ∧ True) → Ok 62 21 39 [.ref 7, .int (Int32.ofInt (x0)), .int (Int32.ofInt (x1)), .int (Int32.ofInt (x2)), .int (Int32.ofInt 1)] [.int (Int32.ofInt (x2)), .int (Int32.ofInt (x3)), .ref 10] τ Q)
    : Ok 62 21 34 [.ref 7, .int (Int32.ofInt (x0)), .int (Int32.ofInt (x1)), .int (Int32.ofInt (x2)), .int (Int32.ofInt 1)] [] σ Q := by
  refine an_seg (B := pm_B) (F := [(7, 0)]) (T := []) (S := []) (fun _ h => absurd h List.not_mem_nil) (k := 62) (d := 20) (cs := [27, 33, 39, 45, 51]) 7 34 4 [(0, 0, 9), (1, 0, 99999), (2, 0, 99), (3, 0, 9)] [(7, (1, 0, 0), (0, 3, 0))] [(2, 7, 0), (0, 0, 0), (0, 1, 0), (0, 2, 0), (1, 0, 1)] [] [(39, [(2, 7, 0), (0, 0, 0), (0, 1, 0), (0, 2, 0), (1, 0, 1)], [(0, 2, 0), (0, 3, 0), (2, 10, 0)], [(0, 0, 9), (1, 0, 99999), (2, 0, 99), (3, 0, 9)], [], [], [(7, (1, 0, 0), (0, 3, 0))])] (by decide +kernel) (ρ0 := (fun s => [x0, x1, x2, x3].getD s 0)) hB eF eC ⟨rfl, ⟨rfl, ⟨rfl, ⟨rfl, ⟨rfl, trivial⟩⟩⟩⟩⟩ trivial ?_
  refine List.forall_mem_cons.mpr ⟨?_, fun _ h => absurd h List.not_mem_nil⟩
  · intro ρ τ Lc stc hx g1 g2 g3 g4 g5 g6 g7 g8
    have e0 : ρ 0 = x0 := hx 0 (by decide)
    have e1 : ρ 1 = x1 := hx 1 (by decide)
    have e2 : ρ 2 = x2 := hx 2 (by decide)
    have e3 : ρ 3 = x3 := hx 3 (by decide)
    subst e0
    subst e1
    subst e2
    subst e3
    have g7 := g7 (by decide)
    match Lc, stc, g7, g8 with
    | [v0, v1, v2, v3, v4], [w0, w1, w2], ⟨hv0, hv1, hv2, hv3, hv4, _⟩, ⟨hw0, hw1, hw2, _⟩ =>
      cases hv0
      cases hv1
      cases hv2
      cases hv3
      cases hv4
      cases hw0
      cases hw1
      cases hw2
      exact l0 τ ρ  g1 g2 g3 g4 g5 g6
set_option maxRecDepth 100000 in
theorem x_padd_s3 {σ : pm_S} {Q : Option Value → pm_S → Prop} (x0 x1 x2 x3 : Int)  (hB : an_GB pm_B σ) (eF : (0 ≤ x0 ∧ x0 ≤ 9) ∧ (0 ≤ x1 ∧ x1 ≤ 99999) ∧ (0 ≤ x2 ∧ x2 ≤ 99) ∧ (0 ≤ x3 ∧ x3 ≤ 9) ∧ True) (eC : (σ.1 7 0).toInt = x3 ∧ True)
    (l0 : ∀ (τ : pm_S) (y : Nat → Int), an_GB pm_B τ → FQ [(7, 0)] σ τ → ((0 ≤ x0 ∧ x0 ≤ 9) ∧ (0 ≤ x1 ∧ x1 ≤ 99999) ∧ (0 ≤ x2 ∧ x2 ≤ 99) ∧ (0 ≤ x3 ∧ x3 ≤ 9) ∧ True) → (True) → (True) → ((τ.1 7 0).toInt = x3 ∧ True) → Ok 62 21 45 [.ref 7, .int (Int32.ofInt (x0)), .int (Int32.ofInt (x1)), .int (Int32.ofInt (x2)), .int (Int32.ofInt 1)] [.int (Int32.ofInt (x0)), .int (Int32.ofInt (x3)), .ref 11] τ Q)
    : Ok 62 21 40 [.ref 7, .int (Int32.ofInt (x0)), .int (Int32.ofInt (x1)), .int (Int32.ofInt (x2)), .int (Int32.ofInt 1)] [] σ Q := by
  refine an_seg (B := pm_B) (F := [(7, 0)]) (T := []) (S := []) (fun _ h => absurd h List.not_mem_nil) (k := 62) (d := 20) (cs := [27, 33, 39, 45, 51]) 7 40 4 [(0, 0, 9), (1, 0, 99999), (2, 0, 99), (3, 0, 9)] [(7, (1, 0, 0), (0, 3, 0))] [(2, 7, 0), (0, 0, 0), (0, 1, 0), (0, 2, 0), (1, 0, 1)] [] [(45, [(2, 7, 0), (0, 0, 0), (0, 1, 0), (0, 2, 0), (1, 0, 1)], [(0, 0, 0), (0, 3, 0), (2, 11, 0)], [(0, 0, 9), (1, 0, 99999), (2, 0, 99), (3, 0, 9)], [], [], [(7, (1, 0, 0), (0, 3, 0))])] (by decide +kernel) (ρ0 := (fun s => [x0, x1, x2, x3].getD s 0)) hB eF eC ⟨rfl, ⟨rfl, ⟨rfl, ⟨rfl, ⟨rfl, trivial⟩⟩⟩⟩⟩ trivial ?_
  refine List.forall_mem_cons.mpr ⟨?_, fun _ h => absurd h List.not_mem_nil⟩
  · intro ρ τ Lc stc hx g1 g2 g3 g4 g5 g6 g7 g8
    have e0 : ρ 0 = x0 := hx 0 (by decide)
    have e1 : ρ 1 = x1 := hx 1 (by decide)
    have e2 : ρ 2 = x2 := hx 2 (by decide)
    have e3 : ρ 3 = x3 := hx 3 (by decide)
    subst e0
    subst e1
    subst e2
    subst e3
    have g7 := g7 (by decide)
    match Lc, stc, g7, g8 with
    | [v0, v1, v2, v3, v4], [w0, w1, w2], ⟨hv0, hv1, hv2, hv3, hv4, _⟩, ⟨hw0, hw1, hw2, _⟩ =>
      cases hv0
      cases hv1
      cases hv2
      cases hv3
      cases hv4
      cases hw0
      cases hw1
      cases hw2
      exact l0 τ ρ  g1 g2 g3 g4 g5 g6
set_option maxRecDepth 100000 in
theorem x_padd_s4 {σ : pm_S} {Q : Option Value → pm_S → Prop} (x0 x1 x2 x3 : Int)  (hB : an_GB pm_B σ) (eF : (0 ≤ x0 ∧ x0 ≤ 9) ∧ (0 ≤ x1 ∧ x1 ≤ 99999) ∧ (0 ≤ x2 ∧ x2 ≤ 99) ∧ (0 ≤ x3 ∧ x3 ≤ 9) ∧ True) (eC : (σ.1 7 0).toInt = x3 ∧ True)
    (l0 : ∀ (τ : pm_S) (y : Nat → Int), an_GB pm_B τ → FQ [(7, 0)] σ τ → ((0 ≤ x0 ∧ x0 ≤ 9) ∧ (0 ≤ x1 ∧ x1 ≤ 99999) ∧ (0 ≤ x2 ∧ x2 ≤ 99) ∧ (0 ≤ x3 ∧ x3 ≤ 9) ∧ True) → (True) → (True) → ((τ.1 7 0).toInt = x3 ∧ True) → Ok 62 21 51 [.ref 7, .int (Int32.ofInt (x0)), .int (Int32.ofInt (x1)), .int (Int32.ofInt (x2)), .int (Int32.ofInt 1)] [.int (Int32.ofInt (-1)), .int (Int32.ofInt (x3)), .ref 12] τ Q)
    : Ok 62 21 46 [.ref 7, .int (Int32.ofInt (x0)), .int (Int32.ofInt (x1)), .int (Int32.ofInt (x2)), .int (Int32.ofInt 1)] [] σ Q := by
  refine an_seg (B := pm_B) (F := [(7, 0)]) (T := []) (S := []) (fun _ h => absurd h List.not_mem_nil) (k := 62) (d := 20) (cs := [27, 33, 39, 45, 51]) 7 46 4 [(0, 0, 9), (1, 0, 99999), (2, 0, 99), (3, 0, 9)] [(7, (1, 0, 0), (0, 3, 0))] [(2, 7, 0), (0, 0, 0), (0, 1, 0), (0, 2, 0), (1, 0, 1)] [] [(51, [(2, 7, 0), (0, 0, 0), (0, 1, 0), (0, 2, 0), (1, 0, 1)], [(1, 0, (-1)), (0, 3, 0), (2, 12, 0)], [(0, 0, 9), (1, 0, 99999), (2, 0, 99), (3, 0, 9)], [], [], [(7, (1, 0, 0), (0, 3, 0))])] (by decide +kernel) (ρ0 := (fun s => [x0, x1, x2, x3].getD s 0)) hB eF eC ⟨rfl, ⟨rfl, ⟨rfl, ⟨rfl, ⟨rfl, trivial⟩⟩⟩⟩⟩ trivial ?_
  refine List.forall_mem_cons.mpr ⟨?_, fun _ h => absurd h List.not_mem_nil⟩
  · intro ρ τ Lc stc hx g1 g2 g3 g4 g5 g6 g7 g8
    have e0 : ρ 0 = x0 := hx 0 (by decide)
    have e1 : ρ 1 = x1 := hx 1 (by decide)
    have e2 : ρ 2 = x2 := hx 2 (by decide)
    have e3 : ρ 3 = x3 := hx 3 (by decide)
    subst e0
    subst e1
    subst e2
    subst e3
    have g7 := g7 (by decide)
    match Lc, stc, g7, g8 with
    | [v0, v1, v2, v3, v4], [w0, w1, w2], ⟨hv0, hv1, hv2, hv3, hv4, _⟩, ⟨hw0, hw1, hw2, _⟩ =>
      cases hv0
      cases hv1
      cases hv2
      cases hv3
      cases hv4
      cases hw0
      cases hw1
      cases hw2
      exact l0 τ ρ  g1 g2 g3 g4 g5 g6
set_option maxRecDepth 100000 in
theorem x_padd_s5 {σ : pm_S} {Q : Option Value → pm_S → Prop} (x0 x1 x2 x3 : Int)  (hB : an_GB pm_B σ) (eF : (0 ≤ x0 ∧ x0 ≤ 9) ∧ (0 ≤ x1 ∧ x1 ≤ 99999) ∧ (0 ≤ x2 ∧ x2 ≤ 99) ∧ (0 ≤ x3 ∧ x3 ≤ 9) ∧ True) (eC : (σ.1 7 0).toInt = x3 ∧ True)
    (l0 : ∀ (τ : pm_S) (y : Nat → Int), an_GB pm_B τ → FQ [(7, 0)] σ τ → ((0 ≤ x0 ∧ x0 ≤ 9) ∧ (0 ≤ x1 ∧ x1 ≤ 99999) ∧ (0 ≤ x2 ∧ x2 ≤ 99) ∧ (0 ≤ x3 ∧ x3 ≤ 9) ∧ True) → (True) → (True) → ((τ.1 7 0).toInt = x3 + 1 ∧ True) → Q (some (.int (Int32.ofInt (x3)))) τ)
    : Ok 62 21 52 [.ref 7, .int (Int32.ofInt (x0)), .int (Int32.ofInt (x1)), .int (Int32.ofInt (x2)), .int (Int32.ofInt 1)] [] σ Q := by
  refine an_seg (B := pm_B) (F := [(7, 0)]) (T := []) (S := []) (fun _ h => absurd h List.not_mem_nil) (k := 62) (d := 20) (cs := [27, 33, 39, 45, 51]) 13 52 4 [(0, 0, 9), (1, 0, 99999), (2, 0, 99), (3, 0, 9)] [(7, (1, 0, 0), (0, 3, 0))] [(2, 7, 0), (0, 0, 0), (0, 1, 0), (0, 2, 0), (1, 0, 1)] [] [(9999, [], [(0, 3, 0)], [(0, 0, 9), (1, 0, 99999), (2, 0, 99), (3, 0, 9)], [], [], [(7, (1, 0, 0), (0, 3, 1))])] (by decide +kernel) (ρ0 := (fun s => [x0, x1, x2, x3].getD s 0)) hB eF eC ⟨rfl, ⟨rfl, ⟨rfl, ⟨rfl, ⟨rfl, trivial⟩⟩⟩⟩⟩ trivial ?_
  refine List.forall_mem_cons.mpr ⟨?_, fun _ h => absurd h List.not_mem_nil⟩
  · intro ρ τ Lc stc hx g1 g2 g3 g4 g5 g6 g7 g8
    have e0 : ρ 0 = x0 := hx 0 (by decide)
    have e1 : ρ 1 = x1 := hx 1 (by decide)
    have e2 : ρ 2 = x2 := hx 2 (by decide)
    have e3 : ρ 3 = x3 := hx 3 (by decide)
    subst e0
    subst e1
    subst e2
    subst e3
    match stc, g8 with
    | [_], ⟨h, _⟩ => cases h; exact l0 τ ρ g1 g2 g3 g4 g5 g6
set_option maxRecDepth 20000 in
theorem x_padd {σ : pm_S} (x0 x1 x2 x3 : Int) (hB : an_GB pm_B σ) (g0 : 0 ≤ x0 ∧ x0 ≤ 9) (g1 : (-2147483648) ≤ x1 ∧ x1 ≤ 2147483647) (g2 : (-2147483648) ≤ x2 ∧ x2 ≤ 2147483647) (g3 : 0 ≤ x3 ∧ x3 ≤ 10) (e0 : (σ.1 7 0).toInt = x3) : Sp 62 21 [.ref 7, .int (Int32.ofInt (x0)), .int (Int32.ofInt (x1)), .int (Int32.ofInt (x2))] σ (fun r τ => an_GB pm_B τ ∧ ((¬ (0 ≤ x1 ∧ x1 ≤ 99999 ∧ 0 ≤ x2 ∧ x2 ≤ 99 ∧ x3 ≤ 9) ∧ r = some (.int (Int32.ofInt (-1))) ∧ (τ.1 7 0).toInt = x3 ∧ puF [(7, 0)] [] σ τ) ∨ ((0 ≤ x1 ∧ x1 ≤ 99999 ∧ 0 ≤ x2 ∧ x2 ≤ 99 ∧ x3 ≤ 9) ∧ r = some (.int (Int32.ofInt (x3))) ∧ (τ.1 7 0).toInt = x3 + 1 ∧ puF [(7, 0)] [(12, (x3).toNat, Int32.ofInt (-1)), (11, (x3).toNat, Int32.ofInt (x0)), (10, (x3).toNat, Int32.ofInt (x2)), (9, (x3).toNat, Int32.ofInt (x1)), (8, (x3).toNat, Int32.ofInt (x0))] σ τ))) := by
  refine Sp.at rfl rfl ?_
  refine x_padd_s0 x0 x1 x2 x3 _ rfl hB ⟨by omega, by omega, by omega, by omega, trivial⟩ ⟨e0, trivial⟩ ?_ ?_ ?_ ?_ ?_ ?_
  · intro τ1 y1  hB1 hF1 f1 rr1 _ c1
    obtain ⟨f1_0, f1_1, f1_2, f1_3, -⟩ := f1
    obtain ⟨c1_0, -⟩ := c1
    have hG1 : puF [(7, 0)] [] σ τ1 := puF.fq rfl (puF.rf _ _) hF1
    exact ⟨hB1, Or.inl ⟨by omega, rfl, c1_0, hG1⟩⟩
  · intro τ2 y2  hB2 hF2 f2 rr2 _ c2
    obtain ⟨f2_0, f2_1, f2_2, f2_3, -⟩ := f2
    obtain ⟨c2_0, -⟩ := c2
    have hG2 : puF [(7, 0)] [] σ τ2 := puF.fq rfl (puF.rf _ _) hF2
    exact ⟨hB2, Or.inl ⟨by omega, rfl, c2_0, hG2⟩⟩
  · intro τ3 y3  hB3 hF3 f3 rr3 _ c3
    obtain ⟨f3_0, f3_1, f3_2, f3_3, -⟩ := f3
    obtain ⟨c3_0, -⟩ := c3
    have hG3 : puF [(7, 0)] [] σ τ3 := puF.fq rfl (puF.rf _ _) hF3
    exact ⟨hB3, Or.inl ⟨by omega, rfl, c3_0, hG3⟩⟩
  · intro τ4 y4  hB4 hF4 f4 rr4 _ c4
    obtain ⟨f4_0, f4_1, f4_2, f4_3, -⟩ := f4
    obtain ⟨c4_0, -⟩ := c4
    have hG4 : puF [(7, 0)] [] σ τ4 := puF.fq rfl (puF.rf _ _) hF4
    exact ⟨hB4, Or.inl ⟨by omega, rfl, c4_0, hG4⟩⟩
  · intro τ5 y5  hB5 hF5 f5 rr5 _ c5
    obtain ⟨f5_0, f5_1, f5_2, f5_3, -⟩ := f5
    obtain ⟨c5_0, -⟩ := c5
    have hG5 : puF [(7, 0)] [] σ τ5 := puF.fq rfl (puF.rf _ _) hF5
    refine Ok.ast (n := 10) rfl rfl rfl (by decide) (by omega) (by omega) ?_
    have hG6 : puF [(7, 0)] [(8, (x3).toNat, Int32.ofInt (x0))] σ (put τ5 8 (x3).toNat (Int32.ofInt (x0))) := puF.put hG5
    have hB6 : an_GB pm_B (put τ5 8 (x3).toNat (Int32.ofInt (x0))) := put_GB hB5 (by
      show (0 : Int) ≤ (Int32.ofInt (x0)).toInt ∧ (Int32.ofInt (x0)).toInt ≤ 9
      rw [ti_of (by omega) (by omega)]
      omega)
    have e6_7_0 : ((put τ5 8 (x3).toNat (Int32.ofInt (x0))).1 7 0).toInt = x3 := (congrArg Int32.toInt (put_nr (by decide))).trans c5_0
    refine x_padd_s1 x0 x1 x2 x3 hB6 ⟨by omega, by omega, by omega, by omega, trivial⟩ ⟨e6_7_0, trivial⟩ ?_
    · intro τ7 y7  hB7 hF7 f7 rr7 _ c7
      obtain ⟨f7_0, f7_1, f7_2, f7_3, -⟩ := f7
      obtain ⟨c7_0, -⟩ := c7
      have hG7 : puF [(7, 0)] [(8, (x3).toNat, Int32.ofInt (x0))] σ τ7 := puF.fq rfl hG6 hF7
      refine Ok.ast (n := 10) rfl rfl rfl (by decide) (by omega) (by omega) ?_
      have hG8 : puF [(7, 0)] [(9, (x3).toNat, Int32.ofInt (x1)), (8, (x3).toNat, Int32.ofInt (x0))] σ (put τ7 9 (x3).toNat (Int32.ofInt (x1))) := puF.put hG7
      have hB8 : an_GB pm_B (put τ7 9 (x3).toNat (Int32.ofInt (x1))) := put_GB hB7 (by
        show ((-2147483648) : Int) ≤ (Int32.ofInt (x1)).toInt ∧ (Int32.ofInt (x1)).toInt ≤ 2147483647
        rw [ti_of (by omega) (by omega)]
        omega)
      have e8_7_0 : ((put τ7 9 (x3).toNat (Int32.ofInt (x1))).1 7 0).toInt = x3 := (congrArg Int32.toInt (put_nr (by decide))).trans c7_0
      refine x_padd_s2 x0 x1 x2 x3 hB8 ⟨by omega, by omega, by omega, by omega, trivial⟩ ⟨e8_7_0, trivial⟩ ?_
      · intro τ9 y9  hB9 hF9 f9 rr9 _ c9
        obtain ⟨f9_0, f9_1, f9_2, f9_3, -⟩ := f9
        obtain ⟨c9_0, -⟩ := c9
        have hG9 : puF [(7, 0)] [(9, (x3).toNat, Int32.ofInt (x1)), (8, (x3).toNat, Int32.ofInt (x0))] σ τ9 := puF.fq rfl hG8 hF9
        refine Ok.ast (n := 10) rfl rfl rfl (by decide) (by omega) (by omega) ?_
        have hG10 : puF [(7, 0)] [(10, (x3).toNat, Int32.ofInt (x2)), (9, (x3).toNat, Int32.ofInt (x1)), (8, (x3).toNat, Int32.ofInt (x0))] σ (put τ9 10 (x3).toNat (Int32.ofInt (x2))) := puF.put hG9
        have hB10 : an_GB pm_B (put τ9 10 (x3).toNat (Int32.ofInt (x2))) := put_GB hB9 (by
          show ((-2147483648) : Int) ≤ (Int32.ofInt (x2)).toInt ∧ (Int32.ofInt (x2)).toInt ≤ 2147483647
          rw [ti_of (by omega) (by omega)]
          omega)
        have e10_7_0 : ((put τ9 10 (x3).toNat (Int32.ofInt (x2))).1 7 0).toInt = x3 := (congrArg Int32.toInt (put_nr (by decide))).trans c9_0
        refine x_padd_s3 x0 x1 x2 x3 hB10 ⟨by omega, by omega, by omega, by omega, trivial⟩ ⟨e10_7_0, trivial⟩ ?_
        · intro τ11 y11  hB11 hF11 f11 rr11 _ c11
          obtain ⟨f11_0, f11_1, f11_2, f11_3, -⟩ := f11
          obtain ⟨c11_0, -⟩ := c11
          have hG11 : puF [(7, 0)] [(10, (x3).toNat, Int32.ofInt (x2)), (9, (x3).toNat, Int32.ofInt (x1)), (8, (x3).toNat, Int32.ofInt (x0))] σ τ11 := puF.fq rfl hG10 hF11
          refine Ok.ast (n := 10) rfl rfl rfl (by decide) (by omega) (by omega) ?_
          have hG12 : puF [(7, 0)] [(11, (x3).toNat, Int32.ofInt (x0)), (10, (x3).toNat, Int32.ofInt (x2)), (9, (x3).toNat, Int32.ofInt (x1)), (8, (x3).toNat, Int32.ofInt (x0))] σ (put τ11 11 (x3).toNat (Int32.ofInt (x0))) := puF.put hG11
          have hB12 : an_GB pm_B (put τ11 11 (x3).toNat (Int32.ofInt (x0))) := put_GB hB11 (by
            show (0 : Int) ≤ (Int32.ofInt (x0)).toInt ∧ (Int32.ofInt (x0)).toInt ≤ 9
            rw [ti_of (by omega) (by omega)]
            omega)
          have e12_7_0 : ((put τ11 11 (x3).toNat (Int32.ofInt (x0))).1 7 0).toInt = x3 := (congrArg Int32.toInt (put_nr (by decide))).trans c11_0
          refine x_padd_s4 x0 x1 x2 x3 hB12 ⟨by omega, by omega, by omega, by omega, trivial⟩ ⟨e12_7_0, trivial⟩ ?_
          · intro τ13 y13  hB13 hF13 f13 rr13 _ c13
            obtain ⟨f13_0, f13_1, f13_2, f13_3, -⟩ := f13
            obtain ⟨c13_0, -⟩ := c13
            have hG13 : puF [(7, 0)] [(11, (x3).toNat, Int32.ofInt (x0)), (10, (x3).toNat, Int32.ofInt (x2)), (9, (x3).toNat, Int32.ofInt (x1)), (8, (x3).toNat, Int32.ofInt (x0))] σ τ13 := puF.fq rfl hG12 hF13
            refine Ok.ast (n := 10) rfl rfl rfl (by decide) (by omega) (by omega) ?_
            have hG14 : puF [(7, 0)] [(12, (x3).toNat, Int32.ofInt (-1)), (11, (x3).toNat, Int32.ofInt (x0)), (10, (x3).toNat, Int32.ofInt (x2)), (9, (x3).toNat, Int32.ofInt (x1)), (8, (x3).toNat, Int32.ofInt (x0))] σ (put τ13 12 (x3).toNat (Int32.ofInt (-1))) := puF.put hG13
            have hB14 : an_GB pm_B (put τ13 12 (x3).toNat (Int32.ofInt (-1))) := put_GB hB13 (by
              show ((-1) : Int) ≤ (Int32.ofInt (-1)).toInt ∧ (Int32.ofInt (-1)).toInt ≤ 9
              rw [ti_of (by omega) (by omega)]
              omega)
            have e14_7_0 : ((put τ13 12 (x3).toNat (Int32.ofInt (-1))).1 7 0).toInt = x3 := (congrArg Int32.toInt (put_nr (by decide))).trans c13_0
            refine x_padd_s5 x0 x1 x2 x3 hB14 ⟨by omega, by omega, by omega, by omega, trivial⟩ ⟨e14_7_0, trivial⟩ ?_
            · intro τ15 y15  hB15 hF15 f15 rr15 _ c15
              obtain ⟨f15_0, f15_1, f15_2, f15_3, -⟩ := f15
              obtain ⟨c15_0, -⟩ := c15
              have hG15 : puF [(7, 0)] [(12, (x3).toNat, Int32.ofInt (-1)), (11, (x3).toNat, Int32.ofInt (x0)), (10, (x3).toNat, Int32.ofInt (x2)), (9, (x3).toNat, Int32.ofInt (x1)), (8, (x3).toNat, Int32.ofInt (x0))] σ τ15 := puF.fq rfl hG14 hF15
              exact ⟨hB15, Or.inr ⟨by omega, rfl, c15_0, hG15⟩⟩
  · intro τ16 y16  hB16 hF16 f16 rr16 _ c16
    obtain ⟨f16_0, f16_1, f16_2, f16_3, -⟩ := f16
    obtain ⟨c16_0, -⟩ := c16
    have hG16 : puF [(7, 0)] [] σ τ16 := puF.fq rfl (puF.rf _ _) hF16
    exact ⟨hB16, Or.inl ⟨by omega, rfl, c16_0, hG16⟩⟩
set_option maxRecDepth 100000 in
theorem xc_personE_s0 {σ : pm_S} {Q : Option Value → pm_S → Prop} (x0 x1 x2 x3 x4 : Int)  (hB : an_GB pm_B σ) (eF : ((-2147483648) ≤ x0 ∧ x0 ≤ 2147483647) ∧ ((-2147483648) ≤ x1 ∧ x1 ≤ 2147483647) ∧ ((-2147483648) ≤ x2 ∧ x2 ≤ 2147483647) ∧ (0 ≤ x3 ∧ x3 ≤ 10) ∧ (0 ≤ x4 ∧ x4 ≤ 10) ∧ True) (eC : (σ.1 3 0).toInt = x3 ∧ (σ.1 7 0).toInt = x4 ∧ True)
    (l0 : ∀ (τ : pm_S) (y : Nat → Int), an_GB pm_B τ → FQ [(7, 0)] σ τ → (((-2147483648) ≤ x0 ∧ x0 ≤ 2147483647) ∧ ((-2147483648) ≤ x1 ∧ x1 ≤ 2147483647) ∧ ((-2147483648) ≤ x2 ∧ x2 ≤ 2147483647) ∧ (0 ≤ x3 ∧ x3 ≤ 10) ∧ (0 ≤ x4 ∧ x4 ≤ 10) ∧ True) → (True) → (True) → ((τ.1 3 0).toInt = x3 ∧ (τ.1 7 0).toInt = x4 ∧ True) → Ok 131 23 4 [.ref 0, .int (Int32.ofInt (x0)), .int (Int32.ofInt (x1)), .int (Int32.ofInt (x2))] [.int (Int32.ofInt (x0)), .ref 3] τ Q)
    : Ok 131 23 0 [.ref 0, .int (Int32.ofInt (x0)), .int (Int32.ofInt (x1)), .int (Int32.ofInt (x2))] [] σ Q := by
  refine an_seg (B := pm_B) (F := [(7, 0)]) (T := []) (S := []) (fun _ h => absurd h List.not_mem_nil) (k := 131) (d := 22) (cs := [4, 12]) 6 0 5 [(0, (-2147483648), 2147483647), (1, (-2147483648), 2147483647), (2, (-2147483648), 2147483647), (3, 0, 10), (4, 0, 10)] [(3, (1, 0, 0), (0, 3, 0)), (7, (1, 0, 0), (0, 4, 0))] [(2, 0, 0), (0, 0, 0), (0, 1, 0), (0, 2, 0)] [] [(4, [(2, 0, 0), (0, 0, 0), (0, 1, 0), (0, 2, 0)], [(0, 0, 0), (2, 3, 0)], [(0, (-2147483648), 2147483647), (1, (-2147483648), 2147483647), (2, (-2147483648), 2147483647), (3, 0, 10), (4, 0, 10)], [], [], [(3, (1, 0, 0), (0, 3, 0)), (7, (1, 0, 0), (0, 4, 0))])] (by decide +kernel) (ρ0 := (fun s => [x0, x1, x2, x3, x4].getD s 0)) hB eF eC ⟨rfl, ⟨rfl, ⟨rfl, ⟨rfl, trivial⟩⟩⟩⟩ trivial ?_
  refine List.forall_mem_cons.mpr ⟨?_, fun _ h => absurd h List.not_mem_nil⟩
  · intro ρ τ Lc stc hx g1 g2 g3 g4 g5 g6 g7 g8
    have e0 : ρ 0 = x0 := hx 0 (by decide)
    have e1 : ρ 1 = x1 := hx 1 (by decide)
    have e2 : ρ 2 = x2 := hx 2 (by decide)
    have e3 : ρ 3 = x3 := hx 3 (by decide)
    have e4 : ρ 4 = x4 := hx 4 (by decide)
    subst e0
    subst e1
    subst e2
    subst e3
    subst e4
    have g7 := g7 (by decide)
    match Lc, stc, g7, g8 with
    | [v0, v1, v2, v3], [w0, w1], ⟨hv0, hv1, hv2, hv3, _⟩, ⟨hw0, hw1, _⟩ =>
      cases hv0
      cases hv1
      cases hv2
      cases hv3
      cases hw0
      cases hw1
      exact l0 τ ρ  g1 g2 g3 g4 g5 g6
set_option maxRecDepth 100000 in
theorem xc_personE_s1 {σ : pm_S} {Q : Option Value → pm_S → Prop} (x0 x1 x2 x3 x4 : Int)  (hB : an_GB pm_B σ) (eF : ((-2147483648) ≤ x0 ∧ x0 ≤ 2147483647) ∧ ((-2147483648) ≤ x1 ∧ x1 ≤ 2147483647) ∧ ((-2147483648) ≤ x2 ∧ x2 ≤ 2147483647) ∧ (0 ≤ x3 ∧ x3 ≤ 10) ∧ (0 ≤ x4 ∧ x4 ≤ 10) ∧ True) (eC : (σ.1 3 0).toInt = x3 ∧ (σ.1 7 0).toInt = x4 ∧ True)
    (l0 : ∀ (τ : pm_S) (y : Nat → Int), an_GB pm_B τ → FQ [(7, 0)] σ τ → (((-2147483648) ≤ x0 ∧ x0 ≤ 2147483647) ∧ ((-2147483648) ≤ x1 ∧ x1 ≤ 2147483647) ∧ ((-2147483648) ≤ x2 ∧ x2 ≤ 2147483647) ∧ (0 ≤ x3 ∧ x3 ≤ 10) ∧ (0 ≤ x4 ∧ x4 ≤ 10) ∧ True) → (True) → (True) → ((τ.1 3 0).toInt = x3 ∧ (τ.1 7 0).toInt = x4 ∧ True) → Q (some (.int (Int32.ofInt (-1)))) τ)
    : Ok 131 23 5 [.ref 0, .int (Int32.ofInt (x0)), .int (Int32.ofInt (x1)), .int (Int32.ofInt (x2))] [.int (Int32.ofInt 0)] σ Q := by
  refine an_seg (B := pm_B) (F := [(7, 0)]) (T := []) (S := []) (fun _ h => absurd h List.not_mem_nil) (k := 131) (d := 22) (cs := [4, 12]) 5 5 5 [(0, (-2147483648), 2147483647), (1, (-2147483648), 2147483647), (2, (-2147483648), 2147483647), (3, 0, 10), (4, 0, 10)] [(3, (1, 0, 0), (0, 3, 0)), (7, (1, 0, 0), (0, 4, 0))] [(2, 0, 0), (0, 0, 0), (0, 1, 0), (0, 2, 0)] [(1, 0, 0)] [(9999, [], [(1, 0, (-1))], [(0, (-2147483648), 2147483647), (1, (-2147483648), 2147483647), (2, (-2147483648), 2147483647), (3, 0, 10), (4, 0, 10)], [], [], [(3, (1, 0, 0), (0, 3, 0)), (7, (1, 0, 0), (0, 4, 0))])] (by decide +kernel) (ρ0 := (fun s => [x0, x1, x2, x3, x4].getD s 0)) hB eF eC ⟨rfl, ⟨rfl, ⟨rfl, ⟨rfl, trivial⟩⟩⟩⟩ ⟨rfl, trivial⟩ ?_
  refine List.forall_mem_cons.mpr ⟨?_, fun _ h => absurd h List.not_mem_nil⟩
  · intro ρ τ Lc stc hx g1 g2 g3 g4 g5 g6 g7 g8
    have e0 : ρ 0 = x0 := hx 0 (by decide)
    have e1 : ρ 1 = x1 := hx 1 (by decide)
    have e2 : ρ 2 = x2 := hx 2 (by decide)
    have e3 : ρ 3 = x3 := hx 3 (by decide)
    have e4 : ρ 4 = x4 := hx 4 (by decide)
    subst e0
    subst e1
    subst e2
    subst e3
    subst e4
    match stc, g8 with
    | [_], ⟨h, _⟩ => cases h; exact l0 τ ρ g1 g2 g3 g4 g5 g6
set_option maxRecDepth 100000 in
theorem xc_personE_s2 {σ : pm_S} {Q : Option Value → pm_S → Prop} (x0 x1 x2 x3 x4 : Int)  (hB : an_GB pm_B σ) (eF : (0 ≤ x0 ∧ x0 ≤ 9) ∧ ((-2147483648) ≤ x1 ∧ x1 ≤ 2147483647) ∧ ((-2147483648) ≤ x2 ∧ x2 ≤ 2147483647) ∧ (0 ≤ x3 ∧ x3 ≤ 10) ∧ (0 ≤ x4 ∧ x4 ≤ 10) ∧ True) (eC : (σ.1 3 0).toInt = x3 ∧ (σ.1 7 0).toInt = x4 ∧ True)
    (l0 : ∀ (τ : pm_S) (y : Nat → Int), an_GB pm_B τ → FQ [(7, 0)] σ τ → ((0 ≤ x0 ∧ x0 ≤ 9) ∧ ((-2147483648) ≤ x1 ∧ x1 ≤ 2147483647) ∧ ((-2147483648) ≤ x2 ∧ x2 ≤ 2147483647) ∧ (0 ≤ x3 ∧ x3 ≤ 10) ∧ (0 ≤ x4 ∧ x4 ≤ 10) ∧ True) → (True) → (True) → ((τ.1 3 0).toInt = x3 ∧ (τ.1 7 0).toInt = x4 ∧ True) → Ok 131 23 12 [.ref 0, .int (Int32.ofInt (x0)), .int (Int32.ofInt (x1)), .int (Int32.ofInt (x2))] [.int (Int32.ofInt (x2)), .int (Int32.ofInt (x1)), .int (Int32.ofInt (x0)), .ref 7] τ Q)
    : Ok 131 23 5 [.ref 0, .int (Int32.ofInt (x0)), .int (Int32.ofInt (x1)), .int (Int32.ofInt (x2))] [.int (Int32.ofInt 1)] σ Q := by
  refine an_seg (B := pm_B) (F := [(7, 0)]) (T := []) (S := []) (fun _ h => absurd h List.not_mem_nil) (k := 131) (d := 22) (cs := [4, 12]) 9 5 5 [(0, 0, 9), (1, (-2147483648), 2147483647), (2, (-2147483648), 2147483647), (3, 0, 10), (4, 0, 10)] [(3, (1, 0, 0), (0, 3, 0)), (7, (1, 0, 0), (0, 4, 0))] [(2, 0, 0), (0, 0, 0), (0, 1, 0), (0, 2, 0)] [(1, 0, 1)] [(12, [(2, 0, 0), (0, 0, 0), (0, 1, 0), (0, 2, 0)], [(0, 2, 0), (0, 1, 0), (0, 0, 0), (2, 7, 0)], [(0, 0, 9), (1, (-2147483648), 2147483647), (2, (-2147483648), 2147483647), (3, 0, 10), (4, 0, 10)], [], [], [(3, (1, 0, 0), (0, 3, 0)), (7, (1, 0, 0), (0, 4, 0))])] (by decide +kernel) (ρ0 := (fun s => [x0, x1, x2, x3, x4].getD s 0)) hB eF eC ⟨rfl, ⟨rfl, ⟨rfl, ⟨rfl, trivial⟩⟩⟩⟩ ⟨rfl, trivial⟩ ?_
  refine List.forall_mem_cons.mpr ⟨?_, fun _ h => absurd h List.not_mem_nil⟩
  · intro ρ τ Lc stc hx g1 g2 g3 g4 g5 g6 g7 g8
    have e0 : ρ 0 = x0 := hx 0 (by decide)
    have e1 : ρ 1 = x1 := hx 1 (by decide)
    have e2 : ρ 2 = x2 := hx 2 (by decide)
    have e3 : ρ 3 = x3 := hx 3 (by decide)
    have e4 : ρ 4 = x4 := hx 4 (by decide)
    subst e0
    subst e1
    subst e2
    subst e3
    subst e4
    have g7 := g7 (by decide)
    match Lc, stc, g7, g8 with
    | [v0, v1, v2, v3], [w0, w1, w2, w3], ⟨hv0, hv1, hv2, hv3, _⟩, ⟨hw0, hw1, hw2, hw3, _⟩ =>
      cases hv0
      cases hv1
      cases hv2
      cases hv3
      cases hw0
      cases hw1
      cases hw2
      cases hw3
      exact l0 τ ρ  g1 g2 g3 g4 g5 g6
set_option maxRecDepth 100000 in
theorem xc_personE_s3 {σ : pm_S} {Q : Option Value → pm_S → Prop} (x0 x1 x2 x3 x4 : Int)  (hB : an_GB pm_B σ) (eF : (0 ≤ x0 ∧ x0 ≤ 9) ∧ ((-2147483648) ≤ x1 ∧ x1 ≤ 2147483647) ∧ ((-2147483648) ≤ x2 ∧ x2 ≤ 2147483647) ∧ (0 ≤ x3 ∧ x3 ≤ 10) ∧ (0 ≤ x4 ∧ x4 ≤ 10) ∧ True) (eC : (σ.1 3 0).toInt = x3 ∧ (σ.1 7 0).toInt = x4 ∧ True)
    (l0 : ∀ (τ : pm_S) (y : Nat → Int), an_GB pm_B τ → FQ [(7, 0)] σ τ → ((0 ≤ x0 ∧ x0 ≤ 9) ∧ ((-2147483648) ≤ x1 ∧ x1 ≤ 2147483647) ∧ ((-2147483648) ≤ x2 ∧ x2 ≤ 2147483647) ∧ (0 ≤ x3 ∧ x3 ≤ 10) ∧ (0 ≤ x4 ∧ x4 ≤ 10) ∧ True) → (True) → (True) → ((τ.1 3 0).toInt = x3 ∧ (τ.1 7 0).toInt = x4 ∧ True) → Q (some (.int (Int32.ofInt (-1)))) τ)
    : Ok 131 23 13 [.ref 0, .int (Int32.ofInt (x0)), .int (Int32.ofInt (x1)), .int (Int32.ofInt (x2))] [.int (Int32.ofInt (-1))] σ Q := by
  refine an_seg (B := pm_B) (F := [(7, 0)]) (T := []) (S := []) (fun _ h => absurd h List.not_mem_nil) (k := 131) (d := 22) (cs := [4, 12]) 4 13 5 [(0, 0, 9), (1, (-2147483648), 2147483647), (2, (-2147483648), 2147483647), (3, 0, 10), (4, 0, 10)] [(3, (1, 0, 0), (0, 3, 0)), (7, (1, 0, 0), (0, 4, 0))] [(2, 0, 0), (0, 0, 0), (0, 1, 0), (0, 2, 0)] [(1, 0, (-1))] [(9999, [], [(1, 0, (-1))], [(0, 0, 9), (1, (-2147483648), 2147483647), (2, (-2147483648), 2147483647), (3, 0, 10), (4, 0, 10)], [], [], [(3, (1, 0, 0), (0, 3, 0)), (7, (1, 0, 0), (0, 4, 0))])] (by decide +kernel) (ρ0 := (fun s => [x0, x1, x2, x3, x4].getD s 0)) hB eF eC ⟨rfl, ⟨rfl, ⟨rfl, ⟨rfl, trivial⟩⟩⟩⟩ ⟨rfl, trivial⟩ ?_
  refine List.forall_mem_cons.mpr ⟨?_, fun _ h => absurd h List.not_mem_nil⟩
  · intro ρ τ Lc stc hx g1 g2 g3 g4 g5 g6 g7 g8
    have e0 : ρ 0 = x0 := hx 0 (by decide)
    have e1 : ρ 1 = x1 := hx 1 (by decide)
    have e2 : ρ 2 = x2 := hx 2 (by decide)
    have e3 : ρ 3 = x3 := hx 3 (by decide)
    have e4 : ρ 4 = x4 := hx 4 (by decide)
    subst e0
    subst e1
    subst e2
    subst e3
    subst e4
    match stc, g8 with
    | [_], ⟨h, _⟩ => cases h; exact l0 τ ρ g1 g2 g3 g4 g5 g6
set_option maxRecDepth 100000 in
theorem xc_personE_s4 {σ : pm_S} {Q : Option Value → pm_S → Prop} (x0 x1 x2 x3 x4 : Int)  (hB : an_GB pm_B σ) (eF : (0 ≤ x0 ∧ x0 ≤ 9) ∧ ((-2147483648) ≤ x1 ∧ x1 ≤ 2147483647) ∧ ((-2147483648) ≤ x2 ∧ x2 ≤ 2147483647) ∧ (0 ≤ x3 ∧ x3 ≤ 10) ∧ (0 ≤ x4 ∧ x4 ≤ 10) ∧ True) (eC : (σ.1 3 0).toInt = x3 ∧ (σ.1 7 0).toInt = x4 + 1 ∧ True)
    (l0 : ∀ (τ : pm_S) (y : Nat → Int), an_GB pm_B τ → FQ [(7, 0)] σ τ → ((0 ≤ x0 ∧ x0 ≤ 9) ∧ ((-2147483648) ≤ x1 ∧ x1 ≤ 2147483647) ∧ ((-2147483648) ≤ x2 ∧ x2 ≤ 2147483647) ∧ (0 ≤ x3 ∧ x3 ≤ 10) ∧ (0 ≤ x4 ∧ x4 ≤ 10) ∧ True) → (True) → (True) → ((τ.1 3 0).toInt = x3 ∧ (τ.1 7 0).toInt = x4 + 1 ∧ True) → Q (some (.int (Int32.ofInt (x4)))) τ)
    : Ok 131 23 13 [.ref 0, .int (Int32.ofInt (x0)), .int (Int32.ofInt (x1)), .int (Int32.ofInt (x2))] [.int (Int32.ofInt (x4))] σ Q := by
  refine an_seg (B := pm_B) (F := [(7, 0)]) (T := []) (S := []) (fun _ h => absurd h List.not_mem_nil) (k := 131) (d := 22) (cs := [4, 12]) 4 13 5 [(0, 0, 9), (1, (-2147483648), 2147483647), (2, (-2147483648), 2147483647), (3, 0, 10), (4, 0, 10)] [(3, (1, 0, 0), (0, 3, 0)), (7, (1, 0, 0), (0, 4, 1))] [(2, 0, 0), (0, 0, 0), (0, 1, 0), (0, 2, 0)] [(0, 4, 0)] [(9999, [], [(0, 4, 0)], [(0, 0, 9), (1, (-2147483648), 2147483647), (2, (-2147483648), 2147483647), (3, 0, 10), (4, 0, 10)], [], [], [(3, (1, 0, 0), (0, 3, 0)), (7, (1, 0, 0), (0, 4, 1))])] (by decide +kernel) (ρ0 := (fun s => [x0, x1, x2, x3, x4].getD s 0)) hB eF eC ⟨rfl, ⟨rfl, ⟨rfl, ⟨rfl, trivial⟩⟩⟩⟩ ⟨rfl, trivial⟩ ?_
  refine List.forall_mem_cons.mpr ⟨?_, fun _ h => absurd h List.not_mem_nil⟩
  · intro ρ τ Lc stc hx g1 g2 g3 g4 g5 g6 g7 g8
    have e0 : ρ 0 = x0 := hx 0 (by decide)
    have e1 : ρ 1 = x1 := hx 1 (by decide)
    have e2 : ρ 2 = x2 := hx 2 (by decide)
    have e3 : ρ 3 = x3 := hx 3 (by decide)
    have e4 : ρ 4 = x4 := hx 4 (by decide)
    subst e0
    subst e1
    subst e2
    subst e3
    subst e4
    match stc, g8 with
    | [_], ⟨h, _⟩ => cases h; exact l0 τ ρ g1 g2 g3 g4 g5 g6
set_option maxRecDepth 20000 in
theorem xc_personE {σ : pm_S} (x0 x1 x2 x3 x4 : Int) (hB : an_GB pm_B σ) (g0 : (-2147483648) ≤ x0 ∧ x0 ≤ 2147483647) (g1 : (-2147483648) ≤ x1 ∧ x1 ≤ 2147483647) (g2 : (-2147483648) ≤ x2 ∧ x2 ≤ 2147483647) (g3 : 0 ≤ x3 ∧ x3 ≤ 10) (g4 : 0 ≤ x4 ∧ x4 ≤ 10) (e0 : (σ.1 3 0).toInt = x3) (e1 : (σ.1 7 0).toInt = x4) : Sp 131 23 [.ref 0, .int (Int32.ofInt (x0)), .int (Int32.ofInt (x1)), .int (Int32.ofInt (x2))] σ (fun r τ => an_GB pm_B τ ∧ ((¬ (0 ≤ x0 ∧ x0 < x3 ∧ 0 ≤ x1 ∧ x1 ≤ 99999 ∧ 0 ≤ x2 ∧ x2 ≤ 99 ∧ x4 ≤ 9) ∧ r = some (.int (Int32.ofInt (-1))) ∧ (τ.1 7 0).toInt = x4 ∧ puF [(7, 0)] [] σ τ) ∨ ((0 ≤ x0 ∧ x0 < x3 ∧ 0 ≤ x1 ∧ x1 ≤ 99999 ∧ 0 ≤ x2 ∧ x2 ≤ 99 ∧ x4 ≤ 9) ∧ r = some (.int (Int32.ofInt (x4))) ∧ (τ.1 7 0).toInt = x4 + 1 ∧ puF [(7, 0)] [(12, (x4).toNat, Int32.ofInt (-1)), (11, (x4).toNat, Int32.ofInt (x0)), (10, (x4).toNat, Int32.ofInt (x2)), (9, (x4).toNat, Int32.ofInt (x1)), (8, (x4).toNat, Int32.ofInt (x0))] σ τ))) := by
  refine Sp.at rfl rfl ?_
  refine xc_personE_s0 x0 x1 x2 x3 x4 hB ⟨by omega, by omega, by omega, by omega, by omega, trivial⟩ ⟨e0, e1, trivial⟩ ?_
  · intro τ1 y1  hB1 hF1 f1 rr1 _ c1
    obtain ⟨f1_0, f1_1, f1_2, f1_3, f1_4, -⟩ := f1
    obtain ⟨c1_0, c1_1, -⟩ := c1
    have hG1 : puF [(7, 0)] [] σ τ1 := puF.fq rfl (puF.rf _ _) hF1
    refine Ok.cv rfl rfl rfl rfl rfl rfl rfl ?_
    refine (x_h82 (x0) (x3) hB1 (by omega) c1_0).use (by decide) (fun r2 τ2 q2 => ?_)
    obtain ⟨hB2, hF2, ⟨q2, rfl, d2⟩ | ⟨q2, rfl, d2⟩⟩ := q2
    · have hG2 : puF [(7, 0)] [] σ τ2 := puF.fq rfl hG1 hF2
      have e2_3_0 : (τ2.1 3 0).toInt = x3 := (congrArg Int32.toInt (show τ2.1 3 0 = τ1.1 3 0 from hF2 3 0 rfl)).trans c1_0
      have e2_7_0 : (τ2.1 7 0).toInt = x4 := (congrArg Int32.toInt (show τ2.1 7 0 = τ1.1 7 0 from hF2 7 0 rfl)).trans c1_1
      refine xc_personE_s1 x0 x1 x2 x3 x4 hB2 ⟨by omega, by omega, by omega, by omega, by omega, trivial⟩ ⟨e2_3_0, e2_7_0, trivial⟩ ?_
      · intro τ3 y3  hB3 hF3 f3 rr3 _ c3
        obtain ⟨f3_0, f3_1, f3_2, f3_3, f3_4, -⟩ := f3
        obtain ⟨c3_0, c3_1, -⟩ := c3
        have hG3 : puF [(7, 0)] [] σ τ3 := puF.fq rfl hG2 hF3
        exact ⟨hB3, Or.inl ⟨by omega, rfl, c3_1, hG3⟩⟩
    · have hG2 : puF [(7, 0)] [] σ τ2 := puF.fq rfl hG1 hF2
      have e2_3_0 : (τ2.1 3 0).toInt = x3 := (congrArg Int32.toInt (show τ2.1 3 0 = τ1.1 3 0 from hF2 3 0 rfl)).trans c1_0
      have e2_7_0 : (τ2.1 7 0).toInt = x4 := (congrArg Int32.toInt (show τ2.1 7 0 = τ1.1 7 0 from hF2 7 0 rfl)).trans c1_1
      refine xc_personE_s2 x0 x1 x2 x3 x4 hB2 ⟨by omega, by omega, by omega, by omega, by omega, trivial⟩ ⟨e2_3_0, e2_7_0, trivial⟩ ?_
      · intro τ4 y4  hB4 hF4 f4 rr4 _ c4
        obtain ⟨f4_0, f4_1, f4_2, f4_3, f4_4, -⟩ := f4
        obtain ⟨c4_0, c4_1, -⟩ := c4
        have hG4 : puF [(7, 0)] [] σ τ4 := puF.fq rfl hG2 hF4
        refine Ok.cv rfl rfl rfl rfl rfl rfl rfl ?_
        refine (x_padd x0 x1 x2 x4 hB4 (by omega) (by omega) (by omega) (by omega) c4_1).use (by decide) (fun r5 τ5 q5 => ?_)
        obtain ⟨hB5, ⟨q5, rfl, d5, hF5⟩ | ⟨q5, rfl, d5, hF5⟩⟩ := q5
        · have hG5 : puF [(7, 0)] [] σ τ5 := puF.tr hG4 (puF.up rfl hF5)
          have e5_3_0 : (τ5.1 3 0).toInt = x3 := (congrArg Int32.toInt (show τ5.1 3 0 = τ4.1 3 0 from hF5 3 0 rfl)).trans c4_0
          refine xc_personE_s3 x0 x1 x2 x3 x4 hB5 ⟨by omega, by omega, by omega, by omega, by omega, trivial⟩ ⟨e5_3_0, d5, trivial⟩ ?_
          · intro τ6 y6  hB6 hF6 f6 rr6 _ c6
            obtain ⟨f6_0, f6_1, f6_2, f6_3, f6_4, -⟩ := f6
            obtain ⟨c6_0, c6_1, -⟩ := c6
            have hG6 : puF [(7, 0)] [] σ τ6 := puF.fq rfl hG5 hF6
            exact ⟨hB6, Or.inl ⟨by omega, rfl, c6_1, hG6⟩⟩
        · have hG5 : puF [(7, 0)] [(12, (x4).toNat, Int32.ofInt (-1)), (11, (x4).toNat, Int32.ofInt (x0)), (10, (x4).toNat, Int32.ofInt (x2)), (9, (x4).toNat, Int32.ofInt (x1)), (8, (x4).toNat, Int32.ofInt (x0))] σ τ5 := puF.tr hG4 (puF.up rfl hF5)
          have e5_3_0 : (τ5.1 3 0).toInt = x3 := (congrArg Int32.toInt (show τ5.1 3 0 = τ4.1 3 0 from hF5 3 0 rfl)).trans c4_0
          refine xc_personE_s4 x0 x1 x2 x3 x4 hB5 ⟨by omega, by omega, by omega, by omega, by omega, trivial⟩ ⟨e5_3_0, d5, trivial⟩ ?_
          · intro τ7 y7  hB7 hF7 f7 rr7 _ c7
            obtain ⟨f7_0, f7_1, f7_2, f7_3, f7_4, -⟩ := f7
            obtain ⟨c7_0, c7_1, -⟩ := c7
            have hG7 : puF [(7, 0)] [(12, (x4).toNat, Int32.ofInt (-1)), (11, (x4).toNat, Int32.ofInt (x0)), (10, (x4).toNat, Int32.ofInt (x2)), (9, (x4).toNat, Int32.ofInt (x1)), (8, (x4).toNat, Int32.ofInt (x0))] σ τ7 := puF.fq rfl hG5 hF7
            exact ⟨hB7, Or.inr ⟨by omega, rfl, c7_1, hG7⟩⟩
set_option maxRecDepth 100000 in
theorem xm_personE_s0 {σ : pm_S} {Q : Option Value → pm_S → Prop} (x0 x1 x2 x3 x4 : Int)  (hB : an_GB pm_B σ) (eF : ((-2147483648) ≤ x0 ∧ x0 ≤ 2147483647) ∧ ((-2147483648) ≤ x1 ∧ x1 ≤ 2147483647) ∧ ((-2147483648) ≤ x2 ∧ x2 ≤ 2147483647) ∧ (0 ≤ x3 ∧ x3 ≤ 10) ∧ (0 ≤ x4 ∧ x4 ≤ 10) ∧ True) (eC : (σ.1 93 2).toInt = x3 ∧ (σ.1 93 5).toInt = x4 ∧ True)
    (l0 : ∀ (τ : pm_S) (y : Nat → Int), an_GB pm_B τ → FQ [(93, 0), (93, 5)] σ τ → (((-2147483648) ≤ x0 ∧ x0 ≤ 2147483647) ∧ ((-2147483648) ≤ x1 ∧ x1 ≤ 2147483647) ∧ ((-2147483648) ≤ x2 ∧ x2 ≤ 2147483647) ∧ (0 ≤ x3 ∧ x3 ≤ 10) ∧ (0 ≤ x4 ∧ x4 ≤ 10) ∧ True) → (True) → (True) → ((τ.1 93 2).toInt = x3 ∧ (τ.1 93 5).toInt = x4 ∧ True) → Ok 168 21 5 [.ref 93, .int (Int32.ofInt (x0)), .int (Int32.ofInt (x1)), .int (Int32.ofInt (x2))] [.int (Int32.ofInt (x0)), .ref 93] τ Q)
    : Ok 168 21 0 [.ref 93, .int (Int32.ofInt (x0)), .int (Int32.ofInt (x1)), .int (Int32.ofInt (x2))] [] σ Q := by
  refine an_seg (B := pm_B) (F := [(93, 0), (93, 5)]) (T := []) (S := []) (fun _ h => absurd h List.not_mem_nil) (k := 168) (d := 20) (cs := [5, 30, 36, 42, 48]) 7 0 5 [(0, (-2147483648), 2147483647), (1, (-2147483648), 2147483647), (2, (-2147483648), 2147483647), (3, 0, 10), (4, 0, 10)] [(93, (1, 0, 2), (0, 3, 0)), (93, (1, 0, 5), (0, 4, 0))] [(2, 93, 0), (0, 0, 0), (0, 1, 0), (0, 2, 0)] [] [(5, [(2, 93, 0), (0, 0, 0), (0, 1, 0), (0, 2, 0)], [(0, 0, 0), (2, 93, 0)], [(0, (-2147483648), 2147483647), (1, (-2147483648), 2147483647), (2, (-2147483648), 2147483647), (3, 0, 10), (4, 0, 10)], [], [], [(93, (1, 0, 2), (0, 3, 0)), (93, (1, 0, 5), (0, 4, 0))])] (by decide +kernel) (ρ0 := (fun s => [x0, x1, x2, x3, x4].getD s 0)) hB eF eC ⟨rfl, ⟨rfl, ⟨rfl, ⟨rfl, trivial⟩⟩⟩⟩ trivial ?_
  refine List.forall_mem_cons.mpr ⟨?_, fun _ h => absurd h List.not_mem_nil⟩
  · intro ρ τ Lc stc hx g1 g2 g3 g4 g5 g6 g7 g8
    have e0 : ρ 0 = x0 := hx 0 (by decide)
    have e1 : ρ 1 = x1 := hx 1 (by decide)
    have e2 : ρ 2 = x2 := hx 2 (by decide)
    have e3 : ρ 3 = x3 := hx 3 (by decide)
    have e4 : ρ 4 = x4 := hx 4 (by decide)
    subst e0
    subst e1
    subst e2
    subst e3
    subst e4
    have g7 := g7 (by decide)
    match Lc, stc, g7, g8 with
    | [v0, v1, v2, v3], [w0, w1], ⟨hv0, hv1, hv2, hv3, _⟩, ⟨hw0, hw1, _⟩ =>
      cases hv0
      cases hv1
      cases hv2
      cases hv3
      cases hw0
      cases hw1
      exact l0 τ ρ  g1 g2 g3 g4 g5 g6
set_option maxRecDepth 100000 in
theorem xm_personE_s1 {σ : pm_S} {Q : Option Value → pm_S → Prop} (x0 x1 x2 x3 x4 : Int)  (hB : an_GB pm_B σ) (eF : ((-2147483648) ≤ x0 ∧ x0 ≤ 2147483647) ∧ ((-2147483648) ≤ x1 ∧ x1 ≤ 2147483647) ∧ ((-2147483648) ≤ x2 ∧ x2 ≤ 2147483647) ∧ (0 ≤ x3 ∧ x3 ≤ 10) ∧ (0 ≤ x4 ∧ x4 ≤ 10) ∧ True) (eC : (σ.1 93 2).toInt = x3 ∧ (σ.1 93 5).toInt = x4 ∧ True)
    (l0 : ∀ (τ : pm_S) (y : Nat → Int), an_GB pm_B τ → FQ [(93, 0), (93, 5)] σ τ → (((-2147483648) ≤ x0 ∧ x0 ≤ 2147483647) ∧ ((-2147483648) ≤ x1 ∧ x1 ≤ 2147483647) ∧ ((-2147483648) ≤ x2 ∧ x2 ≤ 2147483647) ∧ (0 ≤ x3 ∧ x3 ≤ 10) ∧ (0 ≤ x4 ∧ x4 ≤ 10) ∧ True) → (True) → (True) → ((τ.1 93 2).toInt = x3 ∧ (τ.1 93 5).toInt = x4 ∧ True) → Q (some (.int (Int32.ofInt (-1)))) τ)
    : Ok 168 21 6 [.ref 93, .int (Int32.ofInt (x0)), .int (Int32.ofInt (x1)), .int (Int32.ofInt (x2))] [.int (Int32.ofInt 0)] σ Q := by
  refine an_seg (B := pm_B) (F := [(93, 0), (93, 5)]) (T := []) (S := []) (fun _ h => absurd h List.not_mem_nil) (k := 168) (d := 20) (cs := [5, 30, 36, 42, 48]) 5 6 5 [(0, (-2147483648), 2147483647), (1, (-2147483648), 2147483647), (2, (-2147483648), 2147483647), (3, 0, 10), (4, 0, 10)] [(93, (1, 0, 2), (0, 3, 0)), (93, (1, 0, 5), (0, 4, 0))] [(2, 93, 0), (0, 0, 0), (0, 1, 0), (0, 2, 0)] [(1, 0, 0)] [(9999, [], [(1, 0, (-1))], [(0, (-2147483648), 2147483647), (1, (-2147483648), 2147483647), (2, (-2147483648), 2147483647), (3, 0, 10), (4, 0, 10)], [], [], [(93, (1, 0, 2), (0, 3, 0)), (93, (1, 0, 5), (0, 4, 0))])] (by decide +kernel) (ρ0 := (fun s => [x0, x1, x2, x3, x4].getD s 0)) hB eF eC ⟨rfl, ⟨rfl, ⟨rfl, ⟨rfl, trivial⟩⟩⟩⟩ ⟨rfl, trivial⟩ ?_
  refine List.forall_mem_cons.mpr ⟨?_, fun _ h => absurd h List.not_mem_nil⟩
  · intro ρ τ Lc stc hx g1 g2 g3 g4 g5 g6 g7 g8
    have e0 : ρ 0 = x0 := hx 0 (by decide)
    have e1 : ρ 1 = x1 := hx 1 (by decide)
    have e2 : ρ 2 = x2 := hx 2 (by decide)
    have e3 : ρ 3 = x3 := hx 3 (by decide)
    have e4 : ρ 4 = x4 := hx 4 (by decide)
    subst e0
    subst e1
    subst e2
    subst e3
    subst e4
    match stc, g8 with
    | [_], ⟨h, _⟩ => cases h; exact l0 τ ρ g1 g2 g3 g4 g5 g6
set_option maxRecDepth 100000 in
theorem xm_personE_s2 {σ : pm_S} {Q : Option Value → pm_S → Prop} (x0 x1 x2 x3 x4 : Int)  (hB : an_GB pm_B σ) (eF : (0 ≤ x0 ∧ x0 ≤ 9) ∧ ((-2147483648) ≤ x1 ∧ x1 ≤ 2147483647) ∧ ((-2147483648) ≤ x2 ∧ x2 ≤ 2147483647) ∧ (0 ≤ x3 ∧ x3 ≤ 10) ∧ (0 ≤ x4 ∧ x4 ≤ 10) ∧ True) (eC : (σ.1 93 2).toInt = x3 ∧ (σ.1 93 5).toInt = x4 ∧ True)
    (l0 : ∀ (τ : pm_S) (y : Nat → Int), an_GB pm_B τ → FQ [(93, 0), (93, 5)] σ τ → ((0 ≤ x0 ∧ x0 ≤ 9) ∧ ((-2147483648) ≤ x1 ∧ x1 ≤ (-1)) ∧ ((-2147483648) ≤ x2 ∧ x2 ≤ 2147483647) ∧ (0 ≤ x3 ∧ x3 ≤ 10) ∧ (0 ≤ x4 ∧ x4 ≤ 10) ∧ True) → (True) → (True) → ((τ.1 93 2).toInt = x3 ∧ (τ.1 93 5).toInt = x4 ∧ True) → Q (some (.int (Int32.ofInt (-1)))) τ)
    (l1 : ∀ (τ : pm_S) (y : Nat → Int), an_GB pm_B τ → FQ [(93, 0), (93, 5)] σ τ → ((0 ≤ x0 ∧ x0 ≤ 9) ∧ (100000 ≤ x1 ∧ x1 ≤ 2147483647) ∧ ((-2147483648) ≤ x2 ∧ x2 ≤ 2147483647) ∧ (0 ≤ x3 ∧ x3 ≤ 10) ∧ (0 ≤ x4 ∧ x4 ≤ 10) ∧ True) → (True) → (True) → ((τ.1 93 2).toInt = x3 ∧ (τ.1 93 5).toInt = x4 ∧ True) → Q (some (.int (Int32.ofInt (-1)))) τ)
    (l2 : ∀ (τ : pm_S) (y : Nat → Int), an_GB pm_B τ → FQ [(93, 0), (93, 5)] σ τ → ((0 ≤ x0 ∧ x0 ≤ 9) ∧ (0 ≤ x1 ∧ x1 ≤ 99999) ∧ ((-2147483648) ≤ x2 ∧ x2 ≤ (-1)) ∧ (0 ≤ x3 ∧ x3 ≤ 10) ∧ (0 ≤ x4 ∧ x4 ≤ 10) ∧ True) → (True) → (True) → ((τ.1 93 2).toInt = x3 ∧ (τ.1 93 5).toInt = x4 ∧ True) → Q (some (.int (Int32.ofInt (-1)))) τ)
    (l3 : ∀ (τ : pm_S) (y : Nat → Int), an_GB pm_B τ → FQ [(93, 0), (93, 5)] σ τ → ((0 ≤ x0 ∧ x0 ≤ 9) ∧ (0 ≤ x1 ∧ x1 ≤ 99999) ∧ (100 ≤ x2 ∧ x2 ≤ 2147483647) ∧ (0 ≤ x3 ∧ x3 ≤ 10) ∧ (0 ≤ x4 ∧ x4 ≤ 10) ∧ True) → (True) → (True) → ((τ.1 93 2).toInt = x3 ∧ (τ.1 93 5).toInt = x4 ∧ True) → Q (some (.int (Int32.ofInt (-1)))) τ)
    (l4 : ∀ (τ : pm_S) (y : Nat → Int), an_GB pm_B τ → FQ [(93, 0), (93, 5)] σ τ → ((0 ≤ x0 ∧ x0 ≤ 9) ∧ (0 ≤ x1 ∧ x1 ≤ 99999) ∧ (0 ≤ x2 ∧ x2 ≤ 99) ∧ (0 ≤ x3 ∧ x3 ≤ 10) ∧ (0 ≤ x4 ∧ x4 ≤ 9) ∧ True) → (True) → (True) → ((τ.1 93 2).toInt = x3 ∧ (τ.1 93 5).toInt = x4 ∧ True) → Ok 168 21 30 [.ref 93, .int (Int32.ofInt (x0)), .int (Int32.ofInt (x1)), .int (Int32.ofInt (x2))] [.int (Int32.ofInt (x0)), .int (Int32.ofInt (x4)), .ref 96] τ Q)
    (l5 : ∀ (τ : pm_S) (y : Nat → Int), an_GB pm_B τ → FQ [(93, 0), (93, 5)] σ τ → ((0 ≤ x0 ∧ x0 ≤ 9) ∧ (0 ≤ x1 ∧ x1 ≤ 99999) ∧ (0 ≤ x2 ∧ x2 ≤ 99) ∧ (0 ≤ x3 ∧ x3 ≤ 10) ∧ (10 ≤ x4 ∧ x4 ≤ 10) ∧ True) → (True) → (True) → ((τ.1 93 2).toInt = x3 ∧ (τ.1 93 5).toInt = x4 ∧ True) → Q (some (.int (Int32.ofInt (-1)))) τ)
    : Ok 168 21 6 [.ref 93, .int (Int32.ofInt (x0)), .int (Int32.ofInt (x1)), .int (Int32.ofInt (x2))] [.int (Int32.ofInt 1)] σ Q := by
  refine an_seg (B := pm_B) (F := [(93, 0), (93, 5)]) (T := []) (S := []) (fun _ h => absurd h List.not_mem_nil) (k := 168) (d := 20) (cs := [5, 30, 36, 42, 48]) 42 6 5 [(0, 0, 9), (1, (-2147483648), 2147483647), (2, (-2147483648), 2147483647), (3, 0, 10), (4, 0, 10)] [(93, (1, 0, 2), (0, 3, 0)), (93, (1, 0, 5), (0, 4, 0))] [(2, 93, 0), (0, 0, 0), (0, 1, 0), (0, 2, 0)] [(1, 0, 1)] [(9999, [], [(1, 0, (-1))], [(0, 0, 9), (1, (-2147483648), (-1)), (2, (-2147483648), 2147483647), (3, 0, 10), (4, 0, 10)], [], [], [(93, (1, 0, 2), (0, 3, 0)), (93, (1, 0, 5), (0, 4, 0))]),
    (9999, [], [(1, 0, (-1))], [(0, 0, 9), (1, 100000, 2147483647), (2, (-2147483648), 2147483647), (3, 0, 10), (4, 0, 10)], [], [], [(93, (1, 0, 2), (0, 3, 0)), (93, (1, 0, 5), (0, 4, 0))]),
    (9999, [], [(1, 0, (-1))], [(0, 0, 9), (1, 0, 99999), (2, (-2147483648), (-1)), (3, 0, 10), (4, 0, 10)], [], [], [(93, (1, 0, 2), (0, 3, 0)), (93, (1, 0, 5), (0, 4, 0))]),
    (9999, [], [(1, 0, (-1))], [(0, 0, 9), (1, 0, 99999), (2, 100, 2147483647), (3, 0, 10), (4, 0, 10)], [], [], [(93, (1, 0, 2), (0, 3, 0)), (93, (1, 0, 5), (0, 4, 0))]),
    (30, [(2, 93, 0), (0, 0, 0), (0, 1, 0), (0, 2, 0)], [(0, 0, 0), (0, 4, 0), (2, 96, 0)], [(0, 0, 9), (1, 0, 99999), (2, 0, 99), (3, 0, 10), (4, 0, 9)], [], [], [(93, (1, 0, 2), (0, 3, 0)), (93, (1, 0, 5), (0, 4, 0))]),
    (9999, [], [(1, 0, (-1))], [(0, 0, 9), (1, 0, 99999), (2, 0, 99), (3, 0, 10), (4, 10, 10)], [], [], [(93, (1, 0, 2), (0, 3, 0)), (93, (1, 0, 5), (0, 4, 0))])] (by decide +kernel) (ρ0 := (fun s => [x0, x1, x2, x3, x4].getD s 0)) hB eF eC ⟨rfl, ⟨rfl, ⟨rfl, ⟨rfl, trivial⟩⟩⟩⟩ ⟨rfl, trivial⟩ ?_
  refine List.forall_mem_cons.mpr ⟨?_, List.forall_mem_cons.mpr ⟨?_, List.forall_mem_cons.mpr ⟨?_, List.forall_mem_cons.mpr ⟨?_, List.forall_mem_cons.mpr ⟨?_, List.forall_mem_cons.mpr ⟨?_, fun _ h => absurd h List.not_mem_nil⟩⟩⟩⟩⟩⟩
  · intro ρ τ Lc stc hx g1 g2 g3 g4 g5 g6 g7 g8
    have e0 : ρ 0 = x0 := hx 0 (by decide)
    have e1 : ρ 1 = x1 := hx 1 (by decide)
    have e2 : ρ 2 = x2 := hx 2 (by decide)
    have e3 : ρ 3 = x3 := hx 3 (by decide)
    have e4 : ρ 4 = x4 := hx 4 (by decide)
    subst e0
    subst e1
    subst e2
    subst e3
    subst e4
    match stc, g8 with
    | [_], ⟨h, _⟩ => cases h; exact l0 τ ρ g1 g2 g3 g4 g5 g6
  · intro ρ τ Lc stc hx g1 g2 g3 g4 g5 g6 g7 g8
    have e0 : ρ 0 = x0 := hx 0 (by decide)
    have e1 : ρ 1 = x1 := hx 1 (by decide)
    have e2 : ρ 2 = x2 := hx 2 (by decide)
    have e3 : ρ 3 = x3 := hx 3 (by decide)
    have e4 : ρ 4 = x4 := hx 4 (by decide)
    subst e0
    subst e1
    subst e2
    subst e3
    subst e4
    match stc, g8 with
    | [_], ⟨h, _⟩ => cases h; exact l1 τ ρ g1 g2 g3 g4 g5 g6
  · intro ρ τ Lc stc hx g1 g2 g3 g4 g5 g6 g7 g8
    have e0 : ρ 0 = x0 := hx 0 (by decide)
    have e1 : ρ 1 = x1 := hx 1 (by decide)
    have e2 : ρ 2 = x2 := hx 2 (by decide)
    have e3 : ρ 3 = x3 := hx 3 (by decide)
    have e4 : ρ 4 = x4 := hx 4 (by decide)
    subst e0
    subst e1
    subst e2
    subst e3
    subst e4
    match stc, g8 with
    | [_], ⟨h, _⟩ => cases h; exact l2 τ ρ g1 g2 g3 g4 g5 g6
  · intro ρ τ Lc stc hx g1 g2 g3 g4 g5 g6 g7 g8
    have e0 : ρ 0 = x0 := hx 0 (by decide)
    have e1 : ρ 1 = x1 := hx 1 (by decide)
    have e2 : ρ 2 = x2 := hx 2 (by decide)
    have e3 : ρ 3 = x3 := hx 3 (by decide)
    have e4 : ρ 4 = x4 := hx 4 (by decide)
    subst e0
    subst e1
    subst e2
    subst e3
    subst e4
    match stc, g8 with
    | [_], ⟨h, _⟩ => cases h; exact l3 τ ρ g1 g2 g3 g4 g5 g6
  · intro ρ τ Lc stc hx g1 g2 g3 g4 g5 g6 g7 g8
    have e0 : ρ 0 = x0 := hx 0 (by decide)
    have e1 : ρ 1 = x1 := hx 1 (by decide)
    have e2 : ρ 2 = x2 := hx 2 (by decide)
    have e3 : ρ 3 = x3 := hx 3 (by decide)
    have e4 : ρ 4 = x4 := hx 4 (by decide)
    subst e0
    subst e1
    subst e2
    subst e3
    subst e4
    have g7 := g7 (by decide)
    match Lc, stc, g7, g8 with
    | [v0, v1, v2, v3], [w0, w1, w2], ⟨hv0, hv1, hv2, hv3, _⟩, ⟨hw0, hw1, hw2, _⟩ =>
      cases hv0
      cases hv1
      cases hv2
      cases hv3
      cases hw0
      cases hw1
      cases hw2
      exact l4 τ ρ  g1 g2 g3 g4 g5 g6
  · intro ρ τ Lc stc hx g1 g2 g3 g4 g5 g6 g7 g8
    have e0 : ρ 0 = x0 := hx 0 (by decide)
    have e1 : ρ 1 = x1 := hx 1 (by decide)
    have e2 : ρ 2 = x2 := hx 2 (by decide)
    have e3 : ρ 3 = x3 := hx 3 (by decide)
    have e4 : ρ 4 = x4 := hx 4 (by decide)
    subst e0
    subst e1
    subst e2
    subst e3
    subst e4
    match stc, g8 with
    | [_], ⟨h, _⟩ => cases h; exact l5 τ ρ g1 g2 g3 g4 g5 g6
set_option maxRecDepth 100000 in
theorem xm_personE_s3 {σ : pm_S} {Q : Option Value → pm_S → Prop} (x0 x1 x2 x3 x4 : Int)  (hB : an_GB pm_B σ) (eF : (0 ≤ x0 ∧ x0 ≤ 9) ∧ (0 ≤ x1 ∧ x1 ≤ 99999) ∧ (0 ≤ x2 ∧ x2 ≤ 99) ∧ (0 ≤ x3 ∧ x3 ≤ 10) ∧ (0 ≤ x4 ∧ x4 ≤ 9) ∧ True) (eC : (σ.1 93 2).toInt = x3 ∧ (σ.1 93 5).toInt = x4 ∧ True)
    (l0 : ∀ (τ : pm_S) (y : Nat → Int), an_GB pm_B τ → FQ [(93, 0), (93, 5)] σ τ → ((0 ≤ x0 ∧ x0 ≤ 9) ∧ (0 ≤ x1 ∧ x1 ≤ 99999) ∧ (0 ≤ x2 ∧ x2 ≤ 99) ∧ (0 ≤ x3 ∧ x3 ≤ 10) ∧ (0 ≤ x4 ∧ x4 ≤ 9) ∧ True) → (True) → (True) → ((τ.1 93 2).toInt = x3 ∧ (τ.1 93 5).toInt = x4 ∧ True) → Ok 168 21 36 [.ref 93, .int (Int32.ofInt (x0)), .int (Int32.ofInt (x1)), .int (Int32.ofInt (x2))] [.int (Int32.ofInt (x1)), .int (Int32.ofInt (x4)), .ref 97] τ Q)
    : Ok 168 21 31 [.ref 93, .int (Int32.ofInt (x0)), .int (Int32.ofInt (x1)), .int (Int32.ofInt (x2))] [] σ Q := by
  refine an_seg (B := pm_B) (F := [(93, 0), (93, 5)]) (T := []) (S := []) (fun _ h => absurd h List.not_mem_nil) (k := 168) (d := 20) (cs := [5, 30, 36, 42, 48]) 7 31 5 [(0, 0, 9), (1, 0, 99999), (2, 0, 99), (3, 0, 10), (4, 0, 9)] [(93, (1, 0, 2), (0, 3, 0)), (93, (1, 0, 5), (0, 4, 0))] [(2, 93, 0), (0, 0, 0), (0, 1, 0), (0, 2, 0)] [] [(36, [(2, 93, 0), (0, 0, 0), (0, 1, 0), (0, 2, 0)], [(0, 1, 0), (0, 4, 0), (2, 97, 0)], [(0, 0, 9), (1, 0, 99999), (2, 0, 99), (3, 0, 10), (4, 0, 9)], [], [], [(93, (1, 0, 2), (0, 3, 0)), (93, (1, 0, 5), (0, 4, 0))])] (by decide +kernel) (ρ0 := (fun s => [x0, x1, x2, x3, x4].getD s 0)) hB eF eC ⟨rfl, ⟨rfl, ⟨rfl, ⟨rfl, trivial⟩⟩⟩⟩ trivial ?_
  refine List.forall_mem_cons.mpr ⟨?_, fun _ h => absurd h List.not_mem_nil⟩
  · intro ρ τ Lc stc hx g1 g2 g3 g4 g5 g6 g7 g8
    have e0 : ρ 0 = x0 := hx 0 (by decide)
    have e1 : ρ 1 = x1 := hx 1 (by decide)
    have e2 : ρ 2 = x2 := hx 2 (by decide)
    have e3 : ρ 3 = x3 := hx 3 (by decide)
    have e4 : ρ 4 = x4 := hx 4 (by decide)
    subst e0
    subst e1
    subst e2
    subst e3
    subst e4
    have g7 := g7 (by decide)
    match Lc, stc, g7, g8 with
    | [v0, v1, v2, v3], [w0, w1, w2], ⟨hv0, hv1, hv2, hv3, _⟩, ⟨hw0, hw1, hw2, _⟩ =>
      cases hv0
      cases hv1
      cases hv2
      cases hv3
      cases hw0
      cases hw1
      cases hw2
      exact l0 τ ρ  g1 g2 g3 g4 g5 g6
set_option maxRecDepth 100000 in
theorem xm_personE_s4 {σ : pm_S} {Q : Option Value → pm_S → Prop} (x0 x1 x2 x3 x4 : Int)  (hB : an_GB pm_B σ) (eF : (0 ≤ x0 ∧ x0 ≤ 9) ∧ (0 ≤ x1 ∧ x1 ≤ 99999) ∧ (0 ≤ x2 ∧ x2 ≤ 99) ∧ (0 ≤ x3 ∧ x3 ≤ 10) ∧ (0 ≤ x4 ∧ x4 ≤ 9) ∧ True) (eC : (σ.1 93 2).toInt = x3 ∧ (σ.1 93 5).toInt = x4 ∧ True)
    (l0 : ∀ (τ : pm_S) (y : Nat → Int), an_GB pm_B τ → FQ [(93, 0), (93, 5)] σ τ → ((0 ≤ x0 ∧ x0 ≤ 9) ∧ (0 ≤ x1 ∧ x1 ≤ 99999) ∧ (0 ≤ x2 ∧ x2 ≤ 99) ∧ (0 ≤ x3 ∧ x3 ≤ 10) ∧ (0 ≤ x4 ∧ x4 ≤ 9) ∧ True) → (True) → (True) → ((τ.1 93 2).toInt = x3 ∧ (τ.1 93 5).toInt = x4 ∧ True) → Ok 168 21 42 [.ref 93, .int (Int32.ofInt (x0)), .int (Int32.ofInt (x1)), .int (Int32.ofInt (x2))] [.int (Int32.ofInt (x2)), .int (Int32.ofInt (x4)), .ref 98] τ Q)
    : Ok 168 21 37 [.ref 93, .int (Int32.ofInt (x0)), .int (Int32.ofInt (x1)), .int (Int32.ofInt (x2))] [] σ Q := by
  refine an_seg (B := pm_B) (F := [(93, 0), (93, 5)]) (T := []) (S := []) (fun _ h => absurd h List.not_mem_nil) (k := 168) (d := 20) (cs := [5, 30, 36, 42, 48]) 7 37 5 [(0, 0, 9), (1, 0, 99999), (2, 0, 99), (3, 0, 10), (4, 0, 9)] [(93, (1, 0, 2), (0, 3, 0)), (93, (1, 0, 5), (0, 4, 0))] [(2, 93, 0), (0, 0, 0), (0, 1, 0), (0, 2, 0)] [] [(42, [(2, 93, 0), (0, 0, 0), (0, 1, 0), (0, 2, 0)], [(0, 2, 0), (0, 4, 0), (2, 98, 0)], [(0, 0, 9), (1, 0, 99999), (2, 0, 99), (3, 0, 10), (4, 0, 9)], [], [], [(93, (1, 0, 2), (0, 3, 0)), (93, (1, 0, 5), (0, 4, 0))])] (by decide +kernel) (ρ0 := (fun s => [x0, x1, x2, x3, x4].getD s 0)) hB eF eC ⟨rfl, ⟨rfl, ⟨rfl, ⟨rfl, trivial⟩⟩⟩⟩ trivial ?_
  refine List.forall_mem_cons.mpr ⟨?_, fun _ h => absurd h List.not_mem_nil⟩
  · intro ρ τ Lc stc hx g1 g2 g3 g4 g5 g6 g7 g8
    have e0 : ρ 0 = x0 := hx 0 (by decide)
    have e1 : ρ 1 = x1 := hx 1 (by decide)
    have e2 : ρ 2 = x2 := hx 2 (by decide)
    have e3 : ρ 3 = x3 := hx 3 (by decide)
    have e4 : ρ 4 = x4 := hx 4 (by decide)
    subst e0
    subst e1
    subst e2
    subst e3
    subst e4
    have g7 := g7 (by decide)
    match Lc, stc, g7, g8 with
    | [v0, v1, v2, v3], [w0, w1, w2], ⟨hv0, hv1, hv2, hv3, _⟩, ⟨hw0, hw1, hw2, _⟩ =>
      cases hv0
      cases hv1
      cases hv2
      cases hv3
      cases hw0
      cases hw1
      cases hw2
      exact l0 τ ρ  g1 g2 g3 g4 g5 g6
set_option maxRecDepth 100000 in
theorem xm_personE_s5 {σ : pm_S} {Q : Option Value → pm_S → Prop} (x0 x1 x2 x3 x4 : Int)  (hB : an_GB pm_B σ) (eF : (0 ≤ x0 ∧ x0 ≤ 9) ∧ (0 ≤ x1 ∧ x1 ≤ 99999) ∧ (0 ≤ x2 ∧ x2 ≤ 99) ∧ (0 ≤ x3 ∧ x3 ≤ 10) ∧ (0 ≤ x4 ∧ x4 ≤ 9) ∧ True) (eC : (σ.1 93 2).toInt = x3 ∧ (σ.1 93 5).toInt = x4 ∧ True)
    (l0 : ∀ (τ : pm_S) (y : Nat → Int), an_GB pm_B τ → FQ [(93, 0), (93, 5)] σ τ → ((0 ≤ x0 ∧ x0 ≤ 9) ∧ (0 ≤ x1 ∧ x1 ≤ 99999) ∧ (0 ≤ x2 ∧ x2 ≤ 99) ∧ (0 ≤ x3 ∧ x3 ≤ 10) ∧ (0 ≤ x4 ∧ x4 ≤ 9) ∧ True) → (True) → (True) → ((τ.1 93 2).toInt = x3 ∧ (τ.1 93 5).toInt = x4 ∧ True) → Ok 168 21 48 [.ref 93, .int (Int32.ofInt (x0)), .int (Int32.ofInt (x1)), .int (Int32.ofInt (x2))] [.int (Int32.ofInt (x0)), .int (Int32.ofInt (x4)), .ref 99] τ Q)
    : Ok 168 21 43 [.ref 93, .int (Int32.ofInt (x0)), .int (Int32.ofInt (x1)), .int (Int32.ofInt (x2))] [] σ Q := by
  refine an_seg (B := pm_B) (F := [(93, 0), (93, 5)]) (T := []) (S := []) (fun _ h => absurd h List.not_mem_nil) (k := 168) (d := 20) (cs := [5, 30, 36, 42, 48]) 7 43 5 [(0, 0, 9), (1, 0, 99999), (2, 0, 99), (3, 0, 10), (4, 0, 9)] [(93, (1, 0, 2), (0, 3, 0)), (93, (1, 0, 5), (0, 4, 0))] [(2, 93, 0), (0, 0, 0), (0, 1, 0), (0, 2, 0)] [] [(48, [(2, 93, 0), (0, 0, 0), (0, 1, 0), (0, 2, 0)], [(0, 0, 0), (0, 4, 0), (2, 99, 0)], [(0, 0, 9), (1, 0, 99999), (2, 0, 99), (3, 0, 10), (4, 0, 9)], [], [], [(93, (1, 0, 2), (0, 3, 0)), (93, (1, 0, 5), (0, 4, 0))])] (by decide +kernel) (ρ0 := (fun s => [x0, x1, x2, x3, x4].getD s 0)) hB eF eC ⟨rfl, ⟨rfl, ⟨rfl, ⟨rfl, trivial⟩⟩⟩⟩ trivial ?_
  refine List.forall_mem_cons.mpr ⟨?_, fun _ h => absurd h List.not_mem_nil⟩
  · intro ρ τ Lc stc hx g1 g2 g3 g4 g5 g6 g7 g8
    have e0 : ρ 0 = x0 := hx 0 (by decide)
    have e1 : ρ 1 = x1 := hx 1 (by decide)
    have e2 : ρ 2 = x2 := hx 2 (by decide)
    have e3 : ρ 3 = x3 := hx 3 (by decide)
    have e4 : ρ 4 = x4 := hx 4 (by decide)
    subst e0
    subst e1
    subst e2
    subst e3
    subst e4
    have g7 := g7 (by decide)
    match Lc, stc, g7, g8 with
    | [v0, v1, v2, v3], [w0, w1, w2], ⟨hv0, hv1, hv2, hv3, _⟩, ⟨hw0, hw1, hw2, _⟩ =>
      cases hv0
      cases hv1
      cases hv2
      cases hv3
      cases hw0
      cases hw1
      cases hw2
      exact l0 τ ρ  g1 g2 g3 g4 g5 g6
set_option maxRecDepth 100000 in
theorem xm_personE_s6 {σ : pm_S} {Q : Option Value → pm_S → Prop} (x0 x1 x2 x3 x4 : Int)  (hB : an_GB pm_B σ) (eF : (0 ≤ x0 ∧ x0 ≤ 9) ∧ (0 ≤ x1 ∧ x1 ≤ 99999) ∧ (0 ≤ x2 ∧ x2 ≤ 99) ∧ (0 ≤ x3 ∧ x3 ≤ 10) ∧ (0 ≤ x4 ∧ x4 ≤ 9) ∧ True) (eC : (σ.1 93 2).toInt = x3 ∧ (σ.1 93 5).toInt = x4 ∧ True)
    (l0 : ∀ (τ : pm_S) (y : Nat → Int), an_GB pm_B τ → FQ [(93, 0), (93, 5)] σ τ → ((0 ≤ x0 ∧ x0 ≤ 9) ∧ (0 ≤ x1 ∧ x1 ≤ 99999) ∧ (0 ≤ x2 ∧ x2 ≤ 99) ∧ (0 ≤ x3 ∧ x3 ≤ 10) ∧ (0 ≤ x4 ∧ x4 ≤ 9) ∧ True) → (True) → (True) → ((τ.1 93 2).toInt = x3 ∧ (τ.1 93 5).toInt = x4 + 1 ∧ True) → Q (some (.int (Int32.ofInt (x4)))) τ)
    : Ok 168 21 49 [.ref 93, .int (Int32.ofInt (x0)), .int (Int32.ofInt (x1)), .int (Int32.ofInt (x2))] [] σ Q := by
  refine an_seg (B := pm_B) (F := [(93, 0), (93, 5)]) (T := []) (S := []) (fun _ h => absurd h List.not_mem_nil) (k := 168) (d := 20) (cs := [5, 30, 36, 42, 48]) 13 49 5 [(0, 0, 9), (1, 0, 99999), (2, 0, 99), (3, 0, 10), (4, 0, 9)] [(93, (1, 0, 2), (0, 3, 0)), (93, (1, 0, 5), (0, 4, 0))] [(2, 93, 0), (0, 0, 0), (0, 1, 0), (0, 2, 0)] [] [(9999, [], [(0, 4, 0)], [(0, 0, 9), (1, 0, 99999), (2, 0, 99), (3, 0, 10), (4, 0, 9)], [], [], [(93, (1, 0, 2), (0, 3, 0)), (93, (1, 0, 5), (0, 4, 1))])] (by decide +kernel) (ρ0 := (fun s => [x0, x1, x2, x3, x4].getD s 0)) hB eF eC ⟨rfl, ⟨rfl, ⟨rfl, ⟨rfl, trivial⟩⟩⟩⟩ trivial ?_
  refine List.forall_mem_cons.mpr ⟨?_, fun _ h => absurd h List.not_mem_nil⟩
  · intro ρ τ Lc stc hx g1 g2 g3 g4 g5 g6 g7 g8
    have e0 : ρ 0 = x0 := hx 0 (by decide)
    have e1 : ρ 1 = x1 := hx 1 (by decide)
    have e2 : ρ 2 = x2 := hx 2 (by decide)
    have e3 : ρ 3 = x3 := hx 3 (by decide)
    have e4 : ρ 4 = x4 := hx 4 (by decide)
    subst e0
    subst e1
    subst e2
    subst e3
    subst e4
    match stc, g8 with
    | [_], ⟨h, _⟩ => cases h; exact l0 τ ρ g1 g2 g3 g4 g5 g6
set_option maxRecDepth 20000 in
theorem xm_personE {σ : pm_S} (x0 x1 x2 x3 x4 : Int) (hB : an_GB pm_B σ) (g0 : (-2147483648) ≤ x0 ∧ x0 ≤ 2147483647) (g1 : (-2147483648) ≤ x1 ∧ x1 ≤ 2147483647) (g2 : (-2147483648) ≤ x2 ∧ x2 ≤ 2147483647) (g3 : 0 ≤ x3 ∧ x3 ≤ 10) (g4 : 0 ≤ x4 ∧ x4 ≤ 10) (e0 : (σ.1 93 2).toInt = x3) (e1 : (σ.1 93 5).toInt = x4) : Sp 168 21 [.ref 93, .int (Int32.ofInt (x0)), .int (Int32.ofInt (x1)), .int (Int32.ofInt (x2))] σ (fun r τ => an_GB pm_B τ ∧ ((¬ (0 ≤ x0 ∧ x0 < x3 ∧ 0 ≤ x1 ∧ x1 ≤ 99999 ∧ 0 ≤ x2 ∧ x2 ≤ 99 ∧ x4 ≤ 9) ∧ r = some (.int (Int32.ofInt (-1))) ∧ (τ.1 93 5).toInt = x4 ∧ puF [(93, 0), (93, 5)] [] σ τ) ∨ ((0 ≤ x0 ∧ x0 < x3 ∧ 0 ≤ x1 ∧ x1 ≤ 99999 ∧ 0 ≤ x2 ∧ x2 ≤ 99 ∧ x4 ≤ 9) ∧ r = some (.int (Int32.ofInt (x4))) ∧ (τ.1 93 5).toInt = x4 + 1 ∧ puF [(93, 0), (93, 5)] [(99, (x4).toNat, Int32.ofInt (x0)), (98, (x4).toNat, Int32.ofInt (x2)), (97, (x4).toNat, Int32.ofInt (x1)), (96, (x4).toNat, Int32.ofInt (x0))] σ τ))) := by
  refine Sp.at rfl rfl ?_
  refine xm_personE_s0 x0 x1 x2 x3 x4 hB ⟨by omega, by omega, by omega, by omega, by omega, trivial⟩ ⟨e0, e1, trivial⟩ ?_
  · intro τ1 y1  hB1 hF1 f1 rr1 _ c1
    obtain ⟨f1_0, f1_1, f1_2, f1_3, f1_4, -⟩ := f1
    obtain ⟨c1_0, c1_1, -⟩ := c1
    have hG1 : puF [(93, 0), (93, 5)] [] σ τ1 := puF.fq rfl (puF.rf _ _) hF1
    refine Ok.cv rfl rfl rfl rfl rfl rfl rfl ?_
    refine (x_h163 (x0) (x3) hB1 (by omega) c1_0).use (by decide) (fun r2 τ2 q2 => ?_)
    obtain ⟨hB2, hF2, ⟨q2, rfl, d2⟩ | ⟨q2, rfl, d2⟩⟩ := q2
    · have hG2 : puF [(93, 0), (93, 5)] [] σ τ2 := puF.fq rfl hG1 hF2
      have e2_93_2 : (τ2.1 93 2).toInt = x3 := (congrArg Int32.toInt (show τ2.1 93 2 = τ1.1 93 2 from hF2 93 2 rfl)).trans c1_0
      have e2_93_5 : (τ2.1 93 5).toInt = x4 := (congrArg Int32.toInt (show τ2.1 93 5 = τ1.1 93 5 from hF2 93 5 rfl)).trans c1_1
      refine xm_personE_s1 x0 x1 x2 x3 x4 hB2 ⟨by omega, by omega, by omega, by omega, by omega, trivial⟩ ⟨e2_93_2, e2_93_5, trivial⟩ ?_
      · intro τ3 y3  hB3 hF3 f3 rr3 _ c3
        obtain ⟨f3_0, f3_1, f3_2, f3_3, f3_4, -⟩ := f3
        obtain ⟨c3_0, c3_1, -⟩ := c3
        have hG3 : puF [(93, 0), (93, 5)] [] σ τ3 := puF.fq rfl hG2 hF3
        exact ⟨hB3, Or.inl ⟨by omega, rfl, c3_1, hG3⟩⟩
    · have hG2 : puF [(93, 0), (93, 5)] [] σ τ2 := puF.fq rfl hG1 hF2
      have e2_93_2 : (τ2.1 93 2).toInt = x3 := (congrArg Int32.toInt (show τ2.1 93 2 = τ1.1 93 2 from hF2 93 2 rfl)).trans c1_0
      have e2_93_5 : (τ2.1 93 5).toInt = x4 := (congrArg Int32.toInt (show τ2.1 93 5 = τ1.1 93 5 from hF2 93 5 rfl)).trans c1_1
      refine xm_personE_s2 x0 x1 x2 x3 x4 hB2 ⟨by omega, by omega, by omega, by omega, by omega, trivial⟩ ⟨e2_93_2, e2_93_5, trivial⟩ ?_ ?_ ?_ ?_ ?_ ?_
      · intro τ4 y4  hB4 hF4 f4 rr4 _ c4
        obtain ⟨f4_0, f4_1, f4_2, f4_3, f4_4, -⟩ := f4
        obtain ⟨c4_0, c4_1, -⟩ := c4
        have hG4 : puF [(93, 0), (93, 5)] [] σ τ4 := puF.fq rfl hG2 hF4
        exact ⟨hB4, Or.inl ⟨by omega, rfl, c4_1, hG4⟩⟩
      · intro τ5 y5  hB5 hF5 f5 rr5 _ c5
        obtain ⟨f5_0, f5_1, f5_2, f5_3, f5_4, -⟩ := f5
        obtain ⟨c5_0, c5_1, -⟩ := c5
        have hG5 : puF [(93, 0), (93, 5)] [] σ τ5 := puF.fq rfl hG2 hF5
        exact ⟨hB5, Or.inl ⟨by omega, rfl, c5_1, hG5⟩⟩
      · intro τ6 y6  hB6 hF6 f6 rr6 _ c6
        obtain ⟨f6_0, f6_1, f6_2, f6_3, f6_4, -⟩ := f6
        obtain ⟨c6_0, c6_1, -⟩ := c6
        have hG6 : puF [(93, 0), (93, 5)] [] σ τ6 := puF.fq rfl hG2 hF6
        exact ⟨hB6, Or.inl ⟨by omega, rfl, c6_1, hG6⟩⟩
      · intro τ7 y7  hB7 hF7 f7 rr7 _ c7
        obtain ⟨f7_0, f7_1, f7_2, f7_3, f7_4, -⟩ := f7
        obtain ⟨c7_0, c7_1, -⟩ := c7
        have hG7 : puF [(93, 0), (93, 5)] [] σ τ7 := puF.fq rfl hG2 hF7
        exact ⟨hB7, Or.inl ⟨by omega, rfl, c7_1, hG7⟩⟩
      · intro τ8 y8  hB8 hF8 f8 rr8 _ c8
        obtain ⟨f8_0, f8_1, f8_2, f8_3, f8_4, -⟩ := f8
        obtain ⟨c8_0, c8_1, -⟩ := c8
        have hG8 : puF [(93, 0), (93, 5)] [] σ τ8 := puF.fq rfl hG2 hF8
        refine Ok.ast (n := 10) rfl rfl rfl (by decide) (by omega) (by omega) ?_
        have hG9 : puF [(93, 0), (93, 5)] [(96, (x4).toNat, Int32.ofInt (x0))] σ (put τ8 96 (x4).toNat (Int32.ofInt (x0))) := puF.put hG8
        have hB9 : an_GB pm_B (put τ8 96 (x4).toNat (Int32.ofInt (x0))) := put_GB hB8 (by
          show (0 : Int) ≤ (Int32.ofInt (x0)).toInt ∧ (Int32.ofInt (x0)).toInt ≤ 9
          rw [ti_of (by omega) (by omega)]
          omega)
        have e9_93_2 : ((put τ8 96 (x4).toNat (Int32.ofInt (x0))).1 93 2).toInt = x3 := (congrArg Int32.toInt (put_nr (by decide))).trans c8_0
        have e9_93_5 : ((put τ8 96 (x4).toNat (Int32.ofInt (x0))).1 93 5).toInt = x4 := (congrArg Int32.toInt (put_nr (by decide))).trans c8_1
        refine xm_personE_s3 x0 x1 x2 x3 x4 hB9 ⟨by omega, by omega, by omega, by omega, by omega, trivial⟩ ⟨e9_93_2, e9_93_5, trivial⟩ ?_
        · intro τ10 y10  hB10 hF10 f10 rr10 _ c10
          obtain ⟨f10_0, f10_1, f10_2, f10_3, f10_4, -⟩ := f10
          obtain ⟨c10_0, c10_1, -⟩ := c10
          have hG10 : puF [(93, 0), (93, 5)] [(96, (x4).toNat, Int32.ofInt (x0))] σ τ10 := puF.fq rfl hG9 hF10
          refine Ok.ast (n := 10) rfl rfl rfl (by decide) (by omega) (by omega) ?_
          have hG11 : puF [(93, 0), (93, 5)] [(97, (x4).toNat, Int32.ofInt (x1)), (96, (x4).toNat, Int32.ofInt (x0))] σ (put τ10 97 (x4).toNat (Int32.ofInt (x1))) := puF.put hG10
          have hB11 : an_GB pm_B (put τ10 97 (x4).toNat (Int32.ofInt (x1))) := put_GB hB10 (by
            show ((-2147483648) : Int) ≤ (Int32.ofInt (x1)).toInt ∧ (Int32.ofInt (x1)).toInt ≤ 2147483647
            rw [ti_of (by omega) (by omega)]
            omega)
          have e11_93_2 : ((put τ10 97 (x4).toNat (Int32.ofInt (x1))).1 93 2).toInt = x3 := (congrArg Int32.toInt (put_nr (by decide))).trans c10_0
          have e11_93_5 : ((put τ10 97 (x4).toNat (Int32.ofInt (x1))).1 93 5).toInt = x4 := (congrArg Int32.toInt (put_nr (by decide))).trans c10_1
          refine xm_personE_s4 x0 x1 x2 x3 x4 hB11 ⟨by omega, by omega, by omega, by omega, by omega, trivial⟩ ⟨e11_93_2, e11_93_5, trivial⟩ ?_
          · intro τ12 y12  hB12 hF12 f12 rr12 _ c12
            obtain ⟨f12_0, f12_1, f12_2, f12_3, f12_4, -⟩ := f12
            obtain ⟨c12_0, c12_1, -⟩ := c12
            have hG12 : puF [(93, 0), (93, 5)] [(97, (x4).toNat, Int32.ofInt (x1)), (96, (x4).toNat, Int32.ofInt (x0))] σ τ12 := puF.fq rfl hG11 hF12
            refine Ok.ast (n := 10) rfl rfl rfl (by decide) (by omega) (by omega) ?_
            have hG13 : puF [(93, 0), (93, 5)] [(98, (x4).toNat, Int32.ofInt (x2)), (97, (x4).toNat, Int32.ofInt (x1)), (96, (x4).toNat, Int32.ofInt (x0))] σ (put τ12 98 (x4).toNat (Int32.ofInt (x2))) := puF.put hG12
            have hB13 : an_GB pm_B (put τ12 98 (x4).toNat (Int32.ofInt (x2))) := put_GB hB12 (by
              show ((-2147483648) : Int) ≤ (Int32.ofInt (x2)).toInt ∧ (Int32.ofInt (x2)).toInt ≤ 2147483647
              rw [ti_of (by omega) (by omega)]
              omega)
            have e13_93_2 : ((put τ12 98 (x4).toNat (Int32.ofInt (x2))).1 93 2).toInt = x3 := (congrArg Int32.toInt (put_nr (by decide))).trans c12_0
            have e13_93_5 : ((put τ12 98 (x4).toNat (Int32.ofInt (x2))).1 93 5).toInt = x4 := (congrArg Int32.toInt (put_nr (by decide))).trans c12_1
            refine xm_personE_s5 x0 x1 x2 x3 x4 hB13 ⟨by omega, by omega, by omega, by omega, by omega, trivial⟩ ⟨e13_93_2, e13_93_5, trivial⟩ ?_
            · intro τ14 y14  hB14 hF14 f14 rr14 _ c14
              obtain ⟨f14_0, f14_1, f14_2, f14_3, f14_4, -⟩ := f14
              obtain ⟨c14_0, c14_1, -⟩ := c14
              have hG14 : puF [(93, 0), (93, 5)] [(98, (x4).toNat, Int32.ofInt (x2)), (97, (x4).toNat, Int32.ofInt (x1)), (96, (x4).toNat, Int32.ofInt (x0))] σ τ14 := puF.fq rfl hG13 hF14
              refine Ok.ast (n := 10) rfl rfl rfl (by decide) (by omega) (by omega) ?_
              have hG15 : puF [(93, 0), (93, 5)] [(99, (x4).toNat, Int32.ofInt (x0)), (98, (x4).toNat, Int32.ofInt (x2)), (97, (x4).toNat, Int32.ofInt (x1)), (96, (x4).toNat, Int32.ofInt (x0))] σ (put τ14 99 (x4).toNat (Int32.ofInt (x0))) := puF.put hG14
              have hB15 : an_GB pm_B (put τ14 99 (x4).toNat (Int32.ofInt (x0))) := put_GB hB14 (by
                show (0 : Int) ≤ (Int32.ofInt (x0)).toInt ∧ (Int32.ofInt (x0)).toInt ≤ 9
                rw [ti_of (by omega) (by omega)]
                omega)
              have e15_93_2 : ((put τ14 99 (x4).toNat (Int32.ofInt (x0))).1 93 2).toInt = x3 := (congrArg Int32.toInt (put_nr (by decide))).trans c14_0
              have e15_93_5 : ((put τ14 99 (x4).toNat (Int32.ofInt (x0))).1 93 5).toInt = x4 := (congrArg Int32.toInt (put_nr (by decide))).trans c14_1
              refine xm_personE_s6 x0 x1 x2 x3 x4 hB15 ⟨by omega, by omega, by omega, by omega, by omega, trivial⟩ ⟨e15_93_2, e15_93_5, trivial⟩ ?_
              · intro τ16 y16  hB16 hF16 f16 rr16 _ c16
                obtain ⟨f16_0, f16_1, f16_2, f16_3, f16_4, -⟩ := f16
                obtain ⟨c16_0, c16_1, -⟩ := c16
                have hG16 : puF [(93, 0), (93, 5)] [(99, (x4).toNat, Int32.ofInt (x0)), (98, (x4).toNat, Int32.ofInt (x2)), (97, (x4).toNat, Int32.ofInt (x1)), (96, (x4).toNat, Int32.ofInt (x0))] σ τ16 := puF.fq rfl hG15 hF16
                exact ⟨hB16, Or.inr ⟨by omega, rfl, c16_1, hG16⟩⟩
      · intro τ17 y17  hB17 hF17 f17 rr17 _ c17
        obtain ⟨f17_0, f17_1, f17_2, f17_3, f17_4, -⟩ := f17
        obtain ⟨c17_0, c17_1, -⟩ := c17
        have hG17 : puF [(93, 0), (93, 5)] [] σ τ17 := puF.fq rfl hG2 hF17
        exact ⟨hB17, Or.inl ⟨by omega, rfl, c17_1, hG17⟩⟩
