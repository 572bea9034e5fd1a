/-! state, sunday, the fog's setting as keys -/
abbrev K2 : KY := [(1, 0, 93, 1), (1, 1, 93, 19), (2, 0, 108, 0), (0, 2, 93, 64), (34, 0, 133, 0), (34, 1, 133, 243), (35, 0, 133, 246)]
def nx2 (s : Int) : Int := (an_f 0 (an_f 2 (Int32.ofInt 1664525) (Int32.ofInt s)) (Int32.ofInt 1013904223)).toInt
def nxt (f s : Int) : Int := if 1 ≤ f then nx2 s else s
theorem nxt_0 {f s : Int} (h : f ≤ 0) : nxt f s = s := if_neg (by omega)
theorem nxt_1 {f s y2 y3 : Int} (h : 1 ≤ f) (d2 : (an_f 2 (Int32.ofInt 1664525) (Int32.ofInt s)).toInt = y2) (d3 : (an_f 0 (Int32.ofInt y2) (Int32.ofInt 1013904223)).toInt = y3) : nxt f s = y3 := by
  unfold nxt nx2
  rw [if_pos h, ← d3, ← d2, oI]
def itn (f : Int) : Nat → Int → Int
  | 0, s => s
  | n + 1, s => nxt f (itn f n s)
set_option maxRecDepth 100000 in
theorem sg_so {σ : pm_S} {Q : Option Value → pm_S → Prop} (x0 x1 : Int) (v1 : Value) (v2 : Value) (hv1 : v1.category = 1) (hv2 : v2.category = 1) (hB : an_GB pm_B σ) (eF : ((-2147483648) ≤ x0 ∧ x0 ≤ 2147483647) ∧ (0 ≤ x1 ∧ x1 ≤ 100) ∧ True) (eC : (σ.1 1 0).toInt = x0 ∧ (σ.1 2 0).toInt = x1 ∧ True)
    (l0 : ∀ (τ : pm_S) (y : Nat → Int), an_GB pm_B τ → FQ [(1, 0), (1, 3)] σ τ → (((-2147483648) ≤ x0 ∧ x0 ≤ 2147483647) ∧ (0 ≤ x1 ∧ x1 ≤ 0) ∧ True) → (True) → (True) → ((τ.1 1 0).toInt = x0 ∧ True) → Ok 91 30 22 [.ref 74, .int (Int32.ofInt (x1)), .int (Int32.ofInt 0)] [] τ Q)
    (l1 : ∀ (τ : pm_S) (y : Nat → Int), an_GB pm_B τ → FQ [(1, 0), (1, 3)] σ τ → (((-2147483648) ≤ x0 ∧ x0 ≤ 2147483647) ∧ (1 ≤ x1 ∧ x1 ≤ 99) ∧ ((-2147483648) ≤ y 2 ∧ y 2 ≤ 2147483647) ∧ ((-2147483648) ≤ y 3 ∧ y 3 ≤ 2147483647) ∧ (0 ≤ y 4 ∧ y 4 ≤ 16777215) ∧ (1 ≤ y 5 ∧ y 5 ≤ 99) ∧ True) → (True) → ((an_f 2 (Int32.ofInt (1664525)) (Int32.ofInt (x0))).toInt = y 2 ∧ (an_f 0 (Int32.ofInt (y 2)) (Int32.ofInt (1013904223))).toInt = y 3 ∧ (an_f 8 (Int32.ofInt (y 3)) (Int32.ofInt (8))).toInt = y 4 ∧ (an_f 10 (Int32.ofInt (y 4)) (Int32.ofInt (100))).toInt = y 5 ∧ True) → ((τ.1 1 0).toInt = y 3 ∧ True) → Ok 91 30 22 [.ref 74, .int (Int32.ofInt (x1)), .int (Int32.ofInt 0)] [] τ Q)
    (l2 : ∀ (τ : pm_S) (y : Nat → Int), an_GB pm_B τ → FQ [(1, 0), (1, 3)] σ τ → (((-2147483648) ≤ x0 ∧ x0 ≤ 2147483647) ∧ (1 ≤ x1 ∧ x1 ≤ 100) ∧ ((-2147483648) ≤ y 2 ∧ y 2 ≤ 2147483647) ∧ ((-2147483648) ≤ y 3 ∧ y 3 ≤ 2147483647) ∧ (0 ≤ y 4 ∧ y 4 ≤ 16777215) ∧ (0 ≤ y 5 ∧ y 5 ≤ 99) ∧ True) → (True) → ((an_f 2 (Int32.ofInt (1664525)) (Int32.ofInt (x0))).toInt = y 2 ∧ (an_f 0 (Int32.ofInt (y 2)) (Int32.ofInt (1013904223))).toInt = y 3 ∧ (an_f 8 (Int32.ofInt (y 3)) (Int32.ofInt (8))).toInt = y 4 ∧ (an_f 10 (Int32.ofInt (y 4)) (Int32.ofInt (100))).toInt = y 5 ∧ True) → ((τ.1 1 0).toInt = y 3 ∧ True) → Ok 91 30 22 [.ref 74, .int (Int32.ofInt (x1)), .int (Int32.ofInt 0)] [] τ Q)
    : Ok 91 30 0 [.ref 74, v1, v2] [] σ Q := by
  refine an_seg (B := pm_B) (F := [(1, 0), (1, 3)]) (T := [2]) (S := []) (fun _ h => absurd h List.not_mem_nil) (k := 91) (d := 29) (cs := [22]) 41 0 2 [(0, (-2147483648), 2147483647), (1, 0, 100)] [(1, (1, 0, 0), (0, 0, 0)), (2, (1, 0, 0), (0, 1, 0))] [(2, 74, 0), (5, 0, 0), (5, 0, 0)] [] [(22, [(2, 74, 0), (0, 1, 0), (1, 0, 0)], [], [(0, (-2147483648), 2147483647), (1, 0, 0)], [], [], [(1, (1, 0, 0), (0, 0, 0))]),
    (22, [(2, 74, 0), (0, 1, 0), (1, 0, 0)], [], [(0, (-2147483648), 2147483647), (1, 1, 99), (2, (-2147483648), 2147483647), (3, (-2147483648), 2147483647), (4, 0, 16777215), (5, 1, 99)], [], [(2, (1, 0, 1664525), (0, 0, 0), 2), (0, (0, 2, 0), (1, 0, 1013904223), 3), (8, (0, 3, 0), (1, 0, 8), 4), (10, (0, 4, 0), (1, 0, 100), 5)], [(1, (1, 0, 0), (0, 3, 0))]),
    (22, [(2, 74, 0), (0, 1, 0), (1, 0, 0)], [], [(0, (-2147483648), 2147483647), (1, 1, 100), (2, (-2147483648), 2147483647), (3, (-2147483648), 2147483647), (4, 0, 16777215), (5, 0, 99)], [], [(2, (1, 0, 1664525), (0, 0, 0), 2), (0, (0, 2, 0), (1, 0, 1013904223), 3), (8, (0, 3, 0), (1, 0, 8), 4), (10, (0, 4, 0), (1, 0, 100), 5)], [(1, (1, 0, 0), (0, 3, 0))])] (by decide +kernel) (ρ0 := (fun s => [x0, x1].getD s 0)) hB eF eC ⟨rfl, ⟨hv1, ⟨hv2, trivial⟩⟩⟩ trivial ?_
  refine List.forall_mem_cons.mpr ⟨?_, List.forall_mem_cons.mpr ⟨?_, List.forall_mem_cons.mpr ⟨?_, fun _ h => absurd h List.not_mem_nil⟩⟩⟩
  · intro ρ τ Lc stc hx g1 g2 g3 g4 g5 g6 g7 g8
    have e0 : ρ 0 = x0 := hx 0 (by decide)
    have e1 : ρ 1 = x1 := hx 1 (by decide)
    subst e0
    subst e1
    have g7 := g7 (by decide)
    match Lc, stc, g7, g8 with
    | [v0, v1, v2], [], ⟨hv0, hv1, hv2, _⟩, _ =>
      cases hv0
      cases hv1
      cases hv2
      exact l0 τ ρ  g1 g2 g3 g4 g5 g6
  · intro ρ τ Lc stc hx g1 g2 g3 g4 g5 g6 g7 g8
    have e0 : ρ 0 = x0 := hx 0 (by decide)
    have e1 : ρ 1 = x1 := hx 1 (by decide)
    subst e0
    subst e1
    have g7 := g7 (by decide)
    match Lc, stc, g7, g8 with
    | [v0, v1, v2], [], ⟨hv0, hv1, hv2, _⟩, _ =>
      cases hv0
      cases hv1
      cases hv2
      exact l1 τ ρ  g1 g2 g3 g4 g5 g6
  · intro ρ τ Lc stc hx g1 g2 g3 g4 g5 g6 g7 g8
    have e0 : ρ 0 = x0 := hx 0 (by decide)
    have e1 : ρ 1 = x1 := hx 1 (by decide)
    subst e0
    subst e1
    have g7 := g7 (by decide)
    match Lc, stc, g7, g8 with
    | [v0, v1, v2], [], ⟨hv0, hv1, hv2, _⟩, _ =>
      cases hv0
      cases hv1
      cases hv2
      exact l2 τ ρ  g1 g2 g3 g4 g5 g6
abbrev hx_so : an_S := (91, 30, [(2, 74, 0, 0)], [], (0, 0, 0), [(1, 2), (9, 9999), (12, 9999)], [])
set_option maxRecDepth 100000 in
theorem hx_so_ok : an_chkX pm_B [] [] [(22, [(2, 74, 0, 0), (1, 0, 0, 100), (1, 0, 0, 10)], [], [(2, 2, 10), (0, 0, 1000000000000), (0, 0, 1000000000000), (0, 0, 1000000000000)], [])] [] hx_so 161 29 = true := by decide +kernel
set_option maxRecDepth 20000 in
theorem xc_send {σ : pm_S} (f n : Int) (hB : an_GB pm_B σ) (e0 : (σ.1 1 0).toInt = n) (ef : (σ.1 2 0).toInt = f) : Sp 91 30 [.ref 74] σ (fun r τ => r = none ∧ an_GB pm_B τ ∧ FQ [(1, 0), (1, 2), (1, 3), (9, 9999), (12, 9999)] σ τ ∧ (τ.1 1 0).toInt = nxt f n) := by
  have gf : (0 : Int) ≤ (σ.1 2 0).toInt ∧ (σ.1 2 0).toInt ≤ 100 := hB 2 0 (by decide)
  have gn := ai_rng (σ.1 1 0)
  have go : ∀ τ : pm_S, an_GB pm_B τ → FQ [(1, 0), (1, 3)] σ τ → (τ.1 1 0).toInt = nxt f n → Ok 91 30 22 [.ref 74, .int (Int32.ofInt f), .int (Int32.ofInt 0)] [] τ (fun r τ => r = none ∧ an_GB pm_B τ ∧ FQ [(1, 0), (1, 2), (1, 3), (9, 9999), (12, 9999)] σ τ ∧ (τ.1 1 0).toInt = nxt f n) := fun τ hB1 F1 c1 =>
    an_hdX (P := fun _ => True) (fun _ _ _ _ => trivial) (fun _ h => absurd h List.not_mem_nil) hx_so_ok hB1 trivial (fun r τ2 b1 b2 b3 => ⟨b2, b1, FQ.tr (FQ.up (G := [(1, 0), (1, 3)]) rfl F1) (FQ.up (G := [(1, 2), (9, 9999), (12, 9999)]) rfl b3), by rw [b3 1 0 rfl]; exact c1⟩) (fun hd h => absurd h List.not_mem_nil) _ List.mem_cons_self τ _ hB1 (fun _ _ _ => rfl) (show an_sargs [.ref 74, .int (Int32.ofInt f), .int (Int32.ofInt 0)] _ from ⟨rfl, sgI (by omega) (by omega) (by decide) (by decide), sgI (by decide) (by decide) (by decide) (by decide), trivial⟩) (fun q hq => absurd hq List.not_mem_nil) (fun r hr => absurd hr List.not_mem_nil)
  refine Sp.at rfl rfl ?_
  refine sg_so n f _ _ rfl rfl hB ⟨by omega, by omega, trivial⟩ ⟨e0, ef, trivial⟩ ?_ ?_ ?_
  · intro τ y hB1 F1 q _ _ c
    exact go τ hB1 F1 (c.1.trans (nxt_0 (by omega)).symm)
  · intro τ y hB1 F1 q _ d c
    exact go τ hB1 F1 (c.1.trans (nxt_1 (by omega) d.1 d.2.1).symm)
  · intro τ y hB1 F1 q _ d c
    exact go τ hB1 F1 (c.1.trans (nxt_1 (by omega) d.1 d.2.1).symm)
set_option maxRecDepth 100000 in
theorem sg_gb {σ : pm_S} {Q : Option Value → pm_S → Prop} (x0 x1 : Int) (v1 : Value) (hv1 : v1.category = 1) (hB : an_GB pm_B σ) (eF : ((-2147483648) ≤ x0 ∧ x0 ≤ 2147483647) ∧ (0 ≤ x1 ∧ x1 ≤ 9999) ∧ True) (eC : (σ.1 1 0).toInt = x0 ∧ (σ.1 1 1).toInt = x1 ∧ True)
    (l0 : ∀ (τ : pm_S) (y : Nat → Int), an_GB pm_B τ → FQ [(1, 1), (9, 9999), (11, 9999), (12, 9999), (16, 9999), (19, 9999), (20, 9999), (31, 2), (33, 9999), (74, 5), (75, 9999), (76, 9999), (77, 9999), (78, 9999)] σ τ → (((-2147483648) ≤ x0 ∧ x0 ≤ 2147483647) ∧ (0 ≤ x1 ∧ x1 ≤ 9999) ∧ ((-2147483648) ≤ y 3 ∧ y 3 ≤ 2147483647) ∧ True) → (True) → (True) → ((τ.1 1 0).toInt = x0 ∧ (τ.1 1 1).toInt = x1 + 1 ∧ True) → Q (some (.int (Int32.ofInt (y 3)))) τ)
    (l1 : ∀ (τ : pm_S) (y : Nat → Int), an_GB pm_B τ → FQ [(1, 1), (9, 9999), (11, 9999), (12, 9999), (16, 9999), (19, 9999), (20, 9999), (31, 2), (33, 9999), (74, 5), (75, 9999), (76, 9999), (77, 9999), (78, 9999)] σ τ → (((-2147483648) ≤ x0 ∧ x0 ≤ 2147483647) ∧ (0 ≤ x1 ∧ x1 ≤ 9999) ∧ ((-2147483648) ≤ y 5 ∧ y 5 ≤ 2147483647) ∧ True) → (True) → (True) → ((τ.1 1 0).toInt = x0 ∧ (τ.1 1 1).toInt = x1 + 1 ∧ True) → Q (some (.int (Int32.ofInt (y 5)))) τ)
    : Ok 90 70 2 [.ref 74, v1] [] σ Q := by
  refine an_seg (B := pm_B) (F := [(1, 1), (9, 9999), (11, 9999), (12, 9999), (16, 9999), (19, 9999), (20, 9999), (31, 2), (33, 9999), (74, 5), (75, 9999), (76, 9999), (77, 9999), (78, 9999)]) (T := []) (S := [se_3, se_4, se_7, se_36, se_38, se_39, se_40, se_41, se_42, se_43, se_44, se_45, se_46]) (List.forall_mem_cons.mpr ⟨se_3_ok, List.forall_mem_cons.mpr ⟨se_4_ok, List.forall_mem_cons.mpr ⟨se_7_ok, List.forall_mem_cons.mpr ⟨se_36_ok, List.forall_mem_cons.mpr ⟨se_38_ok, List.forall_mem_cons.mpr ⟨se_39_ok, List.forall_mem_cons.mpr ⟨se_40_ok, List.forall_mem_cons.mpr ⟨se_41_ok, List.forall_mem_cons.mpr ⟨se_42_ok, List.forall_mem_cons.mpr ⟨se_43_ok, List.forall_mem_cons.mpr ⟨se_44_ok, List.forall_mem_cons.mpr ⟨se_45_ok, List.forall_mem_cons.mpr ⟨se_46_ok, fun _ h => absurd h List.not_mem_nil⟩⟩⟩⟩⟩⟩⟩⟩⟩⟩⟩⟩⟩) (k := 90) (d := 69) (cs := []) 65 2 2 [(0, (-2147483648), 2147483647), (1, 0, 9999)] [(1, (1, 0, 0), (0, 0, 0)), (1, (1, 0, 1), (0, 1, 0))] [(2, 74, 0), (5, 0, 0)] [] [(9999, [], [(0, 3, 0)], [(0, (-2147483648), 2147483647), (1, 0, 9999), (3, (-2147483648), 2147483647)], [], [], [(1, (1, 0, 0), (0, 0, 0)), (1, (1, 0, 1), (0, 1, 1))]),
    (9999, [], [(0, 5, 0)], [(0, (-2147483648), 2147483647), (1, 0, 9999), (5, (-2147483648), 2147483647)], [], [], [(1, (1, 0, 0), (0, 0, 0)), (1, (1, 0, 1), (0, 1, 1))])] (by decide +kernel) (ρ0 := (fun s => [x0, x1].getD s 0)) hB eF eC ⟨rfl, ⟨hv1, trivial⟩⟩ trivial ?_
  refine List.forall_mem_cons.mpr ⟨?_, List.forall_mem_cons.mpr ⟨?_, fun _ h => absurd h List.not_mem_nil⟩⟩
  · intro ρ τ Lc stc hx g1 g2 g3 g4 g5 g6 g7 g8
    have e0 : ρ 0 = x0 := hx 0 (by decide)
    have e1 : ρ 1 = x1 := hx 1 (by decide)
    subst e0
    subst e1
    match stc, g8 with
    | [_], ⟨h, _⟩ => cases h; exact l0 τ ρ g1 g2 g3 g4 g5 g6
  · intro ρ τ Lc stc hx g1 g2 g3 g4 g5 g6 g7 g8
    have e0 : ρ 0 = x0 := hx 0 (by decide)
    have e1 : ρ 1 = x1 := hx 1 (by decide)
    subst e0
    subst e1
    match stc, g8 with
    | [_], ⟨h, _⟩ => cases h; exact l1 τ ρ g1 g2 g3 g4 g5 g6
set_option maxRecDepth 20000 in
theorem xc_goBy {σ : pm_S} (f n d : Int) (hB : an_GB pm_B σ) (e0 : (σ.1 1 0).toInt = n) (ef : (σ.1 2 0).toInt = f) (ed : (σ.1 1 1).toInt = d) (gd : 0 ≤ d ∧ d ≤ 9999) : Sp 90 70 [.ref 74] σ (fun r τ => (∃ w : Int32, r = some (.int w)) ∧ an_GB pm_B τ ∧ FQ [(1, 0), (1, 1), (1, 2), (1, 3), (9, 9999), (11, 9999), (12, 9999), (16, 9999), (19, 9999), (20, 9999), (31, 2), (33, 9999), (74, 5), (75, 9999), (76, 9999), (77, 9999), (78, 9999)] σ τ ∧ (τ.1 1 0).toInt = nxt f n ∧ (τ.1 1 1).toInt = d + 1) := by
  refine Sp.at rfl rfl ?_
  refine O_Sundays_goBy [1] 400 (fun R cl Z hR hcl hZ => ?_)
  conv => whnf
  refine hR _ _ _ _ ?_
  refine Ok.cv rfl rfl rfl rfl rfl rfl rfl ?_
  refine (xc_send f n hB e0 ef).use (by decide) (fun r τ q => ?_)
  obtain ⟨rfl, hB1, F1, c1⟩ := q
  have d1 : (τ.1 1 1).toInt = d := (congrArg Int32.toInt (F1 1 1 rfl)).trans ed
  have g1 := ai_rng (τ.1 1 0)
  refine sg_gb (nxt f n) d _ rfl hB1 ⟨by omega, by omega, trivial⟩ ⟨c1, d1, trivial⟩ ?_ ?_ <;>
  · intro τ2 y
    intros
    refine ⟨⟨_, rfl⟩, by assumption, FQ.tr (FQ.up (G := [(1, 0), (1, 2), (1, 3), (9, 9999), (12, 9999)]) rfl F1) (FQ.up (G := [(1, 1), (9, 9999), (11, 9999), (12, 9999), (16, 9999), (19, 9999), (20, 9999), (31, 2), (33, 9999), (74, 5), (75, 9999), (76, 9999), (77, 9999), (78, 9999)]) rfl (by assumption)), ?_, ?_⟩
    · exact And.left (by assumption)
    · exact And.left (And.right (by assumption))
set_option maxRecDepth 100000 in
theorem sg_cs0 {σ : pm_S} {Q : Option Value → pm_S → Prop} (x0 : Int)  (hB : an_GB pm_B σ) (eF : (0 ≤ x0 ∧ x0 ≤ 9999) ∧ True) (eC : (σ.1 1 1).toInt = x0 ∧ True)
    (l0 : ∀ (τ : pm_S) (y : Nat → Int), an_GB pm_B τ → FQ [] σ τ → ((9999 ≤ x0 ∧ x0 ≤ 9999) ∧ True) → (True) → (True) → ((τ.1 1 1).toInt = x0 ∧ True) → Q (some (.int (Int32.ofInt (-1)))) τ)
    (l1 : ∀ (τ : pm_S) (y : Nat → Int), an_GB pm_B τ → FQ [] σ τ → ((0 ≤ x0 ∧ x0 ≤ 9998) ∧ True) → (True) → (True) → ((τ.1 1 1).toInt = x0 ∧ True) → Ok 139 72 7 [.ref 0] [.ref 74] τ Q)
    : Ok 139 72 0 [.ref 0] [] σ Q := by
  refine an_seg (B := pm_B) (F := []) (T := []) (S := []) (fun _ h => absurd h List.not_mem_nil) (k := 139) (d := 71) (cs := [7]) 9 0 1 [(0, 0, 9999)] [(1, (1, 0, 1), (0, 0, 0))] [(2, 0, 0)] [] [(9999, [], [(1, 0, (-1))], [(0, 9999, 9999)], [], [], [(1, (1, 0, 1), (0, 0, 0))]),
    (7, [(2, 0, 0)], [(2, 74, 0)], [(0, 0, 9998)], [], [], [(1, (1, 0, 1), (0, 0, 0))])] (by decide +kernel) (ρ0 := (fun s => [x0].getD s 0)) hB eF eC ⟨rfl, trivial⟩ trivial ?_
  refine List.forall_mem_cons.mpr ⟨?_, List.forall_mem_cons.mpr ⟨?_, fun _ h => absurd h List.not_mem_nil⟩⟩
  · intro ρ τ Lc stc hx g1 g2 g3 g4 g5 g6 g7 g8
    have e0 : ρ 0 = x0 := hx 0 (by decide)
    subst e0
    match stc, g8 with
    | [_], ⟨h, _⟩ => cases h; exact l0 τ ρ g1 g2 g3 g4 g5 g6
  · intro ρ τ Lc stc hx g1 g2 g3 g4 g5 g6 g7 g8
    have e0 : ρ 0 = x0 := hx 0 (by decide)
    subst e0
    have g7 := g7 (by decide)
    match Lc, stc, g7, g8 with
    | [v0], [w0], ⟨hv0, _⟩, ⟨hw0, _⟩ =>
      cases hv0
      cases hw0
      exact l1 τ ρ  g1 g2 g3 g4 g5 g6
set_option maxRecDepth 100000 in
theorem sg_cs8 {σ : pm_S} {Q : Option Value → pm_S → Prop} (x0 : Int)  (hB : an_GB pm_B σ) (eF : ((-2147483648) ≤ x0 ∧ x0 ≤ 2147483647) ∧ True)
    (l0 : ∀ (τ : pm_S) (y : Nat → Int), an_GB pm_B τ → FQ [] σ τ → (((-2147483648) ≤ x0 ∧ x0 ≤ 2147483647) ∧ True) → (True) → (True) → (True) → Q (some (.int (Int32.ofInt (x0)))) τ)
    : Ok 139 72 8 [.ref 0] [.int (Int32.ofInt (x0))] σ Q := by
  refine an_seg (B := pm_B) (F := []) (T := []) (S := []) (fun _ h => absurd h List.not_mem_nil) (k := 139) (d := 71) (cs := []) 4 8 1 [(0, (-2147483648), 2147483647)] [] [(2, 0, 0)] [(0, 0, 0)] [(9999, [], [(0, 0, 0)], [(0, (-2147483648), 2147483647)], [], [], [])] (by decide +kernel) (ρ0 := (fun s => [x0].getD s 0)) hB eF trivial ⟨rfl, trivial⟩ ⟨rfl, trivial⟩ ?_
  refine List.forall_mem_cons.mpr ⟨?_, fun _ h => absurd h List.not_mem_nil⟩
  · intro ρ τ Lc stc hx g1 g2 g3 g4 g5 g6 g7 g8
    have e0 : ρ 0 = x0 := hx 0 (by decide)
    subst e0
    match stc, g8 with
    | [_], ⟨h, _⟩ => cases h; exact l0 τ ρ g1 g2 g3 g4 g5 g6
set_option maxRecDepth 20000 in
theorem xc_sunday {σ : pm_S} (f n d : Int) (hB : an_GB pm_B σ) (e0 : (σ.1 1 0).toInt = n) (ef : (σ.1 2 0).toInt = f) (ed : (σ.1 1 1).toInt = d) (gd : 0 ≤ d ∧ d ≤ 9999) : Sp 139 72 [.ref 0] σ (fun r τ => (∃ w : Int32, r = some (.int w)) ∧ an_GB pm_B τ ∧ FQ [(1, 0), (1, 1), (1, 2), (1, 3), (9, 9999), (11, 9999), (12, 9999), (16, 9999), (19, 9999), (20, 9999), (31, 2), (33, 9999), (74, 5), (75, 9999), (76, 9999), (77, 9999), (78, 9999)] σ τ ∧ (((τ.1 1 0).toInt = n ∧ (τ.1 1 1).toInt = d ∧ d = 9999) ∨ ((τ.1 1 0).toInt = nxt f n ∧ (τ.1 1 1).toInt = d + 1 ∧ d ≤ 9998))) := by
  refine Sp.at rfl rfl ?_
  refine sg_cs0 d hB ⟨gd, trivial⟩ ⟨ed, trivial⟩ ?_ ?_
  · intro τ y hB1 F1 q _ _ c
    exact ⟨⟨_, rfl⟩, hB1, FQ.up (G := []) rfl F1, Or.inl ⟨(congrArg Int32.toInt (F1 1 0 rfl)).trans e0, c.1, by omega⟩⟩
  · intro τ y hB1 F1 q _ _ c
    refine Ok.cv rfl rfl rfl rfl rfl rfl rfl ?_
    refine (xc_goBy f n d hB1 (by rw [F1 1 0 rfl]; exact e0) (by rw [F1 2 0 rfl]; exact ef) c.1 (by omega)).use (by decide) (fun r τ2 p => ?_)
    obtain ⟨⟨w, rfl⟩, hB2, F2, c2, c3⟩ := p
    show Ok 139 72 8 [.ref 0] [.int w] τ2 _
    rw [← oI w]
    refine sg_cs8 w.toInt hB2 ⟨ai_rng w, trivial⟩ ?_
    intro τ3 y3 hB3 F3 _ _ _ _
    refine ⟨⟨_, rfl⟩, hB3, FQ.tr (FQ.up (G := []) rfl F1) (FQ.tr F2 (FQ.up (G := []) rfl F3)), Or.inr ⟨?_, ?_, by omega⟩⟩
    · rw [F3 1 0 rfl]
      exact c2
    · rw [F3 1 1 rfl]
      exact c3
set_option maxRecDepth 100000 in
theorem sg_go {σ : pm_S} {Q : Option Value → pm_S → Prop} (x0 x1 : Int) (v1 : Value) (v2 : Value) (v3 : Value) (hv1 : v1.category = 1) (hv2 : v2.category = 1) (hv3 : v3.category = 1) (hB : an_GB pm_B σ) (eF : ((-2147483648) ≤ x0 ∧ x0 ≤ 2147483647) ∧ (0 ≤ x1 ∧ x1 ≤ 100) ∧ True) (eC : (σ.1 93 1).toInt = x0 ∧ (σ.1 108 0).toInt = x1 ∧ True)
    (l0 : ∀ (τ : pm_S) (y : Nat → Int) (v2 : Value) (v3 : Value), v2.category = 1 → v3.category = 1 → an_GB pm_B τ → FQ [(93, 1), (93, 21), (93, 53)] σ τ → (((-2147483648) ≤ x0 ∧ x0 ≤ 2147483647) ∧ (0 ≤ x1 ∧ x1 ≤ 0) ∧ True) → (True) → (True) → ((τ.1 93 1).toInt = x0 ∧ True) → Ok 210 80 29 [.ref 93, .int (Int32.ofInt 0), v2, v3] [.int (Int32.ofInt 0), .ref 93] τ Q)
    (l1 : ∀ (τ : pm_S) (y : Nat → Int) (v2 : Value) (v3 : Value), v2.category = 1 → v3.category = 1 → an_GB pm_B τ → FQ [(93, 1), (93, 21), (93, 53)] σ τ → (((-2147483648) ≤ x0 ∧ x0 ≤ 2147483647) ∧ (1 ≤ x1 ∧ x1 ≤ 99) ∧ ((-2147483648) ≤ y 2 ∧ y 2 ≤ 2147483647) ∧ ((-2147483648) ≤ y 3 ∧ y 3 ≤ 2147483647) ∧ (0 ≤ y 4 ∧ y 4 ≤ 16777215) ∧ (1 ≤ y 5 ∧ y 5 ≤ 99) ∧ True) → (True) → ((an_f 2 (Int32.ofInt (1664525)) (Int32.ofInt (x0))).toInt = y 2 ∧ (an_f 0 (Int32.ofInt (y 2)) (Int32.ofInt (1013904223))).toInt = y 3 ∧ (an_f 8 (Int32.ofInt (y 3)) (Int32.ofInt (8))).toInt = y 4 ∧ (an_f 10 (Int32.ofInt (y 4)) (Int32.ofInt (100))).toInt = y 5 ∧ True) → ((τ.1 93 1).toInt = y 3 ∧ True) → Ok 210 80 29 [.ref 93, .int (Int32.ofInt 0), v2, v3] [.int (Int32.ofInt 0), .ref 93] τ Q)
    (l2 : ∀ (τ : pm_S) (y : Nat → Int) (v2 : Value) (v3 : Value), v2.category = 1 → v3.category = 1 → an_GB pm_B τ → FQ [(93, 1), (93, 21), (93, 53)] σ τ → (((-2147483648) ≤ x0 ∧ x0 ≤ 2147483647) ∧ (1 ≤ x1 ∧ x1 ≤ 100) ∧ ((-2147483648) ≤ y 2 ∧ y 2 ≤ 2147483647) ∧ ((-2147483648) ≤ y 3 ∧ y 3 ≤ 2147483647) ∧ (0 ≤ y 4 ∧ y 4 ≤ 16777215) ∧ (0 ≤ y 5 ∧ y 5 ≤ 99) ∧ True) → (True) → ((an_f 2 (Int32.ofInt (1664525)) (Int32.ofInt (x0))).toInt = y 2 ∧ (an_f 0 (Int32.ofInt (y 2)) (Int32.ofInt (1013904223))).toInt = y 3 ∧ (an_f 8 (Int32.ofInt (y 3)) (Int32.ofInt (8))).toInt = y 4 ∧ (an_f 10 (Int32.ofInt (y 4)) (Int32.ofInt (100))).toInt = y 5 ∧ True) → ((τ.1 93 1).toInt = y 3 ∧ True) → Ok 210 80 29 [.ref 93, .int (Int32.ofInt 1), v2, v3] [.int (Int32.ofInt 1), .ref 93] τ Q)
    : Ok 210 80 0 [.ref 93, v1, v2, v3] [] σ Q := by
  refine an_seg (B := pm_B) (F := [(93, 1), (93, 21), (93, 53)]) (T := [108]) (S := []) (fun _ h => absurd h List.not_mem_nil) (k := 210) (d := 79) (cs := [29]) 44 0 2 [(0, (-2147483648), 2147483647), (1, 0, 100)] [(93, (1, 0, 1), (0, 0, 0)), (108, (1, 0, 0), (0, 1, 0))] [(2, 93, 0), (5, 0, 0), (5, 0, 0), (5, 0, 0)] [] [(29, [(2, 93, 0), (1, 0, 0), (5, 0, 0), (5, 0, 0)], [(1, 0, 0), (2, 93, 0)], [(0, (-2147483648), 2147483647), (1, 0, 0)], [], [], [(93, (1, 0, 1), (0, 0, 0))]),
    (29, [(2, 93, 0), (1, 0, 0), (5, 0, 0), (5, 0, 0)], [(1, 0, 0), (2, 93, 0)], [(0, (-2147483648), 2147483647), (1, 1, 99), (2, (-2147483648), 2147483647), (3, (-2147483648), 2147483647), (4, 0, 16777215), (5, 1, 99)], [], [(2, (1, 0, 1664525), (0, 0, 0), 2), (0, (0, 2, 0), (1, 0, 1013904223), 3), (8, (0, 3, 0), (1, 0, 8), 4), (10, (0, 4, 0), (1, 0, 100), 5)], [(93, (1, 0, 1), (0, 3, 0))]),
    (29, [(2, 93, 0), (1, 0, 1), (5, 0, 0), (5, 0, 0)], [(1, 0, 1), (2, 93, 0)], [(0, (-2147483648), 2147483647), (1, 1, 100), (2, (-2147483648), 2147483647), (3, (-2147483648), 2147483647), (4, 0, 16777215), (5, 0, 99)], [], [(2, (1, 0, 1664525), (0, 0, 0), 2), (0, (0, 2, 0), (1, 0, 1013904223), 3), (8, (0, 3, 0), (1, 0, 8), 4), (10, (0, 4, 0), (1, 0, 100), 5)], [(93, (1, 0, 1), (0, 3, 0))])] (by decide +kernel) (ρ0 := (fun s => [x0, x1].getD s 0)) hB eF eC ⟨rfl, ⟨hv1, ⟨hv2, ⟨hv3, trivial⟩⟩⟩⟩ trivial ?_
  refine List.forall_mem_cons.mpr ⟨?_, List.forall_mem_cons.mpr ⟨?_, List.forall_mem_cons.mpr ⟨?_, fun _ h => absurd h List.not_mem_nil⟩⟩⟩
  · intro ρ τ Lc stc hx g1 g2 g3 g4 g5 g6 g7 g8
    have e0 : ρ 0 = x0 := hx 0 (by decide)
    have e1 : ρ 1 = x1 := hx 1 (by decide)
    subst e0
    subst e1
    have g7 := g7 (by decide)
    match Lc, stc, g7, g8 with
    | [v0, v1, v2, v3], [w0, w1], ⟨hv0, hv1, hv2, hv3, _⟩, ⟨hw0, hw1, _⟩ =>
      cases hv0
      cases hv1
      cases hw0
      cases hw1
      exact l0 τ ρ v2 v3 hv2 hv3 g1 g2 g3 g4 g5 g6
  · intro ρ τ Lc stc hx g1 g2 g3 g4 g5 g6 g7 g8
    have e0 : ρ 0 = x0 := hx 0 (by decide)
    have e1 : ρ 1 = x1 := hx 1 (by decide)
    subst e0
    subst e1
    have g7 := g7 (by decide)
    match Lc, stc, g7, g8 with
    | [v0, v1, v2, v3], [w0, w1], ⟨hv0, hv1, hv2, hv3, _⟩, ⟨hw0, hw1, _⟩ =>
      cases hv0
      cases hv1
      cases hw0
      cases hw1
      exact l1 τ ρ v2 v3 hv2 hv3 g1 g2 g3 g4 g5 g6
  · intro ρ τ Lc stc hx g1 g2 g3 g4 g5 g6 g7 g8
    have e0 : ρ 0 = x0 := hx 0 (by decide)
    have e1 : ρ 1 = x1 := hx 1 (by decide)
    subst e0
    subst e1
    have g7 := g7 (by decide)
    match Lc, stc, g7, g8 with
    | [v0, v1, v2, v3], [w0, w1], ⟨hv0, hv1, hv2, hv3, _⟩, ⟨hw0, hw1, _⟩ =>
      cases hv0
      cases hv1
      cases hw0
      cases hw1
      exact l2 τ ρ v2 v3 hv2 hv3 g1 g2 g3 g4 g5 g6
set_option maxRecDepth 100000 in
theorem sg_go30 {σ : pm_S} {Q : Option Value → pm_S → Prop} (x0 : Int) (v2 : Value) (v3 : Value) (hv2 : v2.category = 1) (hv3 : v3.category = 1) (hB : an_GB pm_B σ) (eF : (0 ≤ x0 ∧ x0 ≤ 1) ∧ True)
    (l0 : ∀ (τ : pm_S) (y : Nat → Int) (v3 : Value), v3.category = 1 → an_GB pm_B τ → FQ [] σ τ → ((0 ≤ x0 ∧ x0 ≤ 1) ∧ True) → (True) → (True) → (True) → Ok 210 80 32 [.ref 93, .int (Int32.ofInt (x0)), .int (Int32.ofInt 0), v3] [] τ Q)
    : Ok 210 80 30 [.ref 93, .int (Int32.ofInt (x0)), v2, v3] [] σ Q := by
  refine an_seg (B := pm_B) (F := []) (T := []) (S := []) (fun _ h => absurd h List.not_mem_nil) (k := 210) (d := 79) (cs := [32]) 4 30 1 [(0, 0, 1)] [] [(2, 93, 0), (0, 0, 0), (5, 0, 0), (5, 0, 0)] [] [(32, [(2, 93, 0), (0, 0, 0), (1, 0, 0), (5, 0, 0)], [], [(0, 0, 1)], [], [], [])] (by decide +kernel) (ρ0 := (fun s => [x0].getD s 0)) hB eF trivial ⟨rfl, ⟨rfl, ⟨hv2, ⟨hv3, trivial⟩⟩⟩⟩ trivial ?_
  refine List.forall_mem_cons.mpr ⟨?_, fun _ h => absurd h List.not_mem_nil⟩
  · intro ρ τ Lc stc hx g1 g2 g3 g4 g5 g6 g7 g8
    have e0 : ρ 0 = x0 := hx 0 (by decide)
    subst e0
    have g7 := g7 (by decide)
    match Lc, stc, g7, g8 with
    | [v0, v1, v2, v3], [], ⟨hv0, hv1, hv2, hv3, _⟩, _ =>
      cases hv0
      cases hv1
      cases hv2
      exact l0 τ ρ v3 hv3 g1 g2 g3 g4 g5 g6
abbrev hx_goA : an_S := (210, 80, [(2, 93, 0, 0)], [], (1, 1, 0), [(93, 53), (97, 9999), (103, 9999), (106, 9999), (107, 9999), (122, 9999), (123, 9999), (124, 9999)], [])
set_option maxRecDepth 100000 in
theorem hx_goA_ok : an_chkX pm_B [] [hn_at, sp_pays] [(32, [(2, 93, 0, 0), (1, 0, 0, 1), (1, 0, 0, 10), (5, 0, 0, 0)], [], [(2, 2, 30000000010), (0, 0, 1000000000000), (0, 0, 1000000000000), (0, 0, 1000000000000)], []), (49, [(2, 93, 0, 0), (1, 0, 0, 1), (1, 0, 0, 30), (5, 0, 0, 0)], [], [(2, 2, 20000000030), (0, 0, 1000000000000), (0, 0, 1000000000000), (0, 0, 1000000000000)], [])] [(58, [(2, 93, 0, 0), (1, 0, 0, 1), (1, 0, 0, 30), (5, 0, 0, 0)], [], [(0, 0, 0), (0, 0, 0), (0, 0, 0), (0, 0, 0)], [])] hx_goA 66 79 = true := by decide +kernel
set_option maxRecDepth 100000 in
theorem sg_go58 {σ : pm_S} {Q : Option Value → pm_S → Prop} (x0 x1 x2 : Int) (v3 : Value) (hv3 : v3.category = 1) (hB : an_GB pm_B σ) (eF : (0 ≤ x0 ∧ x0 ≤ 1) ∧ (0 ≤ x1 ∧ x1 ≤ 30) ∧ (0 ≤ x2 ∧ x2 ≤ 9999) ∧ True) (eC : (σ.1 93 19).toInt = x2 ∧ True)
    (l0 : ∀ (τ : pm_S) (y : Nat → Int) (v3 : Value), v3.category = 1 → an_GB pm_B τ → FQ [(93, 19)] σ τ → ((0 ≤ x0 ∧ x0 ≤ 1) ∧ (0 ≤ x1 ∧ x1 ≤ 30) ∧ (0 ≤ x2 ∧ x2 ≤ 9999) ∧ True) → (True) → (True) → ((τ.1 93 19).toInt = x2 + 1 ∧ True) → Ok 210 80 66 [.ref 93, .int (Int32.ofInt (x0)), .int (Int32.ofInt 0), v3] [] τ Q)
    : Ok 210 80 58 [.ref 93, .int (Int32.ofInt (x0)), .int (Int32.ofInt (x1)), v3] [] σ Q := by
  refine an_seg (B := pm_B) (F := [(93, 19)]) (T := []) (S := []) (fun _ h => absurd h List.not_mem_nil) (k := 210) (d := 79) (cs := [66]) 10 58 3 [(0, 0, 1), (1, 0, 30), (2, 0, 9999)] [(93, (1, 0, 19), (0, 2, 0))] [(2, 93, 0), (0, 0, 0), (0, 1, 0), (5, 0, 0)] [] [(66, [(2, 93, 0), (0, 0, 0), (1, 0, 0), (5, 0, 0)], [], [(0, 0, 1), (1, 0, 30), (2, 0, 9999)], [], [], [(93, (1, 0, 19), (0, 2, 1))])] (by decide +kernel) (ρ0 := (fun s => [x0, x1, x2].getD s 0)) hB eF eC ⟨rfl, ⟨rfl, ⟨rfl, ⟨hv3, trivial⟩⟩⟩⟩ trivial ?_
  refine List.forall_mem_cons.mpr ⟨?_, fun _ h => absurd h List.not_mem_nil⟩
  · intro ρ τ Lc stc hx g1 g2 g3 g4 g5 g6 g7 g8
    have e0 : ρ 0 = x0 := hx 0 (by decide)
    have e1 : ρ 1 = x1 := hx 1 (by decide)
    have e2 : ρ 2 = x2 := hx 2 (by decide)
    subst e0
    subst e1
    subst e2
    have g7 := g7 (by decide)
    match Lc, stc, g7, g8 with
    | [v0, v1, v2, v3], [], ⟨hv0, hv1, hv2, hv3, _⟩, _ =>
      cases hv0
      cases hv1
      cases hv2
      exact l0 τ ρ v3 hv3 g1 g2 g3 g4 g5 g6
abbrev hx_goB : an_S := (210, 80, [(2, 93, 0, 0)], [], (1, (-2147483648), 2147483647), [(99, 9999), (103, 9999)], [])
set_option maxRecDepth 100000 in
theorem hx_goB_ok : an_chkX pm_B [] [] [(66, [(2, 93, 0, 0), (1, 0, 0, 1), (1, 0, 0, 30), (5, 0, 0, 0)], [], [(2, 2, 10000000030), (0, 0, 1000000000000), (0, 0, 1000000000000), (0, 0, 1000000000000)], []), (119, [(2, 93, 0, 0), (1, 0, 0, 1), (1, 0, 0, 10), (5, 0, 0, 0)], [], [(2, 2, 10), (0, 0, 1000000000000), (0, 0, 1000000000000), (0, 0, 1000000000000)], [])] [] hx_goB 66 79 = true := by decide +kernel
set_option maxRecDepth 20000 in
theorem xm_goesBy {σ : pm_S} (f n d : Int) (hB : an_GB pm_B σ) (hP : pPP σ) (e0 : cI σ 1 = n) (ef : (σ.1 108 0).toInt = f) (ed : cI σ 19 = d) (gd : 0 ≤ d ∧ d ≤ 9999) : Sp 210 80 [.ref 93] σ (fun r τ => (∃ w : Int32, r = some (.int w)) ∧ an_GB pm_B τ ∧ FQ [(93, 1), (93, 19), (93, 20), (93, 21), (93, 53), (97, 9999), (99, 9999), (100, 9999), (103, 9999), (106, 9999), (107, 9999), (122, 9999), (123, 9999), (124, 9999)] σ τ ∧ cI τ 1 = nxt f n ∧ cI τ 19 = d + 1) := by
  have gf : (0 : Int) ≤ (σ.1 108 0).toInt ∧ (σ.1 108 0).toInt ≤ 100 := hB 108 0 (by decide)
  have e0' : (σ.1 93 1).toInt = n := e0
  have gn := ai_rng (σ.1 93 1)
  let Q : Option Value → pm_S → Prop := fun r τ => (∃ w : Int32, r = some (.int w)) ∧ an_GB pm_B τ ∧ FQ [(93, 1), (93, 19), (93, 20), (93, 21), (93, 53), (97, 9999), (99, 9999), (100, 9999), (103, 9999), (106, 9999), (107, 9999), (122, 9999), (123, 9999), (124, 9999)] σ τ ∧ cI τ 1 = nxt f n ∧ cI τ 19 = d + 1
  have pp : ∀ τ, FQ [(93, 1), (93, 19), (93, 20), (93, 21), (93, 53), (97, 9999), (99, 9999), (100, 9999), (103, 9999), (106, 9999), (107, 9999), (122, 9999), (123, 9999), (124, 9999)] σ τ → pPP τ := fun τ F => pPP.fr _ rfl rfl rfl rfl rfl rfl rfl rfl F hP
  have go66 : ∀ (τ : pm_S) (b : Int) (v : Value), v.category = 1 → 0 ≤ b → b ≤ 1 → an_GB pm_B τ → FQ [(93, 1), (93, 19), (93, 20), (93, 21), (93, 53), (97, 9999), (99, 9999), (100, 9999), (103, 9999), (106, 9999), (107, 9999), (122, 9999), (123, 9999), (124, 9999)] σ τ → cI τ 1 = nxt f n → cI τ 19 = d + 1 → Ok 210 80 66 [.ref 93, .int (Int32.ofInt b), .int (Int32.ofInt 0), v] [] τ Q := fun τ b v hv b0 b1 hB1 F1 c1 c2 =>
    an_hdX (P := pPP) (fun σ τ h p => pPP.fr _ rfl rfl rfl rfl rfl rfl rfl rfl h p) (fun _ h => absurd h List.not_mem_nil) hx_goB_ok hB1 (pp τ F1) (fun r τ2 k1 k2 k3 => ⟨by obtain ⟨w, e, -⟩ := k2; exact ⟨w, e⟩, k1, FQ.tr F1 (FQ.up (G := [(99, 9999), (103, 9999)]) rfl k3), (FQ.c k3 1 rfl).trans c1, (FQ.c k3 19 rfl).trans c2⟩) (fun hd h => absurd h List.not_mem_nil) _ List.mem_cons_self τ _ hB1 (fun _ _ _ => rfl) (show an_sargs [.ref 93, .int (Int32.ofInt b), .int (Int32.ofInt 0), v] _ from ⟨rfl, sgI b0 b1 (by decide) (by decide), sgI (by decide) (by decide) (by decide) (by decide), hv, trivial⟩) (fun q hq => absurd hq List.not_mem_nil) (fun r hr => absurd hr List.not_mem_nil)
  have go58 : ∀ (τ : pm_S) (Lc : List Value), an_sargs Lc [(2, 93, 0, 0), (1, 0, 0, 1), (1, 0, 0, 30), (5, 0, 0, 0)] → an_GB pm_B τ → FQ [(93, 1), (93, 19), (93, 20), (93, 21), (93, 53), (97, 9999), (99, 9999), (100, 9999), (103, 9999), (106, 9999), (107, 9999), (122, 9999), (123, 9999), (124, 9999)] σ τ → cI τ 1 = nxt f n → cI τ 19 = d → Ok 210 80 58 Lc [] τ Q := by
    intro τ Lc hL hB1 F1 c1 c2
    match Lc, hL with
    | [a, b, c, v], hL =>
      obtain ⟨h1, ⟨w1, h2, w2, w3⟩, ⟨u1, h3, u2, u3⟩, hv, -⟩ := hL
      have h1 : a = .ref 93 := h1
      have w2 : (0 : Int) ≤ w1.toInt := w2
      have w3 : w1.toInt ≤ 1 := w3
      have u2 : (0 : Int) ≤ u1.toInt := u2
      have u3 : u1.toInt ≤ 30 := u3
      rw [h1, h2, h3, ← oI w1, ← oI u1]
      refine sg_go58 w1.toInt u1.toInt d v hv hB1 ⟨⟨w2, w3⟩, ⟨u2, u3⟩, gd, trivial⟩ ⟨c2, trivial⟩ ?_
      intro τ2 y v2 hv2 hB2 F2 _ _ _ c
      exact go66 τ2 _ v2 hv2 w2 w3 hB2 (FQ.tr F1 (FQ.up (G := [(93, 19)]) rfl F2)) ((F2.c 1 rfl).trans c1) c.1
    | [], hL => exact hL.elim
    | [_], hL => exact hL.2.elim
    | [_, _], hL => exact hL.2.2.elim
    | [_, _, _], hL => exact hL.2.2.2.elim
    | _ :: _ :: _ :: _ :: _ :: _, hL => exact hL.2.2.2.2.elim
  have go32 : ∀ (τ : pm_S) (b : Int) (v : Value), v.category = 1 → 0 ≤ b → b ≤ 1 → an_GB pm_B τ → FQ [(93, 1), (93, 19), (93, 20), (93, 21), (93, 53), (97, 9999), (99, 9999), (100, 9999), (103, 9999), (106, 9999), (107, 9999), (122, 9999), (123, 9999), (124, 9999)] σ τ → cI τ 1 = nxt f n → cI τ 19 = d → Ok 210 80 32 [.ref 93, .int (Int32.ofInt b), .int (Int32.ofInt 0), v] [] τ Q := fun τ b v hv b0 b1 hB1 F1 c1 c2 =>
    an_hdX (P := pPP) (fun σ τ h p => pPP.fr _ rfl rfl rfl rfl rfl rfl rfl rfl h p) (List.forall_mem_cons.mpr ⟨hn_at_ok, List.forall_mem_cons.mpr ⟨sp_pays_ok, fun _ h => absurd h List.not_mem_nil⟩⟩) hx_goA_ok hB1 (pp τ F1) (fun r τ2 k1 k2 k3 => by
      obtain ⟨w, -, l1, l2⟩ := k2
      have l1 : (1 : Int) ≤ w.toInt := l1
      have l2 : w.toInt ≤ 0 := l2
      omega) (fun hd h τ2 Lc k1 k2 k3 _ _ => by
      rw [List.mem_singleton.mp h] at k3 ⊢
      exact go58 τ2 Lc k3 k1 (FQ.tr F1 (FQ.up (G := [(93, 53), (97, 9999), (103, 9999), (106, 9999), (107, 9999), (122, 9999), (123, 9999), (124, 9999)]) rfl k2)) ((FQ.c k2 1 rfl).trans c1) ((FQ.c k2 19 rfl).trans c2)) _ List.mem_cons_self τ _ hB1 (fun _ _ _ => rfl) (show an_sargs [.ref 93, .int (Int32.ofInt b), .int (Int32.ofInt 0), v] _ from ⟨rfl, sgI b0 b1 (by decide) (by decide), sgI (by decide) (by decide) (by decide) (by decide), hv, trivial⟩) (fun q hq => absurd hq List.not_mem_nil) (fun r hr => absurd hr List.not_mem_nil)
  have go29 : ∀ (τ : pm_S) (b : Int) (v2 v3 : Value), v2.category = 1 → v3.category = 1 → 0 ≤ b → b ≤ 1 → an_GB pm_B τ → FQ [(93, 1), (93, 21), (93, 53)] σ τ → cI τ 1 = nxt f n → Ok 210 80 29 [.ref 93, .int (Int32.ofInt b), v2, v3] [.int (Int32.ofInt b), .ref 93] τ Q := by
    intro τ b v2 v3 h2 h3 b0 b1 hB1 F1 c1
    refine Ok.cv rfl rfl rfl rfl rfl rfl rfl ?_
    refine (se_83_ok τ [.ref 93, .int (Int32.ofInt b)] hB1 (show an_sargs [.ref 93, .int (Int32.ofInt b)] _ from ⟨rfl, sgI b0 b1 (by decide) (by decide), trivial⟩) (fun q hq => absurd hq List.not_mem_nil)).use (by decide) (fun r τ2 q => ?_)
    obtain ⟨hB2, hr, F2, -⟩ := q
    have hr : r = none := hr
    subst hr
    have F2 : FQ [(93, 20), (97, 9999), (100, 9999)] τ τ2 := F2
    refine sg_go30 b v2 v3 h2 h3 hB2 ⟨⟨b0, b1⟩, trivial⟩ ?_
    intro τ3 y w3 hw3 hB3 F3 _ _ _ _
    exact go32 τ3 b w3 hw3 b0 b1 hB3 (FQ.tr (FQ.tr (FQ.up (G := [(93, 1), (93, 21), (93, 53)]) rfl F1) (FQ.up (G := [(93, 20), (97, 9999), (100, 9999)]) rfl F2)) (FQ.up (G := []) rfl F3)) ((F3.c 1 rfl).trans ((F2.c 1 rfl).trans c1)) ((F3.c 19 rfl).trans ((F2.c 19 rfl).trans ((F1.c 19 rfl).trans ed)))
  refine Sp.at rfl rfl ?_
  refine sg_go n f _ _ _ rfl rfl rfl hB ⟨by omega, by omega, trivial⟩ ⟨e0, ef, trivial⟩ ?_ ?_ ?_
  · intro τ y v2 v3 h2 h3 hB1 F1 q _ _ c
    exact go29 τ 0 v2 v3 h2 h3 (by decide) (by decide) hB1 F1 (c.1.trans (nxt_0 (by omega)).symm)
  · intro τ y v2 v3 h2 h3 hB1 F1 q _ d c
    exact go29 τ 0 v2 v3 h2 h3 (by decide) (by decide) hB1 F1 (c.1.trans (nxt_1 (by omega) d.1 d.2.1).symm)
  · intro τ y v2 v3 h2 h3 hB1 F1 q _ d c
    exact go29 τ 1 v2 v3 h2 h3 (by decide) (by decide) hB1 F1 (c.1.trans (nxt_1 (by omega) d.1 d.2.1).symm)
set_option maxRecDepth 100000 in
theorem sg_ms0 {σ : pm_S} {Q : Option Value → pm_S → Prop} (x0 x1 : Int)  (hB : an_GB pm_B σ) (eF : ((-2147483648) ≤ x0 ∧ x0 ≤ 2147483647) ∧ (0 ≤ x1 ∧ x1 ≤ 9999) ∧ True) (eC : (σ.1 93 1).toInt = x0 ∧ (σ.1 93 19).toInt = x1 ∧ True)
    (l0 : ∀ (τ : pm_S) (y : Nat → Int), an_GB pm_B τ → FQ [(93, 0)] σ τ → (((-2147483648) ≤ x0 ∧ x0 ≤ 2147483647) ∧ (0 ≤ x1 ∧ x1 ≤ 9998) ∧ True) → (True) → (True) → ((τ.1 93 1).toInt = x0 ∧ (τ.1 93 19).toInt = x1 ∧ True) → Ok 211 82 10 [.ref 93] [.ref 93] τ Q)
    (l1 : ∀ (τ : pm_S) (y : Nat → Int), an_GB pm_B τ → FQ [(93, 0)] σ τ → (((-2147483648) ≤ x0 ∧ x0 ≤ 2147483647) ∧ (9999 ≤ x1 ∧ x1 ≤ 9999) ∧ True) → (True) → (True) → ((τ.1 93 1).toInt = x0 ∧ (τ.1 93 19).toInt = x1 ∧ True) → Q (some (.int (Int32.ofInt (-1)))) τ)
    : Ok 211 82 0 [.ref 93] [] σ Q := by
  refine an_seg (B := pm_B) (F := [(93, 0)]) (T := []) (S := []) (fun _ h => absurd h List.not_mem_nil) (k := 211) (d := 81) (cs := [10]) 12 0 2 [(0, (-2147483648), 2147483647), (1, 0, 9999)] [(93, (1, 0, 1), (0, 0, 0)), (93, (1, 0, 19), (0, 1, 0))] [(2, 93, 0)] [] [(10, [(2, 93, 0)], [(2, 93, 0)], [(0, (-2147483648), 2147483647), (1, 0, 9998)], [], [], [(93, (1, 0, 1), (0, 0, 0)), (93, (1, 0, 19), (0, 1, 0))]),
    (9999, [], [(1, 0, (-1))], [(0, (-2147483648), 2147483647), (1, 9999, 9999)], [], [], [(93, (1, 0, 1), (0, 0, 0)), (93, (1, 0, 19), (0, 1, 0))])] (by decide +kernel) (ρ0 := (fun s => [x0, x1].getD s 0)) hB eF eC ⟨rfl, trivial⟩ trivial ?_
  refine List.forall_mem_cons.mpr ⟨?_, List.forall_mem_cons.mpr ⟨?_, fun _ h => absurd h List.not_mem_nil⟩⟩
  · intro ρ τ Lc stc hx g1 g2 g3 g4 g5 g6 g7 g8
    have e0 : ρ 0 = x0 := hx 0 (by decide)
    have e1 : ρ 1 = x1 := hx 1 (by decide)
    subst e0
    subst e1
    have g7 := g7 (by decide)
    match Lc, stc, g7, g8 with
    | [v0], [w0], ⟨hv0, _⟩, ⟨hw0, _⟩ =>
      cases hv0
      cases hw0
      exact l0 τ ρ  g1 g2 g3 g4 g5 g6
  · intro ρ τ Lc stc hx g1 g2 g3 g4 g5 g6 g7 g8
    have e0 : ρ 0 = x0 := hx 0 (by decide)
    have e1 : ρ 1 = x1 := hx 1 (by decide)
    subst e0
    subst e1
    match stc, g8 with
    | [_], ⟨h, _⟩ => cases h; exact l1 τ ρ g1 g2 g3 g4 g5 g6
set_option maxRecDepth 100000 in
theorem sg_ms11 {σ : pm_S} {Q : Option Value → pm_S → Prop} (x0 : Int)  (hB : an_GB pm_B σ) (eF : ((-2147483648) ≤ x0 ∧ x0 ≤ 2147483647) ∧ True)
    (l0 : ∀ (τ : pm_S) (y : Nat → Int), an_GB pm_B τ → FQ [] σ τ → (((-2147483648) ≤ x0 ∧ x0 ≤ 2147483647) ∧ True) → (True) → (True) → (True) → Q (some (.int (Int32.ofInt (x0)))) τ)
    : Ok 211 82 11 [.ref 93] [.int (Int32.ofInt (x0))] σ Q := by
  refine an_seg (B := pm_B) (F := []) (T := []) (S := []) (fun _ h => absurd h List.not_mem_nil) (k := 211) (d := 81) (cs := []) 3 11 1 [(0, (-2147483648), 2147483647)] [] [(2, 93, 0)] [(0, 0, 0)] [(9999, [], [(0, 0, 0)], [(0, (-2147483648), 2147483647)], [], [], [])] (by decide +kernel) (ρ0 := (fun s => [x0].getD s 0)) hB eF trivial ⟨rfl, trivial⟩ ⟨rfl, trivial⟩ ?_
  refine List.forall_mem_cons.mpr ⟨?_, fun _ h => absurd h List.not_mem_nil⟩
  · intro ρ τ Lc stc hx g1 g2 g3 g4 g5 g6 g7 g8
    have e0 : ρ 0 = x0 := hx 0 (by decide)
    subst e0
    match stc, g8 with
    | [_], ⟨h, _⟩ => cases h; exact l0 τ ρ g1 g2 g3 g4 g5 g6
abbrev FMs : List (Nat × Nat) := (93, 0) :: [(93, 1), (93, 19), (93, 20), (93, 21), (93, 53), (97, 9999), (99, 9999), (100, 9999), (103, 9999), (106, 9999), (107, 9999), (122, 9999), (123, 9999), (124, 9999)]
abbrev FCs : List (Nat × Nat) := [(1, 0), (1, 1), (1, 2), (1, 3), (9, 9999), (11, 9999), (12, 9999), (16, 9999), (19, 9999), (20, 9999), (31, 2), (33, 9999), (74, 5), (75, 9999), (76, 9999), (77, 9999), (78, 9999)]
set_option maxRecDepth 20000 in
theorem xm_sunday {σ : pm_S} (f n d : Int) (hB : an_GB pm_B σ) (hP : pPP σ) (e0 : cI σ 1 = n) (ef : (σ.1 108 0).toInt = f) (ed : cI σ 19 = d) (gd : 0 ≤ d ∧ d ≤ 9999) : Sp 211 82 [.ref 93] σ (fun r τ => (∃ w : Int32, r = some (.int w)) ∧ an_GB pm_B τ ∧ FQ FMs σ τ ∧ (((τ.1 93 1).toInt = n ∧ (τ.1 93 19).toInt = d ∧ d = 9999) ∨ ((τ.1 93 1).toInt = nxt f n ∧ (τ.1 93 19).toInt = d + 1 ∧ d ≤ 9998))) := by
  have e0' : (σ.1 93 1).toInt = n := e0
  have gn := ai_rng (σ.1 93 1)
  refine Sp.at rfl rfl ?_
  refine sg_ms0 n d hB ⟨by omega, gd, trivial⟩ ⟨e0, ed, trivial⟩ ?_ ?_
  · intro τ y hB1 F1 q _ _ c
    have q2 := q.2.1
    refine Ok.cv rfl rfl rfl rfl rfl rfl rfl ?_
    refine (xm_goesBy f n d hB1 (pPP.fr _ rfl rfl rfl rfl rfl rfl rfl rfl F1 hP) c.1 (by rw [F1 108 0 rfl]; exact ef) c.2.1 (by omega)).use (by decide) (fun r τ2 p => ?_)
    obtain ⟨⟨w, rfl⟩, hB2, F2, c2, c3⟩ := p
    show Ok 211 82 11 [.ref 93] [.int w] τ2 _
    rw [← oI w]
    refine sg_ms11 w.toInt hB2 ⟨ai_rng w, trivial⟩ ?_
    intro τ3 y3 hB3 F3 _ _ _ _
    refine ⟨⟨_, rfl⟩, hB3, FQ.tr (FQ.up (G := [(93, 0)]) rfl F1) (FQ.tr (FQ.up (G := [(93, 1), (93, 19), (93, 20), (93, 21), (93, 53), (97, 9999), (99, 9999), (100, 9999), (103, 9999), (106, 9999), (107, 9999), (122, 9999), (123, 9999), (124, 9999)]) rfl F2) (FQ.up (G := []) rfl F3)), Or.inr ⟨(F3.c 1 rfl).trans c2, (F3.c 19 rfl).trans c3, by omega⟩⟩
  · intro τ y hB1 F1 q _ _ c
    have q2 := q.2.1
    exact ⟨⟨_, rfl⟩, hB1, FQ.up (G := [(93, 0)]) rfl F1, Or.inl ⟨c.1, c.2.1, by omega⟩⟩
set_option maxRecDepth 100000 in
theorem sg_cp0 {σ : pm_S} {Q : Option Value → pm_S → Prop} (x0 x1 x2 : Int) (v2 : Value) (v3 : Value) (hv2 : v2.category = 1) (hv3 : v3.category = 1) (hB : an_GB pm_B σ) (eF : ((-2147483648) ≤ x0 ∧ x0 ≤ 2147483647) ∧ ((-2147483648) ≤ x1 ∧ x1 ≤ 2147483647) ∧ (0 ≤ x2 ∧ x2 ≤ 9999) ∧ True) (eC : (σ.1 1 0).toInt = x1 ∧ (σ.1 1 1).toInt = x2 ∧ True)
    (l0 : ∀ (τ : pm_S) (y : Nat → Int), an_GB pm_B τ → FQ [(11, 9999)] σ τ → (((-2147483648) ≤ x0 ∧ x0 ≤ 0) ∧ ((-2147483648) ≤ x1 ∧ x1 ≤ 2147483647) ∧ (0 ≤ x2 ∧ x2 ≤ 9999) ∧ True) → (True) → (True) → ((τ.1 1 0).toInt = x1 ∧ (τ.1 1 1).toInt = x2 ∧ True) → Q (some (.int (Int32.ofInt (-1)))) τ)
    (l1 : ∀ (τ : pm_S) (y : Nat → Int), an_GB pm_B τ → FQ [(11, 9999)] σ τ → ((401 ≤ x0 ∧ x0 ≤ 2147483647) ∧ ((-2147483648) ≤ x1 ∧ x1 ≤ 2147483647) ∧ (0 ≤ x2 ∧ x2 ≤ 9999) ∧ True) → (True) → (True) → ((τ.1 1 0).toInt = x1 ∧ (τ.1 1 1).toInt = x2 ∧ True) → Q (some (.int (Int32.ofInt (-1)))) τ)
    (l2 : ∀ (τ : pm_S) (y : Nat → Int), an_GB pm_B τ → FQ [(11, 9999)] σ τ → ((1 ≤ x0 ∧ x0 ≤ 400) ∧ ((-2147483648) ≤ x1 ∧ x1 ≤ 2147483647) ∧ (0 ≤ x2 ∧ x2 ≤ 9999) ∧ (1 ≤ y 3 ∧ y 3 ≤ 9999) ∧ True) → (True) → ((an_f 0 (Int32.ofInt (x2)) (Int32.ofInt (x0))).toInt = y 3 ∧ True) → ((τ.1 1 0).toInt = x1 ∧ (τ.1 1 1).toInt = x2 ∧ True) → Ok 140 80 23 [.ref 0, .int (Int32.ofInt (x0)), .int (Int32.ofInt 0), .int (Int32.ofInt 0)] [] τ Q)
    (l3 : ∀ (τ : pm_S) (y : Nat → Int), an_GB pm_B τ → FQ [(11, 9999)] σ τ → ((1 ≤ x0 ∧ x0 ≤ 400) ∧ ((-2147483648) ≤ x1 ∧ x1 ≤ 2147483647) ∧ (0 ≤ x2 ∧ x2 ≤ 9999) ∧ (10000 ≤ y 3 ∧ y 3 ≤ 10399) ∧ True) → (True) → ((an_f 0 (Int32.ofInt (x2)) (Int32.ofInt (x0))).toInt = y 3 ∧ True) → ((τ.1 1 0).toInt = x1 ∧ (τ.1 1 1).toInt = x2 ∧ True) → Q (some (.int (Int32.ofInt (-1)))) τ)
    : Ok 140 80 0 [.ref 0, .int (Int32.ofInt (x0)), v2, v3] [] σ Q := by
  refine an_seg (B := pm_B) (F := [(11, 9999)]) (T := []) (S := []) (fun _ h => absurd h List.not_mem_nil) (k := 140) (d := 79) (cs := [23]) 40 0 3 [(0, (-2147483648), 2147483647), (1, (-2147483648), 2147483647), (2, 0, 9999)] [(1, (1, 0, 0), (0, 1, 0)), (1, (1, 0, 1), (0, 2, 0))] [(2, 0, 0), (0, 0, 0), (5, 0, 0), (5, 0, 0)] [] [(9999, [], [(1, 0, (-1))], [(0, (-2147483648), 0), (1, (-2147483648), 2147483647), (2, 0, 9999)], [], [], [(1, (1, 0, 0), (0, 1, 0)), (1, (1, 0, 1), (0, 2, 0))]),
    (9999, [], [(1, 0, (-1))], [(0, 401, 2147483647), (1, (-2147483648), 2147483647), (2, 0, 9999)], [], [], [(1, (1, 0, 0), (0, 1, 0)), (1, (1, 0, 1), (0, 2, 0))]),
    (23, [(2, 0, 0), (0, 0, 0), (1, 0, 0), (1, 0, 0)], [], [(0, 1, 400), (1, (-2147483648), 2147483647), (2, 0, 9999), (3, 1, 9999)], [], [(0, (0, 2, 0), (0, 0, 0), 3)], [(1, (1, 0, 0), (0, 1, 0)), (1, (1, 0, 1), (0, 2, 0))]),
    (9999, [], [(1, 0, (-1))], [(0, 1, 400), (1, (-2147483648), 2147483647), (2, 0, 9999), (3, 10000, 10399)], [], [(0, (0, 2, 0), (0, 0, 0), 3)], [(1, (1, 0, 0), (0, 1, 0)), (1, (1, 0, 1), (0, 2, 0))])] (by decide +kernel) (ρ0 := (fun s => [x0, x1, x2].getD s 0)) hB eF eC ⟨rfl, ⟨rfl, ⟨hv2, ⟨hv3, trivial⟩⟩⟩⟩ trivial ?_
  refine List.forall_mem_cons.mpr ⟨?_, List.forall_mem_cons.mpr ⟨?_, List.forall_mem_cons.mpr ⟨?_, List.forall_mem_cons.mpr ⟨?_, fun _ h => absurd h List.not_mem_nil⟩⟩⟩⟩
  · intro ρ τ Lc stc hx g1 g2 g3 g4 g5 g6 g7 g8
    have e0 : ρ 0 = x0 := hx 0 (by decide)
    have e1 : ρ 1 = x1 := hx 1 (by decide)
    have e2 : ρ 2 = x2 := hx 2 (by decide)
    subst e0
    subst e1
    subst e2
    match stc, g8 with
    | [_], ⟨h, _⟩ => cases h; exact l0 τ ρ g1 g2 g3 g4 g5 g6
  · intro ρ τ Lc stc hx g1 g2 g3 g4 g5 g6 g7 g8
    have e0 : ρ 0 = x0 := hx 0 (by decide)
    have e1 : ρ 1 = x1 := hx 1 (by decide)
    have e2 : ρ 2 = x2 := hx 2 (by decide)
    subst e0
    subst e1
    subst e2
    match stc, g8 with
    | [_], ⟨h, _⟩ => cases h; exact l1 τ ρ g1 g2 g3 g4 g5 g6
  · intro ρ τ Lc stc hx g1 g2 g3 g4 g5 g6 g7 g8
    have e0 : ρ 0 = x0 := hx 0 (by decide)
    have e1 : ρ 1 = x1 := hx 1 (by decide)
    have e2 : ρ 2 = x2 := hx 2 (by decide)
    subst e0
    subst e1
    subst e2
    have g7 := g7 (by decide)
    match Lc, stc, g7, g8 with
    | [v0, v1, v2, v3], [], ⟨hv0, hv1, hv2, hv3, _⟩, _ =>
      cases hv0
      cases hv1
      cases hv2
      cases hv3
      exact l2 τ ρ  g1 g2 g3 g4 g5 g6
  · intro ρ τ Lc stc hx g1 g2 g3 g4 g5 g6 g7 g8
    have e0 : ρ 0 = x0 := hx 0 (by decide)
    have e1 : ρ 1 = x1 := hx 1 (by decide)
    have e2 : ρ 2 = x2 := hx 2 (by decide)
    subst e0
    subst e1
    subst e2
    match stc, g8 with
    | [_], ⟨h, _⟩ => cases h; exact l3 τ ρ g1 g2 g3 g4 g5 g6
set_option maxRecDepth 100000 in
theorem sg_cp23 {σ : pm_S} {Q : Option Value → pm_S → Prop} (x0 x1 x2 : Int)  (hB : an_GB pm_B σ) (eF : (1 ≤ x0 ∧ x0 ≤ 400) ∧ ((-2147483648) ≤ x1 ∧ x1 ≤ 2147483647) ∧ (0 ≤ x2 ∧ x2 ≤ 400) ∧ True)
    (l0 : ∀ (τ : pm_S) (y : Nat → Int), an_GB pm_B τ → FQ [] σ τ → ((1 ≤ x0 ∧ x0 ≤ 400) ∧ ((-2147483648) ≤ x1 ∧ x1 ≤ 2147483647) ∧ (0 ≤ x2 ∧ x2 ≤ 400) ∧ True) → (True) → (True) → (True) → Ok 140 80 25 [.ref 0, .int (Int32.ofInt (x0)), .int (Int32.ofInt (x1)), .int (Int32.ofInt (x2))] [.int (Int32.ofInt (x0)), .int (Int32.ofInt (x2))] τ Q)
    : Ok 140 80 23 [.ref 0, .int (Int32.ofInt (x0)), .int (Int32.ofInt (x1)), .int (Int32.ofInt (x2))] [] σ Q := by
  refine an_seg (B := pm_B) (F := []) (T := []) (S := []) (fun _ h => absurd h List.not_mem_nil) (k := 140) (d := 79) (cs := [25]) 4 23 3 [(0, 1, 400), (1, (-2147483648), 2147483647), (2, 0, 400)] [] [(2, 0, 0), (0, 0, 0), (0, 1, 0), (0, 2, 0)] [] [(25, [(2, 0, 0), (0, 0, 0), (0, 1, 0), (0, 2, 0)], [(0, 0, 0), (0, 2, 0)], [(0, 1, 400), (1, (-2147483648), 2147483647), (2, 0, 400)], [], [], [])] (by decide +kernel) (ρ0 := (fun s => [x0, x1, x2].getD s 0)) hB eF trivial ⟨rfl, ⟨rfl, ⟨rfl, ⟨rfl, trivial⟩⟩⟩⟩ trivial ?_
  refine List.forall_mem_cons.mpr ⟨?_, fun _ h => absurd h List.not_mem_nil⟩
  · intro ρ τ Lc stc hx g1 g2 g3 g4 g5 g6 g7 g8
    have e0 : ρ 0 = x0 := hx 0 (by decide)
    have e1 : ρ 1 = x1 := hx 1 (by decide)
    have e2 : ρ 2 = x2 := hx 2 (by decide)
    subst e0
    subst e1
    subst e2
    have g7 := g7 (by decide)
    match Lc, stc, g7, g8 with
    | [v0, v1, v2, v3], [w0, w1], ⟨hv0, hv1, hv2, hv3, _⟩, ⟨hw0, hw1, _⟩ =>
      cases hv0
      cases hv1
      cases hv2
      cases hv3
      cases hw0
      cases hw1
      exact l0 τ ρ  g1 g2 g3 g4 g5 g6
set_option maxRecDepth 100000 in
theorem sg_cp34 {σ : pm_S} {Q : Option Value → pm_S → Prop} (x0 x1 x2 : Int)  (hB : an_GB pm_B σ) (eF : (1 ≤ x0 ∧ x0 ≤ 400) ∧ ((-2147483648) ≤ x1 ∧ x1 ≤ 2147483647) ∧ (0 ≤ x2 ∧ x2 ≤ 400) ∧ True)
    (l0 : ∀ (τ : pm_S) (y : Nat → Int), an_GB pm_B τ → FQ [] σ τ → ((1 ≤ x0 ∧ x0 ≤ 400) ∧ ((-2147483648) ≤ x1 ∧ x1 ≤ 2147483647) ∧ (0 ≤ x2 ∧ x2 ≤ 400) ∧ True) → (True) → (True) → (True) → Q (some (.int (Int32.ofInt (x1)))) τ)
    : Ok 140 80 34 [.ref 0, .int (Int32.ofInt (x0)), .int (Int32.ofInt (x1)), .int (Int32.ofInt (x2))] [] σ Q := by
  refine an_seg (B := pm_B) (F := []) (T := []) (S := []) (fun _ h => absurd h List.not_mem_nil) (k := 140) (d := 79) (cs := []) 4 34 3 [(0, 1, 400), (1, (-2147483648), 2147483647), (2, 0, 400)] [] [(2, 0, 0), (0, 0, 0), (0, 1, 0), (0, 2, 0)] [] [(9999, [], [(0, 1, 0)], [(0, 1, 400), (1, (-2147483648), 2147483647), (2, 0, 400)], [], [], [])] (by decide +kernel) (ρ0 := (fun s => [x0, x1, x2].getD s 0)) hB eF trivial ⟨rfl, ⟨rfl, ⟨rfl, ⟨rfl, trivial⟩⟩⟩⟩ trivial ?_
  refine List.forall_mem_cons.mpr ⟨?_, fun _ h => absurd h List.not_mem_nil⟩
  · intro ρ τ Lc stc hx g1 g2 g3 g4 g5 g6 g7 g8
    have e0 : ρ 0 = x0 := hx 0 (by decide)
    have e1 : ρ 1 = x1 := hx 1 (by decide)
    have e2 : ρ 2 = x2 := hx 2 (by decide)
    subst e0
    subst e1
    subst e2
    match stc, g8 with
    | [_], ⟨h, _⟩ => cases h; exact l0 τ ρ g1 g2 g3 g4 g5 g6
set_option maxRecDepth 100000 in
theorem sg_cp26 {σ : pm_S} {Q : Option Value → pm_S → Prop} (x0 x1 x2 : Int)  (hB : an_GB pm_B σ) (eF : (1 ≤ x0 ∧ x0 ≤ 400) ∧ ((-2147483648) ≤ x1 ∧ x1 ≤ 2147483647) ∧ (0 ≤ x2 ∧ x2 ≤ 399) ∧ True)
    (l0 : ∀ (τ : pm_S) (y : Nat → Int), an_GB pm_B τ → FQ [] σ τ → ((1 ≤ x0 ∧ x0 ≤ 400) ∧ ((-2147483648) ≤ x1 ∧ x1 ≤ 2147483647) ∧ (0 ≤ x2 ∧ x2 ≤ 399) ∧ True) → (True) → (True) → (True) → Ok 140 80 29 [.ref 0, .int (Int32.ofInt (x0)), .int (Int32.ofInt (x1)), .int (Int32.ofInt (x2))] [.ref 74, .int (Int32.ofInt (x1))] τ Q)
    : Ok 140 80 26 [.ref 0, .int (Int32.ofInt (x0)), .int (Int32.ofInt (x1)), .int (Int32.ofInt (x2))] [] σ Q := by
  refine an_seg (B := pm_B) (F := []) (T := []) (S := []) (fun _ h => absurd h List.not_mem_nil) (k := 140) (d := 79) (cs := [29]) 5 26 3 [(0, 1, 400), (1, (-2147483648), 2147483647), (2, 0, 399)] [] [(2, 0, 0), (0, 0, 0), (0, 1, 0), (0, 2, 0)] [] [(29, [(2, 0, 0), (0, 0, 0), (0, 1, 0), (0, 2, 0)], [(2, 74, 0), (0, 1, 0)], [(0, 1, 400), (1, (-2147483648), 2147483647), (2, 0, 399)], [], [], [])] (by decide +kernel) (ρ0 := (fun s => [x0, x1, x2].getD s 0)) hB eF trivial ⟨rfl, ⟨rfl, ⟨rfl, ⟨rfl, trivial⟩⟩⟩⟩ trivial ?_
  refine List.forall_mem_cons.mpr ⟨?_, fun _ h => absurd h List.not_mem_nil⟩
  · intro ρ τ Lc stc hx g1 g2 g3 g4 g5 g6 g7 g8
    have e0 : ρ 0 = x0 := hx 0 (by decide)
    have e1 : ρ 1 = x1 := hx 1 (by decide)
    have e2 : ρ 2 = x2 := hx 2 (by decide)
    subst e0
    subst e1
    subst e2
    have g7 := g7 (by decide)
    match Lc, stc, g7, g8 with
    | [v0, v1, v2, v3], [w0, w1], ⟨hv0, hv1, hv2, hv3, _⟩, ⟨hw0, hw1, _⟩ =>
      cases hv0
      cases hv1
      cases hv2
      cases hv3
      cases hw0
      cases hw1
      exact l0 τ ρ  g1 g2 g3 g4 g5 g6
set_option maxRecDepth 100000 in
theorem sg_cp30 {σ : pm_S} {Q : Option Value → pm_S → Prop} (x0 x1 x2 x3 : Int)  (hB : an_GB pm_B σ) (eF : (1 ≤ x0 ∧ x0 ≤ 400) ∧ ((-2147483648) ≤ x1 ∧ x1 ≤ 2147483647) ∧ (0 ≤ x2 ∧ x2 ≤ 399) ∧ ((-2147483648) ≤ x3 ∧ x3 ≤ 2147483647) ∧ True)
    (l0 : ∀ (τ : pm_S) (y : Nat → Int), an_GB pm_B τ → FQ [] σ τ → ((1 ≤ x0 ∧ x0 ≤ 400) ∧ ((-2147483648) ≤ x1 ∧ x1 ≤ 2147483647) ∧ (0 ≤ x2 ∧ x2 ≤ 399) ∧ ((-2147483648) ≤ x3 ∧ x3 ≤ 2147483647) ∧ ((-2147483648) ≤ y 4 ∧ y 4 ≤ 2147483647) ∧ True) → (True) → (True) → (True) → Ok 140 80 23 [.ref 0, .int (Int32.ofInt (x0)), .int (Int32.ofInt (y 4)), .int (Int32.ofInt (x2 + 1))] [] τ Q)
    : Ok 140 80 30 [.ref 0, .int (Int32.ofInt (x0)), .int (Int32.ofInt (x1)), .int (Int32.ofInt (x2))] [.int (Int32.ofInt (x3)), .int (Int32.ofInt (x1))] σ Q := by
  refine an_seg (B := pm_B) (F := []) (T := []) (S := []) (fun _ h => absurd h List.not_mem_nil) (k := 140) (d := 79) (cs := [23]) 6 30 4 [(0, 1, 400), (1, (-2147483648), 2147483647), (2, 0, 399), (3, (-2147483648), 2147483647)] [] [(2, 0, 0), (0, 0, 0), (0, 1, 0), (0, 2, 0)] [(0, 3, 0), (0, 1, 0)] [(23, [(2, 0, 0), (0, 0, 0), (0, 4, 0), (0, 2, 1)], [], [(0, 1, 400), (1, (-2147483648), 2147483647), (2, 0, 399), (3, (-2147483648), 2147483647), (4, (-2147483648), 2147483647)], [], [], [])] (by decide +kernel) (ρ0 := (fun s => [x0, x1, x2, x3].getD s 0)) hB eF trivial ⟨rfl, ⟨rfl, ⟨rfl, ⟨rfl, trivial⟩⟩⟩⟩ ⟨rfl, ⟨rfl, trivial⟩⟩ ?_
  refine List.forall_mem_cons.mpr ⟨?_, fun _ h => absurd h List.not_mem_nil⟩
  · intro ρ τ Lc stc hx g1 g2 g3 g4 g5 g6 g7 g8
    have e0 : ρ 0 = x0 := hx 0 (by decide)
    have e1 : ρ 1 = x1 := hx 1 (by decide)
    have e2 : ρ 2 = x2 := hx 2 (by decide)
    have e3 : ρ 3 = x3 := hx 3 (by decide)
    subst e0
    subst e1
    subst e2
    subst e3
    have g7 := g7 (by decide)
    match Lc, stc, g7, g8 with
    | [v0, v1, v2, v3], [], ⟨hv0, hv1, hv2, hv3, _⟩, _ =>
      cases hv0
      cases hv1
      cases hv2
      cases hv3
      exact l0 τ ρ  g1 g2 g3 g4 g5 g6
theorem sumI {a b y : Int} (ha : 0 ≤ a ∧ a ≤ 9999) (hb : 1 ≤ b ∧ b ≤ 400) (h : (an_f 0 (Int32.ofInt a) (Int32.ofInt b)).toInt = y) : y = a + b := by
  rw [← h, sum0 (by omega) (by omega) (by omega) (by omega) (by omega) (by omega)]
theorem itn_s {f : Int} {i : Int} {m : Int} (h : 0 ≤ i) : nxt f (itn f i.toNat m) = itn f (i + 1).toNat m := by
  have e : (i + 1).toNat = i.toNat + 1 := by omega
  rw [e]
  rfl
set_option maxRecDepth 20000 in
theorem xc_pass {σ : pm_S} (f m d n : Int) (hB : an_GB pm_B σ) (hn : (-2147483648) ≤ n ∧ n ≤ 2147483647) (e0 : (σ.1 1 0).toInt = m) (ef : (σ.1 2 0).toInt = f) (ed : (σ.1 1 1).toInt = d) (gd : 0 ≤ d ∧ d ≤ 9999) : Sp 140 80 [.ref 0, .int (Int32.ofInt n)] σ (fun r τ => (∃ w : Int32, r = some (.int w)) ∧ an_GB pm_B τ ∧ FQ FCs σ τ ∧ ((¬ (1 ≤ n ∧ n ≤ 400 ∧ d + n ≤ 9999) ∧ (τ.1 1 0).toInt = m ∧ (τ.1 1 1).toInt = d) ∨ ((1 ≤ n ∧ n ≤ 400 ∧ d + n ≤ 9999) ∧ (τ.1 1 0).toInt = itn f n.toNat m ∧ (τ.1 1 1).toInt = d + n))) := by
  have gm := ai_rng (σ.1 1 0)
  let Q : Option Value → pm_S → Prop := fun r τ => (∃ w : Int32, r = some (.int w)) ∧ an_GB pm_B τ ∧ FQ FCs σ τ ∧ ((¬ (1 ≤ n ∧ n ≤ 400 ∧ d + n ≤ 9999) ∧ (τ.1 1 0).toInt = m ∧ (τ.1 1 1).toInt = d) ∨ ((1 ≤ n ∧ n ≤ 400 ∧ d + n ≤ 9999) ∧ (τ.1 1 0).toInt = itn f n.toNat m ∧ (τ.1 1 1).toInt = d + n))
  have loop : ∀ (τ : pm_S), 1 ≤ n ∧ n ≤ 400 ∧ d + n ≤ 9999 → an_GB pm_B τ → FQ FCs σ τ → (τ.1 1 0).toInt = m → (τ.1 1 1).toInt = d → Ok 140 80 23 [.ref 0, .int (Int32.ofInt n), .int (Int32.ofInt 0), .int (Int32.ofInt 0)] [] τ Q := by
    intro τ0 hn0 hB0 F0 a0 a1
    refine Ok.loop (fun i L τ => 0 ≤ i ∧ i ≤ n ∧ (∃ acc : Int, ((-2147483648) ≤ acc ∧ acc ≤ 2147483647) ∧ L = [.ref 0, .int (Int32.ofInt n), .int (Int32.ofInt acc), .int (Int32.ofInt i)]) ∧ an_GB pm_B τ ∧ FQ FCs σ τ ∧ (τ.1 1 0).toInt = itn f i.toNat m ∧ (τ.1 1 1).toInt = d + i) n (fun i L τ h => h.2.1) ?_ 0 _ τ0 ⟨by decide, by omega, ⟨0, by decide, rfl⟩, hB0, F0, a0, by omega⟩
    rintro i L τ ⟨i0, i1, ⟨acc, ga, rfl⟩, hB1, F1, c0, c1⟩ ih
    refine sg_cp23 n acc i hB1 ⟨by omega, ga, by omega, trivial⟩ ?_
    intro τ2 y hB2 F2 _ _ _ _
    have G2 : FQ FCs σ τ2 := FQ.tr F1 (FQ.up (G := []) rfl F2)
    have d0 : (τ2.1 1 0).toInt = itn f i.toNat m := (congrArg Int32.toInt (F2 1 0 rfl)).trans c0
    have d1 : (τ2.1 1 1).toInt = d + i := (congrArg Int32.toInt (F2 1 1 rfl)).trans c1
    refine Ok.ic rfl rfl (by omega) (by omega) (by omega) (by omega) (fun z => ?_) (fun z => ?_)
    · have z : n ≤ i := z
      have e : i = n := by omega
      subst e
      refine sg_cp34 i acc i hB2 ⟨by omega, ga, by omega, trivial⟩ ?_
      intro τ3 y3 hB3 F3 _ _ _ _
      exact ⟨⟨_, rfl⟩, hB3, FQ.tr G2 (FQ.up (G := []) rfl F3), Or.inr ⟨hn0, (congrArg Int32.toInt (F3 1 0 rfl)).trans d0, (congrArg Int32.toInt (F3 1 1 rfl)).trans d1⟩⟩
    · have z : i < n := z
      refine sg_cp26 n acc i hB2 ⟨by omega, ga, by omega, trivial⟩ ?_
      intro τ3 y3 hB3 F3 _ _ _ _
      refine Ok.cv rfl rfl rfl rfl rfl rfl rfl ?_
      refine (xc_goBy f (itn f i.toNat m) (d + i) hB3 ((congrArg Int32.toInt (F3 1 0 rfl)).trans d0) ?_ ((congrArg Int32.toInt (F3 1 1 rfl)).trans d1) (by omega)).use (by decide) (fun r τ4 p => ?_)
      · rw [F3 2 0 rfl, G2 2 0 rfl]
        exact ef
      · obtain ⟨⟨w, rfl⟩, hB4, F4, c2, c3⟩ := p
        show Ok 140 80 30 [.ref 0, .int (Int32.ofInt n), .int (Int32.ofInt acc), .int (Int32.ofInt i)] [.int w, .int (Int32.ofInt acc)] τ4 _
        rw [← oI w]
        refine sg_cp30 n acc i w.toInt hB4 ⟨by omega, ga, by omega, ai_rng w, trivial⟩ ?_
        intro τ5 y5 hB5 F5 q5 _ _ _
        refine ih _ τ5 ⟨by omega, by omega, ⟨y5 4, q5.2.2.2.2.1, rfl⟩, hB5, FQ.tr G2 (FQ.tr (FQ.up (G := []) rfl F3) (FQ.tr F4 (FQ.up (G := []) rfl F5))), ?_, ?_⟩
        · rw [F5 1 0 rfl, c2]
          exact itn_s i0
        · rw [F5 1 1 rfl, c3]
          omega
  refine Sp.at rfl rfl ?_
  refine sg_cp0 n m d _ _ rfl rfl hB ⟨hn, by omega, gd, trivial⟩ ⟨e0, ed, trivial⟩ ?_ ?_ ?_ ?_
  · intro τ y hB1 F1 q _ _ c
    have q0 := q.1
    exact ⟨⟨_, rfl⟩, hB1, FQ.up (G := [(11, 9999)]) rfl F1, Or.inl ⟨by omega, c.1, c.2.1⟩⟩
  · intro τ y hB1 F1 q _ _ c
    have q0 := q.1
    exact ⟨⟨_, rfl⟩, hB1, FQ.up (G := [(11, 9999)]) rfl F1, Or.inl ⟨by omega, c.1, c.2.1⟩⟩
  · intro τ y hB1 F1 q _ dd c
    have q0 := q.1
    have q3 := q.2.2.2.1
    have e := sumI gd q.1 dd.1
    exact loop τ ⟨by omega, by omega, by omega⟩ hB1 (FQ.up (G := [(11, 9999)]) rfl F1) c.1 c.2.1
  · intro τ y hB1 F1 q _ dd c
    have q3 := q.2.2.2.1
    have e := sumI gd q.1 dd.1
    exact ⟨⟨_, rfl⟩, hB1, FQ.up (G := [(11, 9999)]) rfl F1, Or.inl ⟨by omega, c.1, c.2.1⟩⟩
set_option maxRecDepth 100000 in
theorem sg_mp0 {σ : pm_S} {Q : Option Value → pm_S → Prop} (x0 x1 x2 : Int) (v2 : Value) (v3 : Value) (hv2 : v2.category = 1) (hv3 : v3.category = 1) (hB : an_GB pm_B σ) (eF : ((-2147483648) ≤ x0 ∧ x0 ≤ 2147483647) ∧ ((-2147483648) ≤ x1 ∧ x1 ≤ 2147483647) ∧ (0 ≤ x2 ∧ x2 ≤ 9999) ∧ True) (eC : (σ.1 93 1).toInt = x1 ∧ (σ.1 93 19).toInt = x2 ∧ True)
    (l0 : ∀ (τ : pm_S) (y : Nat → Int), an_GB pm_B τ → FQ [(93, 0)] σ τ → (((-2147483648) ≤ x0 ∧ x0 ≤ 0) ∧ ((-2147483648) ≤ x1 ∧ x1 ≤ 2147483647) ∧ (0 ≤ x2 ∧ x2 ≤ 9999) ∧ True) → (True) → (True) → ((τ.1 93 1).toInt = x1 ∧ (τ.1 93 19).toInt = x2 ∧ True) → Q (some (.int (Int32.ofInt (-1)))) τ)
    (l1 : ∀ (τ : pm_S) (y : Nat → Int), an_GB pm_B τ → FQ [(93, 0)] σ τ → ((401 ≤ x0 ∧ x0 ≤ 2147483647) ∧ ((-2147483648) ≤ x1 ∧ x1 ≤ 2147483647) ∧ (0 ≤ x2 ∧ x2 ≤ 9999) ∧ True) → (True) → (True) → ((τ.1 93 1).toInt = x1 ∧ (τ.1 93 19).toInt = x2 ∧ True) → Q (some (.int (Int32.ofInt (-1)))) τ)
    (l2 : ∀ (τ : pm_S) (y : Nat → Int) (v3 : Value), v3.category = 1 → an_GB pm_B τ → FQ [(93, 0)] σ τ → ((1 ≤ x0 ∧ x0 ≤ 400) ∧ ((-2147483648) ≤ x1 ∧ x1 ≤ 2147483647) ∧ (0 ≤ x2 ∧ x2 ≤ 9999) ∧ (1 ≤ y 3 ∧ y 3 ≤ 9999) ∧ True) → (True) → ((an_f 0 (Int32.ofInt (x2)) (Int32.ofInt (x0))).toInt = y 3 ∧ True) → ((τ.1 93 1).toInt = x1 ∧ (τ.1 93 19).toInt = x2 ∧ True) → Ok 212 82 19 [.ref 93, .int (Int32.ofInt (x0)), .int (Int32.ofInt 0), v3] [] τ Q)
    (l3 : ∀ (τ : pm_S) (y : Nat → Int), an_GB pm_B τ → FQ [(93, 0)] σ τ → ((1 ≤ x0 ∧ x0 ≤ 400) ∧ ((-2147483648) ≤ x1 ∧ x1 ≤ 2147483647) ∧ (0 ≤ x2 ∧ x2 ≤ 9999) ∧ (10000 ≤ y 3 ∧ y 3 ≤ 10399) ∧ True) → (True) → ((an_f 0 (Int32.ofInt (x2)) (Int32.ofInt (x0))).toInt = y 3 ∧ True) → ((τ.1 93 1).toInt = x1 ∧ (τ.1 93 19).toInt = x2 ∧ True) → Q (some (.int (Int32.ofInt (-1)))) τ)
    : Ok 212 82 0 [.ref 93, .int (Int32.ofInt (x0)), v2, v3] [] σ Q := by
  refine an_seg (B := pm_B) (F := [(93, 0)]) (T := []) (S := []) (fun _ h => absurd h List.not_mem_nil) (k := 212) (d := 81) (cs := [19]) 28 0 3 [(0, (-2147483648), 2147483647), (1, (-2147483648), 2147483647), (2, 0, 9999)] [(93, (1, 0, 1), (0, 1, 0)), (93, (1, 0, 19), (0, 2, 0))] [(2, 93, 0), (0, 0, 0), (5, 0, 0), (5, 0, 0)] [] [(9999, [], [(1, 0, (-1))], [(0, (-2147483648), 0), (1, (-2147483648), 2147483647), (2, 0, 9999)], [], [], [(93, (1, 0, 1), (0, 1, 0)), (93, (1, 0, 19), (0, 2, 0))]),
    (9999, [], [(1, 0, (-1))], [(0, 401, 2147483647), (1, (-2147483648), 2147483647), (2, 0, 9999)], [], [], [(93, (1, 0, 1), (0, 1, 0)), (93, (1, 0, 19), (0, 2, 0))]),
    (19, [(2, 93, 0), (0, 0, 0), (1, 0, 0), (5, 0, 0)], [], [(0, 1, 400), (1, (-2147483648), 2147483647), (2, 0, 9999), (3, 1, 9999)], [], [(0, (0, 2, 0), (0, 0, 0), 3)], [(93, (1, 0, 1), (0, 1, 0)), (93, (1, 0, 19), (0, 2, 0))]),
    (9999, [], [(1, 0, (-1))], [(0, 1, 400), (1, (-2147483648), 2147483647), (2, 0, 9999), (3, 10000, 10399)], [], [(0, (0, 2, 0), (0, 0, 0), 3)], [(93, (1, 0, 1), (0, 1, 0)), (93, (1, 0, 19), (0, 2, 0))])] (by decide +kernel) (ρ0 := (fun s => [x0, x1, x2].getD s 0)) hB eF eC ⟨rfl, ⟨rfl, ⟨hv2, ⟨hv3, trivial⟩⟩⟩⟩ trivial ?_
  refine List.forall_mem_cons.mpr ⟨?_, List.forall_mem_cons.mpr ⟨?_, List.forall_mem_cons.mpr ⟨?_, List.forall_mem_cons.mpr ⟨?_, fun _ h => absurd h List.not_mem_nil⟩⟩⟩⟩
  · intro ρ τ Lc stc hx g1 g2 g3 g4 g5 g6 g7 g8
    have e0 : ρ 0 = x0 := hx 0 (by decide)
    have e1 : ρ 1 = x1 := hx 1 (by decide)
    have e2 : ρ 2 = x2 := hx 2 (by decide)
    subst e0
    subst e1
    subst e2
    match stc, g8 with
    | [_], ⟨h, _⟩ => cases h; exact l0 τ ρ g1 g2 g3 g4 g5 g6
  · intro ρ τ Lc stc hx g1 g2 g3 g4 g5 g6 g7 g8
    have e0 : ρ 0 = x0 := hx 0 (by decide)
    have e1 : ρ 1 = x1 := hx 1 (by decide)
    have e2 : ρ 2 = x2 := hx 2 (by decide)
    subst e0
    subst e1
    subst e2
    match stc, g8 with
    | [_], ⟨h, _⟩ => cases h; exact l1 τ ρ g1 g2 g3 g4 g5 g6
  · intro ρ τ Lc stc hx g1 g2 g3 g4 g5 g6 g7 g8
    have e0 : ρ 0 = x0 := hx 0 (by decide)
    have e1 : ρ 1 = x1 := hx 1 (by decide)
    have e2 : ρ 2 = x2 := hx 2 (by decide)
    subst e0
    subst e1
    subst e2
    have g7 := g7 (by decide)
    match Lc, stc, g7, g8 with
    | [v0, v1, v2, v3], [], ⟨hv0, hv1, hv2, hv3, _⟩, _ =>
      cases hv0
      cases hv1
      cases hv2
      exact l2 τ ρ v3 hv3 g1 g2 g3 g4 g5 g6
  · intro ρ τ Lc stc hx g1 g2 g3 g4 g5 g6 g7 g8
    have e0 : ρ 0 = x0 := hx 0 (by decide)
    have e1 : ρ 1 = x1 := hx 1 (by decide)
    have e2 : ρ 2 = x2 := hx 2 (by decide)
    subst e0
    subst e1
    subst e2
    match stc, g8 with
    | [_], ⟨h, _⟩ => cases h; exact l3 τ ρ g1 g2 g3 g4 g5 g6
set_option maxRecDepth 100000 in
theorem sg_mp19 {σ : pm_S} {Q : Option Value → pm_S → Prop} (x0 x1 : Int) (v3 : Value) (hv3 : v3.category = 1) (hB : an_GB pm_B σ) (eF : (1 ≤ x0 ∧ x0 ≤ 400) ∧ (0 ≤ x1 ∧ x1 ≤ 10) ∧ True)
    (l0 : ∀ (τ : pm_S) (y : Nat → Int), an_GB pm_B τ → FQ [(99, 9999)] σ τ → ((1 ≤ x0 ∧ x0 ≤ 400) ∧ (0 ≤ x1 ∧ x1 ≤ 10) ∧ True) → (True) → (True) → (True) → Ok 212 82 37 [.ref 93, .int (Int32.ofInt (x0)), .int (Int32.ofInt 0), .int (Int32.ofInt 0)] [] τ Q)
    (l1 : ∀ (τ : pm_S) (y : Nat → Int) (v3 : Value), v3.category = 1 → an_GB pm_B τ → FQ [(99, 9999)] σ τ → ((1 ≤ x0 ∧ x0 ≤ 400) ∧ (0 ≤ x1 ∧ x1 ≤ 9) ∧ True) → (True) → (True) → (True) → Ok 212 82 19 [.ref 93, .int (Int32.ofInt (x0)), .int (Int32.ofInt (x1 + 1)), v3] [] τ Q)
    : Ok 212 82 19 [.ref 93, .int (Int32.ofInt (x0)), .int (Int32.ofInt (x1)), v3] [] σ Q := by
  refine an_seg (B := pm_B) (F := [(99, 9999)]) (T := []) (S := []) (fun _ h => absurd h List.not_mem_nil) (k := 212) (d := 81) (cs := [19, 37]) 16 19 2 [(0, 1, 400), (1, 0, 10)] [] [(2, 93, 0), (0, 0, 0), (0, 1, 0), (5, 0, 0)] [] [(37, [(2, 93, 0), (0, 0, 0), (1, 0, 0), (1, 0, 0)], [], [(0, 1, 400), (1, 0, 10)], [], [], []),
    (19, [(2, 93, 0), (0, 0, 0), (0, 1, 1), (5, 0, 0)], [], [(0, 1, 400), (1, 0, 9)], [], [], [])] (by decide +kernel) (ρ0 := (fun s => [x0, x1].getD s 0)) hB eF trivial ⟨rfl, ⟨rfl, ⟨rfl, ⟨hv3, trivial⟩⟩⟩⟩ trivial ?_
  refine List.forall_mem_cons.mpr ⟨?_, List.forall_mem_cons.mpr ⟨?_, fun _ h => absurd h List.not_mem_nil⟩⟩
  · intro ρ τ Lc stc hx g1 g2 g3 g4 g5 g6 g7 g8
    have e0 : ρ 0 = x0 := hx 0 (by decide)
    have e1 : ρ 1 = x1 := hx 1 (by decide)
    subst e0
    subst e1
    have g7 := g7 (by decide)
    match Lc, stc, g7, g8 with
    | [v0, v1, v2, v3], [], ⟨hv0, hv1, hv2, hv3, _⟩, _ =>
      cases hv0
      cases hv1
      cases hv2
      cases hv3
      exact l0 τ ρ  g1 g2 g3 g4 g5 g6
  · intro ρ τ Lc stc hx g1 g2 g3 g4 g5 g6 g7 g8
    have e0 : ρ 0 = x0 := hx 0 (by decide)
    have e1 : ρ 1 = x1 := hx 1 (by decide)
    subst e0
    subst e1
    have g7 := g7 (by decide)
    match Lc, stc, g7, g8 with
    | [v0, v1, v2, v3], [], ⟨hv0, hv1, hv2, hv3, _⟩, _ =>
      cases hv0
      cases hv1
      cases hv2
      exact l1 τ ρ v3 hv3 g1 g2 g3 g4 g5 g6
set_option maxRecDepth 100000 in
theorem sg_mp37 {σ : pm_S} {Q : Option Value → pm_S → Prop} (x0 x1 x2 : Int)  (hB : an_GB pm_B σ) (eF : (1 ≤ x0 ∧ x0 ≤ 400) ∧ ((-2147483648) ≤ x1 ∧ x1 ≤ 2147483647) ∧ (0 ≤ x2 ∧ x2 ≤ 400) ∧ True)
    (l0 : ∀ (τ : pm_S) (y : Nat → Int), an_GB pm_B τ → FQ [] σ τ → ((1 ≤ x0 ∧ x0 ≤ 400) ∧ ((-2147483648) ≤ x1 ∧ x1 ≤ 2147483647) ∧ (0 ≤ x2 ∧ x2 ≤ 400) ∧ True) → (True) → (True) → (True) → Ok 212 82 39 [.ref 93, .int (Int32.ofInt (x0)), .int (Int32.ofInt (x1)), .int (Int32.ofInt (x2))] [.int (Int32.ofInt (x0)), .int (Int32.ofInt (x2))] τ Q)
    : Ok 212 82 37 [.ref 93, .int (Int32.ofInt (x0)), .int (Int32.ofInt (x1)), .int (Int32.ofInt (x2))] [] σ Q := by
  refine an_seg (B := pm_B) (F := []) (T := []) (S := []) (fun _ h => absurd h List.not_mem_nil) (k := 212) (d := 81) (cs := [39]) 4 37 3 [(0, 1, 400), (1, (-2147483648), 2147483647), (2, 0, 400)] [] [(2, 93, 0), (0, 0, 0), (0, 1, 0), (0, 2, 0)] [] [(39, [(2, 93, 0), (0, 0, 0), (0, 1, 0), (0, 2, 0)], [(0, 0, 0), (0, 2, 0)], [(0, 1, 400), (1, (-2147483648), 2147483647), (2, 0, 400)], [], [], [])] (by decide +kernel) (ρ0 := (fun s => [x0, x1, x2].getD s 0)) hB eF trivial ⟨rfl, ⟨rfl, ⟨rfl, ⟨rfl, trivial⟩⟩⟩⟩ trivial ?_
  refine List.forall_mem_cons.mpr ⟨?_, fun _ h => absurd h List.not_mem_nil⟩
  · intro ρ τ Lc stc hx g1 g2 g3 g4 g5 g6 g7 g8
    have e0 : ρ 0 = x0 := hx 0 (by decide)
    have e1 : ρ 1 = x1 := hx 1 (by decide)
    have e2 : ρ 2 = x2 := hx 2 (by decide)
    subst e0
    subst e1
    subst e2
    have g7 := g7 (by decide)
    match Lc, stc, g7, g8 with
    | [v0, v1, v2, v3], [w0, w1], ⟨hv0, hv1, hv2, hv3, _⟩, ⟨hw0, hw1, _⟩ =>
      cases hv0
      cases hv1
      cases hv2
      cases hv3
      cases hw0
      cases hw1
      exact l0 τ ρ  g1 g2 g3 g4 g5 g6
set_option maxRecDepth 100000 in
theorem sg_mp47 {σ : pm_S} {Q : Option Value → pm_S → Prop} (x0 x1 x2 : Int)  (hB : an_GB pm_B σ) (eF : (1 ≤ x0 ∧ x0 ≤ 400) ∧ ((-2147483648) ≤ x1 ∧ x1 ≤ 2147483647) ∧ (0 ≤ x2 ∧ x2 ≤ 400) ∧ True)
    (l0 : ∀ (τ : pm_S) (y : Nat → Int), an_GB pm_B τ → FQ [] σ τ → ((1 ≤ x0 ∧ x0 ≤ 400) ∧ ((-2147483648) ≤ x1 ∧ x1 ≤ 2147483647) ∧ (0 ≤ x2 ∧ x2 ≤ 400) ∧ True) → (True) → (True) → (True) → Q (some (.int (Int32.ofInt (x1)))) τ)
    : Ok 212 82 47 [.ref 93, .int (Int32.ofInt (x0)), .int (Int32.ofInt (x1)), .int (Int32.ofInt (x2))] [] σ Q := by
  refine an_seg (B := pm_B) (F := []) (T := []) (S := []) (fun _ h => absurd h List.not_mem_nil) (k := 212) (d := 81) (cs := []) 4 47 3 [(0, 1, 400), (1, (-2147483648), 2147483647), (2, 0, 400)] [] [(2, 93, 0), (0, 0, 0), (0, 1, 0), (0, 2, 0)] [] [(9999, [], [(0, 1, 0)], [(0, 1, 400), (1, (-2147483648), 2147483647), (2, 0, 400)], [], [], [])] (by decide +kernel) (ρ0 := (fun s => [x0, x1, x2].getD s 0)) hB eF trivial ⟨rfl, ⟨rfl, ⟨rfl, ⟨rfl, trivial⟩⟩⟩⟩ trivial ?_
  refine List.forall_mem_cons.mpr ⟨?_, fun _ h => absurd h List.not_mem_nil⟩
  · intro ρ τ Lc stc hx g1 g2 g3 g4 g5 g6 g7 g8
    have e0 : ρ 0 = x0 := hx 0 (by decide)
    have e1 : ρ 1 = x1 := hx 1 (by decide)
    have e2 : ρ 2 = x2 := hx 2 (by decide)
    subst e0
    subst e1
    subst e2
    match stc, g8 with
    | [_], ⟨h, _⟩ => cases h; exact l0 τ ρ g1 g2 g3 g4 g5 g6
set_option maxRecDepth 100000 in
theorem sg_mp40 {σ : pm_S} {Q : Option Value → pm_S → Prop} (x0 x1 x2 : Int)  (hB : an_GB pm_B σ) (eF : (1 ≤ x0 ∧ x0 ≤ 400) ∧ ((-2147483648) ≤ x1 ∧ x1 ≤ 2147483647) ∧ (0 ≤ x2 ∧ x2 ≤ 399) ∧ True)
    (l0 : ∀ (τ : pm_S) (y : Nat → Int), an_GB pm_B τ → FQ [] σ τ → ((1 ≤ x0 ∧ x0 ≤ 400) ∧ ((-2147483648) ≤ x1 ∧ x1 ≤ 2147483647) ∧ (0 ≤ x2 ∧ x2 ≤ 399) ∧ True) → (True) → (True) → (True) → Ok 212 82 42 [.ref 93, .int (Int32.ofInt (x0)), .int (Int32.ofInt (x1)), .int (Int32.ofInt (x2))] [.ref 93, .int (Int32.ofInt (x1))] τ Q)
    : Ok 212 82 40 [.ref 93, .int (Int32.ofInt (x0)), .int (Int32.ofInt (x1)), .int (Int32.ofInt (x2))] [] σ Q := by
  refine an_seg (B := pm_B) (F := []) (T := []) (S := []) (fun _ h => absurd h List.not_mem_nil) (k := 212) (d := 81) (cs := [42]) 4 40 3 [(0, 1, 400), (1, (-2147483648), 2147483647), (2, 0, 399)] [] [(2, 93, 0), (0, 0, 0), (0, 1, 0), (0, 2, 0)] [] [(42, [(2, 93, 0), (0, 0, 0), (0, 1, 0), (0, 2, 0)], [(2, 93, 0), (0, 1, 0)], [(0, 1, 400), (1, (-2147483648), 2147483647), (2, 0, 399)], [], [], [])] (by decide +kernel) (ρ0 := (fun s => [x0, x1, x2].getD s 0)) hB eF trivial ⟨rfl, ⟨rfl, ⟨rfl, ⟨rfl, trivial⟩⟩⟩⟩ trivial ?_
  refine List.forall_mem_cons.mpr ⟨?_, fun _ h => absurd h List.not_mem_nil⟩
  · intro ρ τ Lc stc hx g1 g2 g3 g4 g5 g6 g7 g8
    have e0 : ρ 0 = x0 := hx 0 (by decide)
    have e1 : ρ 1 = x1 := hx 1 (by decide)
    have e2 : ρ 2 = x2 := hx 2 (by decide)
    subst e0
    subst e1
    subst e2
    have g7 := g7 (by decide)
    match Lc, stc, g7, g8 with
    | [v0, v1, v2, v3], [w0, w1], ⟨hv0, hv1, hv2, hv3, _⟩, ⟨hw0, hw1, _⟩ =>
      cases hv0
      cases hv1
      cases hv2
      cases hv3
      cases hw0
      cases hw1
      exact l0 τ ρ  g1 g2 g3 g4 g5 g6
set_option maxRecDepth 100000 in
theorem sg_mp43 {σ : pm_S} {Q : Option Value → pm_S → Prop} (x0 x1 x2 x3 : Int)  (hB : an_GB pm_B σ) (eF : (1 ≤ x0 ∧ x0 ≤ 400) ∧ ((-2147483648) ≤ x1 ∧ x1 ≤ 2147483647) ∧ (0 ≤ x2 ∧ x2 ≤ 399) ∧ ((-2147483648) ≤ x3 ∧ x3 ≤ 2147483647) ∧ True)
    (l0 : ∀ (τ : pm_S) (y : Nat → Int), an_GB pm_B τ → FQ [] σ τ → ((1 ≤ x0 ∧ x0 ≤ 400) ∧ ((-2147483648) ≤ x1 ∧ x1 ≤ 2147483647) ∧ (0 ≤ x2 ∧ x2 ≤ 399) ∧ ((-2147483648) ≤ x3 ∧ x3 ≤ 2147483647) ∧ ((-2147483648) ≤ y 4 ∧ y 4 ≤ 2147483647) ∧ True) → (True) → (True) → (True) → Ok 212 82 37 [.ref 93, .int (Int32.ofInt (x0)), .int (Int32.ofInt (y 4)), .int (Int32.ofInt (x2 + 1))] [] τ Q)
    : Ok 212 82 43 [.ref 93, .int (Int32.ofInt (x0)), .int (Int32.ofInt (x1)), .int (Int32.ofInt (x2))] [.int (Int32.ofInt (x3)), .int (Int32.ofInt (x1))] σ Q := by
  refine an_seg (B := pm_B) (F := []) (T := []) (S := []) (fun _ h => absurd h List.not_mem_nil) (k := 212) (d := 81) (cs := [37]) 6 43 4 [(0, 1, 400), (1, (-2147483648), 2147483647), (2, 0, 399), (3, (-2147483648), 2147483647)] [] [(2, 93, 0), (0, 0, 0), (0, 1, 0), (0, 2, 0)] [(0, 3, 0), (0, 1, 0)] [(37, [(2, 93, 0), (0, 0, 0), (0, 4, 0), (0, 2, 1)], [], [(0, 1, 400), (1, (-2147483648), 2147483647), (2, 0, 399), (3, (-2147483648), 2147483647), (4, (-2147483648), 2147483647)], [], [], [])] (by decide +kernel) (ρ0 := (fun s => [x0, x1, x2, x3].getD s 0)) hB eF trivial ⟨rfl, ⟨rfl, ⟨rfl, ⟨rfl, trivial⟩⟩⟩⟩ ⟨rfl, ⟨rfl, trivial⟩⟩ ?_
  refine List.forall_mem_cons.mpr ⟨?_, fun _ h => absurd h List.not_mem_nil⟩
  · intro ρ τ Lc stc hx g1 g2 g3 g4 g5 g6 g7 g8
    have e0 : ρ 0 = x0 := hx 0 (by decide)
    have e1 : ρ 1 = x1 := hx 1 (by decide)
    have e2 : ρ 2 = x2 := hx 2 (by decide)
    have e3 : ρ 3 = x3 := hx 3 (by decide)
    subst e0
    subst e1
    subst e2
    subst e3
    have g7 := g7 (by decide)
    match Lc, stc, g7, g8 with
    | [v0, v1, v2, v3], [], ⟨hv0, hv1, hv2, hv3, _⟩, _ =>
      cases hv0
      cases hv1
      cases hv2
      cases hv3
      exact l0 τ ρ  g1 g2 g3 g4 g5 g6
set_option maxRecDepth 20000 in
theorem xm_pass {σ : pm_S} (f m d n : Int) (hB : an_GB pm_B σ) (hP : pPP σ) (hn : (-2147483648) ≤ n ∧ n ≤ 2147483647) (e0 : cI σ 1 = m) (ef : (σ.1 108 0).toInt = f) (ed : cI σ 19 = d) (gd : 0 ≤ d ∧ d ≤ 9999) : Sp 212 82 [.ref 93, .int (Int32.ofInt n)] σ (fun r τ => (∃ w : Int32, r = some (.int w)) ∧ an_GB pm_B τ ∧ FQ FMs σ τ ∧ ((¬ (1 ≤ n ∧ n ≤ 400 ∧ d + n ≤ 9999) ∧ (τ.1 93 1).toInt = m ∧ (τ.1 93 19).toInt = d) ∨ ((1 ≤ n ∧ n ≤ 400 ∧ d + n ≤ 9999) ∧ (τ.1 93 1).toInt = itn f n.toNat m ∧ (τ.1 93 19).toInt = d + n))) := by
  have e0' : (σ.1 93 1).toInt = m := e0
  have gm := ai_rng (σ.1 93 1)
  let Q : Option Value → pm_S → Prop := fun r τ => (∃ w : Int32, r = some (.int w)) ∧ an_GB pm_B τ ∧ FQ FMs σ τ ∧ ((¬ (1 ≤ n ∧ n ≤ 400 ∧ d + n ≤ 9999) ∧ (τ.1 93 1).toInt = m ∧ (τ.1 93 19).toInt = d) ∨ ((1 ≤ n ∧ n ≤ 400 ∧ d + n ≤ 9999) ∧ (τ.1 93 1).toInt = itn f n.toNat m ∧ (τ.1 93 19).toInt = d + n))
  have pp : ∀ τ, FQ FMs σ τ → pPP τ := fun τ F => pPP.fr _ rfl rfl rfl rfl rfl rfl rfl rfl F hP
  have loop : ∀ (τ : pm_S), 1 ≤ n ∧ n ≤ 400 ∧ d + n ≤ 9999 → an_GB pm_B τ → FQ FMs σ τ → cI τ 1 = m → cI τ 19 = d → Ok 212 82 37 [.ref 93, .int (Int32.ofInt n), .int (Int32.ofInt 0), .int (Int32.ofInt 0)] [] τ Q := by
    intro τ0 hn0 hB0 F0 a0 a1
    refine Ok.loop (fun i L τ => 0 ≤ i ∧ i ≤ n ∧ (∃ acc : Int, ((-2147483648) ≤ acc ∧ acc ≤ 2147483647) ∧ L = [.ref 93, .int (Int32.ofInt n), .int (Int32.ofInt acc), .int (Int32.ofInt i)]) ∧ an_GB pm_B τ ∧ FQ FMs σ τ ∧ cI τ 1 = itn f i.toNat m ∧ cI τ 19 = d + i) n (fun i L τ h => h.2.1) ?_ 0 _ τ0 ⟨by decide, by omega, ⟨0, by decide, rfl⟩, hB0, F0, a0, by omega⟩
    rintro i L τ ⟨i0, i1, ⟨acc, ga, rfl⟩, hB1, F1, c0, c1⟩ ih
    refine sg_mp37 n acc i hB1 ⟨by omega, ga, by omega, trivial⟩ ?_
    intro τ2 y hB2 F2 _ _ _ _
    have G2 : FQ FMs σ τ2 := FQ.tr F1 (FQ.up (G := []) rfl F2)
    have d0 : cI τ2 1 = itn f i.toNat m := (F2.c 1 rfl).trans c0
    have d1 : cI τ2 19 = d + i := (F2.c 19 rfl).trans c1
    refine Ok.ic rfl rfl (by omega) (by omega) (by omega) (by omega) (fun z => ?_) (fun z => ?_)
    · have z : n ≤ i := z
      have e : i = n := by omega
      subst e
      refine sg_mp47 i acc i hB2 ⟨by omega, ga, by omega, trivial⟩ ?_
      intro τ3 y3 hB3 F3 _ _ _ _
      exact ⟨⟨_, rfl⟩, hB3, FQ.tr G2 (FQ.up (G := []) rfl F3), Or.inr ⟨hn0, (F3.c 1 rfl).trans d0, (F3.c 19 rfl).trans d1⟩⟩
    · have z : i < n := z
      refine sg_mp40 n acc i hB2 ⟨by omega, ga, by omega, trivial⟩ ?_
      intro τ3 y3 hB3 F3 _ _ _ _
      have G3 : FQ FMs σ τ3 := FQ.tr G2 (FQ.up (G := []) rfl F3)
      refine Ok.cv rfl rfl rfl rfl rfl rfl rfl ?_
      refine (xm_goesBy f (itn f i.toNat m) (d + i) hB3 (pp τ3 G3) ((F3.c 1 rfl).trans d0) ?_ ((F3.c 19 rfl).trans d1) (by omega)).use (by decide) (fun r τ4 p => ?_)
      · rw [F3 108 0 rfl, G2 108 0 rfl]
        exact ef
      · obtain ⟨⟨w, rfl⟩, hB4, F4, c2, c3⟩ := p
        show Ok 212 82 43 [.ref 93, .int (Int32.ofInt n), .int (Int32.ofInt acc), .int (Int32.ofInt i)] [.int w, .int (Int32.ofInt acc)] τ4 _
        rw [← oI w]
        refine sg_mp43 n acc i w.toInt hB4 ⟨by omega, ga, by omega, ai_rng w, trivial⟩ ?_
        intro τ5 y5 hB5 F5 q5 _ _ _
        refine ih _ τ5 ⟨by omega, by omega, ⟨y5 4, q5.2.2.2.2.1, rfl⟩, hB5, FQ.tr G3 (FQ.tr (FQ.up (G := [(93, 1), (93, 19), (93, 20), (93, 21), (93, 53), (97, 9999), (99, 9999), (100, 9999), (103, 9999), (106, 9999), (107, 9999), (122, 9999), (123, 9999), (124, 9999)]) rfl F4) (FQ.up (G := []) rfl F5)), ?_, ?_⟩
        · rw [F5.c 1 rfl, c2]
          exact itn_s i0
        · rw [F5.c 19 rfl, c3]
          omega
  have goals : ∀ (τ : pm_S) (v : Value), 1 ≤ n ∧ n ≤ 400 ∧ d + n ≤ 9999 → v.category = 1 → an_GB pm_B τ → FQ FMs σ τ → cI τ 1 = m → cI τ 19 = d → Ok 212 82 19 [.ref 93, .int (Int32.ofInt n), .int (Int32.ofInt 0), v] [] τ Q := by
    intro τ0 v0 hn0 hv0 hB0 F0 a0 a1
    refine Ok.loop (fun i L τ => 0 ≤ i ∧ i ≤ 10 ∧ (∃ v : Value, v.category = 1 ∧ L = [.ref 93, .int (Int32.ofInt n), .int (Int32.ofInt i), v]) ∧ an_GB pm_B τ ∧ FQ FMs σ τ ∧ cI τ 1 = m ∧ cI τ 19 = d) 10 (fun i L τ h => h.2.1) ?_ 0 _ τ0 ⟨by decide, by decide, ⟨v0, hv0, rfl⟩, hB0, F0, a0, a1⟩
    rintro i L τ ⟨i0, i1, ⟨v, hv, rfl⟩, hB1, F1, c0, c1⟩ ih
    refine sg_mp19 n i v hv hB1 ⟨by omega, by omega, trivial⟩ ?_ ?_
    · intro τ2 y hB2 F2 _ _ _ _
      exact loop τ2 hn0 hB2 (FQ.tr F1 (FQ.up (G := [(99, 9999)]) rfl F2)) ((F2.c 1 rfl).trans c0) ((F2.c 19 rfl).trans c1)
    · intro τ2 y v2 hv2 hB2 F2 q _ _ _
      have q1 := q.2.1
      exact ih _ τ2 ⟨by omega, by omega, ⟨v2, hv2, rfl⟩, hB2, FQ.tr F1 (FQ.up (G := [(99, 9999)]) rfl F2), (F2.c 1 rfl).trans c0, (F2.c 19 rfl).trans c1⟩
  refine Sp.at rfl rfl ?_
  refine sg_mp0 n m d _ _ rfl rfl hB ⟨hn, by omega, gd, trivial⟩ ⟨e0, ed, trivial⟩ ?_ ?_ ?_ ?_
  · intro τ y hB1 F1 q _ _ c
    have q0 := q.1
    exact ⟨⟨_, rfl⟩, hB1, FQ.up (G := [(93, 0)]) rfl F1, Or.inl ⟨by omega, c.1, c.2.1⟩⟩
  · intro τ y hB1 F1 q _ _ c
    have q0 := q.1
    exact ⟨⟨_, rfl⟩, hB1, FQ.up (G := [(93, 0)]) rfl F1, Or.inl ⟨by omega, c.1, c.2.1⟩⟩
  · intro τ y v3 hv3 hB1 F1 q _ dd c
    have q0 := q.1
    have q3 := q.2.2.2.1
    have e := sumI gd q.1 dd.1
    exact goals τ v3 ⟨by omega, by omega, by omega⟩ hv3 hB1 (FQ.up (G := [(93, 0)]) rfl F1) c.1 c.2.1
  · intro τ y hB1 F1 q _ dd c
    have q3 := q.2.2.2.1
    have e := sumI gd q.1 dd.1
    exact ⟨⟨_, rfl⟩, hB1, FQ.up (G := [(93, 0)]) rfl F1, Or.inl ⟨by omega, c.1, c.2.1⟩⟩
abbrev sB (σ : pm_S) : Prop := (0 ≤ cI σ 19 ∧ cI σ 19 ≤ 9999) ∧ (0 ≤ (σ.1 133 243).toInt ∧ (σ.1 133 243).toInt ≤ 9999)
abbrev I2 : pm_S → Prop := IKE K2 sB
theorem sB.x : ∀ σ τ, KX K2 σ τ → sB σ → sB τ := fun σ τ h hs => by
  have a := (h (1, 1, 93, 19) (by decide)).2
  have b := (h (34, 1, 133, 243) (by decide)).2
  have a : τ.1 93 19 = σ.1 93 19 := a
  have b : τ.1 133 243 = σ.1 133 243 := b
  show (0 ≤ (τ.1 93 19).toInt ∧ (τ.1 93 19).toInt ≤ 9999) ∧ (0 ≤ (τ.1 133 243).toInt ∧ (τ.1 133 243).toInt ≤ 9999)
  rw [a, b]
  exact hs
theorem sB.i : ∀ σ τ, imE σ τ → sB σ → sB τ := fun σ τ h hs => by
  have a := h 243 (by decide)
  have a1 : τ.1 93 19 = σ.1 93 19 ∨ τ.1 93 19 = σ.1 133 243 := a.1
  have a2 : τ.1 133 243 = σ.1 93 19 ∨ τ.1 133 243 = σ.1 133 243 := a.2
  show (0 ≤ (τ.1 93 19).toInt ∧ (τ.1 93 19).toInt ≤ 9999) ∧ (0 ≤ (τ.1 133 243).toInt ∧ (τ.1 133 243).toInt ≤ 9999)
  refine ⟨?_, ?_⟩
  · rcases a1 with e | e <;> rw [e]
    · exact hs.1
    · exact hs.2
  · rcases a2 with e | e <;> rw [e]
    · exact hs.1
    · exact hs.2
abbrev K2r : KY := [(2, 0, 108, 0), (0, 2, 93, 64), (34, 0, 133, 0), (34, 1, 133, 243), (35, 0, 133, 246)]
theorem K2.mk {G1 G2 : List (Nat × Nat)} {σ τ τ2 : pm_S} (k1 : KC K2r G1 = true) (k2 : KC K2r G2 = true) (F1 : FQ G1 σ τ) (F2 : FQ G2 τ τ2) (he : KE K2 σ) (h1 : (τ2.1 1 0).toInt = (τ2.1 93 1).toInt) (h2 : (τ2.1 1 1).toInt = (τ2.1 93 19).toInt) : KE K2 τ2 :=
  KE.c (q := (1, 0, 93, 1)) h1 (KE.c (q := (1, 1, 93, 19)) h2 ((KX.of k2 F2).ke ((KX.of k1 F1).ke (KE.d (KE.d he).2).2)))
theorem I2.e {σ : pm_S} (h : I2 σ) : (σ.1 1 0).toInt = cI σ 1 ∧ (σ.1 1 1).toInt = cI σ 19 ∧ (σ.1 2 0).toInt = (σ.1 108 0).toInt := ⟨h.1.2.2.g (q := (1, 0, 93, 1)) (by decide), h.1.2.2.g (q := (1, 1, 93, 19)) (by decide), h.1.2.2.g (q := (2, 0, 108, 0)) (by decide)⟩
theorem t2_image (a1 : Int32) (hw : a1 = 0 ∨ a1 = 1) : Two 1 true I2 I2 151 245 [.int a1] := tK_imageE rfl sB.i a1 hw
theorem t2_sunday : Two 1 false I2 I2 139 211 [] := by
  intro σ hI
  obtain ⟨k0, k1, k2⟩ := hI.e
  have gd : 0 ≤ cI σ 19 ∧ cI σ 19 ≤ 9999 := hI.2.1
  refine (xc_sunday (σ.1 2 0).toInt (σ.1 1 0).toInt (cI σ 19) hI.1.1 rfl rfl k1 gd).use (by decide) (fun r τ q => ?_)
  obtain ⟨⟨w, rfl⟩, hB1, F1, q⟩ := q
  have F1 : FQ FCs σ τ := F1
  have hPτ : mP τ := mP93 σ τ (fun p j hp => F1 p j (an_foot93 rfl hp)) hI.1.2.1
  refine ⟨⟨_, rfl⟩, (xm_sunday (σ.1 2 0).toInt (σ.1 1 0).toInt (cI σ 19) hB1 hPτ.1.1 ((F1.c 1 rfl).trans k0.symm) (by rw [F1 108 0 rfl]; exact k2.symm) (F1.c 19 rfl) gd).use (by decide) (fun r2 τ2 p => ?_)⟩
  obtain ⟨⟨w2, rfl⟩, hB2, F2, p⟩ := p
  have F2 : FQ FMs τ τ2 := F2
  have e0 : (τ2.1 1 0).toInt = (τ.1 1 0).toInt := congrArg Int32.toInt (F2 1 0 rfl)
  have e1 : (τ2.1 1 1).toInt = (τ.1 1 1).toInt := congrArg Int32.toInt (F2 1 1 rfl)
  have e3 : (τ2.1 133 243).toInt = (σ.1 133 243).toInt := by rw [F2 133 243 rfl, F1 133 243 rfl]
  have hs := hI.2.2
  refine ⟨⟨_, rfl⟩, fun z => absurd z (by decide), ⟨hB2, mP.fr _ rfl rfl rfl rfl rfl rfl rfl rfl rfl rfl rfl rfl F2 hPτ, K2.mk rfl rfl F1 F2 hI.1.2.2 ?_ ?_⟩, (show 0 ≤ (τ2.1 93 19).toInt ∧ (τ2.1 93 19).toInt ≤ 9999 by omega), (by omega)⟩
  · rcases q with q | q <;> rcases p with p | p <;> omega
  · omega
theorem t2_pass (a1 : Int32) : Two 1 false I2 I2 140 212 [.int a1] := by
  intro σ hI
  obtain ⟨k0, k1, k2⟩ := hI.e
  have gd : 0 ≤ cI σ 19 ∧ cI σ 19 ≤ 9999 := hI.2.1
  rw [← oI a1]
  refine (xc_pass (σ.1 2 0).toInt (σ.1 1 0).toInt (cI σ 19) a1.toInt hI.1.1 (ai_rng a1) rfl rfl k1 gd).use (by decide) (fun r τ q => ?_)
  obtain ⟨⟨w, rfl⟩, hB1, F1, q⟩ := q
  have F1 : FQ FCs σ τ := F1
  have hPτ : mP τ := mP93 σ τ (fun p j hp => F1 p j (an_foot93 rfl hp)) hI.1.2.1
  refine ⟨⟨_, rfl⟩, (xm_pass (σ.1 2 0).toInt (σ.1 1 0).toInt (cI σ 19) a1.toInt hB1 hPτ.1.1 (ai_rng a1) ((F1.c 1 rfl).trans k0.symm) (by rw [F1 108 0 rfl]; exact k2.symm) (F1.c 19 rfl) gd).use (by decide) (fun r2 τ2 p => ?_)⟩
  obtain ⟨⟨w2, rfl⟩, hB2, F2, p⟩ := p
  have F2 : FQ FMs τ τ2 := F2
  have e0 : (τ2.1 1 0).toInt = (τ.1 1 0).toInt := congrArg Int32.toInt (F2 1 0 rfl)
  have e1 : (τ2.1 1 1).toInt = (τ.1 1 1).toInt := congrArg Int32.toInt (F2 1 1 rfl)
  have e3 : (τ2.1 133 243).toInt = (σ.1 133 243).toInt := by rw [F2 133 243 rfl, F1 133 243 rfl]
  have hs := hI.2.2
  refine ⟨⟨_, rfl⟩, fun z => absurd z (by decide), ⟨hB2, mP.fr _ rfl rfl rfl rfl rfl rfl rfl rfl rfl rfl rfl rfl F2 hPτ, K2.mk rfl rfl F1 F2 hI.1.2.2 ?_ ?_⟩, (show 0 ≤ (τ2.1 93 19).toInt ∧ (τ2.1 93 19).toInt ≤ 9999 by omega), (by omega)⟩
  · rcases q with q | q <;> rcases p with p | p <;> omega
  · omega
set_option maxRecDepth 100000 in
theorem sg_cst {σ : pm_S} {Q : Option Value → pm_S → Prop} (x0 x1 : Int) (v2 : Value) (hv2 : v2.category = 1) (hB : an_GB pm_B σ) (eF : ((-2147483648) ≤ x0 ∧ x0 ≤ 2147483647) ∧ ((-2147483648) ≤ x1 ∧ x1 ≤ 2147483647) ∧ True) (eC : (σ.1 1 0).toInt = x1 ∧ True)
    (l0 : ∀ (τ : pm_S) (y : Nat → Int), an_GB pm_B τ → FQ [(1, 0)] σ τ → (((-2147483648) ≤ x0 ∧ x0 ≤ 2147483647) ∧ ((-2147483648) ≤ x1 ∧ x1 ≤ 2147483647) ∧ True) → (True) → (True) → ((τ.1 1 0).toInt = x0 ∧ True) → Q (some (.int (Int32.ofInt (x1)))) τ)
    : Ok 128 21 0 [.ref 0, .int (Int32.ofInt (x0)), v2] [] σ Q := by
  refine an_seg (B := pm_B) (F := [(1, 0)]) (T := []) (S := []) (fun _ h => absurd h List.not_mem_nil) (k := 128) (d := 20) (cs := []) 12 0 2 [(0, (-2147483648), 2147483647), (1, (-2147483648), 2147483647)] [(1, (1, 0, 0), (0, 1, 0))] [(2, 0, 0), (0, 0, 0), (5, 0, 0)] [] [(9999, [], [(0, 1, 0)], [(0, (-2147483648), 2147483647), (1, (-2147483648), 2147483647)], [], [], [(1, (1, 0, 0), (0, 0, 0))])] (by decide +kernel) (ρ0 := (fun s => [x0, x1].getD s 0)) hB eF eC ⟨rfl, ⟨rfl, ⟨hv2, trivial⟩⟩⟩ trivial ?_
  refine List.forall_mem_cons.mpr ⟨?_, fun _ h => absurd h List.not_mem_nil⟩
  · intro ρ τ Lc stc hx g1 g2 g3 g4 g5 g6 g7 g8
    have e0 : ρ 0 = x0 := hx 0 (by decide)
    have e1 : ρ 1 = x1 := hx 1 (by decide)
    subst e0
    subst e1
    match stc, g8 with
    | [_], ⟨h, _⟩ => cases h; exact l0 τ ρ g1 g2 g3 g4 g5 g6
set_option maxRecDepth 100000 in
theorem sg_mst {σ : pm_S} {Q : Option Value → pm_S → Prop} (x0 x1 : Int) (v2 : Value) (hv2 : v2.category = 1) (hB : an_GB pm_B σ) (eF : ((-2147483648) ≤ x0 ∧ x0 ≤ 2147483647) ∧ ((-2147483648) ≤ x1 ∧ x1 ≤ 2147483647) ∧ True) (eC : (σ.1 93 1).toInt = x1 ∧ True)
    (l0 : ∀ (τ : pm_S) (y : Nat → Int), an_GB pm_B τ → FQ [(93, 0), (93, 1)] σ τ → (((-2147483648) ≤ x0 ∧ x0 ≤ 2147483647) ∧ ((-2147483648) ≤ x1 ∧ x1 ≤ 2147483647) ∧ True) → (True) → (True) → ((τ.1 93 1).toInt = x0 ∧ True) → Q (some (.int (Int32.ofInt (x1)))) τ)
    : Ok 161 21 0 [.ref 93, .int (Int32.ofInt (x0)), v2] [] σ Q := by
  refine an_seg (B := pm_B) (F := [(93, 0), (93, 1)]) (T := []) (S := []) (fun _ h => absurd h List.not_mem_nil) (k := 161) (d := 20) (cs := []) 13 0 2 [(0, (-2147483648), 2147483647), (1, (-2147483648), 2147483647)] [(93, (1, 0, 1), (0, 1, 0))] [(2, 93, 0), (0, 0, 0), (5, 0, 0)] [] [(9999, [], [(0, 1, 0)], [(0, (-2147483648), 2147483647), (1, (-2147483648), 2147483647)], [], [], [(93, (1, 0, 1), (0, 0, 0))])] (by decide +kernel) (ρ0 := (fun s => [x0, x1].getD s 0)) hB eF eC ⟨rfl, ⟨rfl, ⟨hv2, trivial⟩⟩⟩ trivial ?_
  refine List.forall_mem_cons.mpr ⟨?_, fun _ h => absurd h List.not_mem_nil⟩
  · intro ρ τ Lc stc hx g1 g2 g3 g4 g5 g6 g7 g8
    have e0 : ρ 0 = x0 := hx 0 (by decide)
    have e1 : ρ 1 = x1 := hx 1 (by decide)
    subst e0
    subst e1
    match stc, g8 with
    | [_], ⟨h, _⟩ => cases h; exact l0 τ ρ g1 g2 g3 g4 g5 g6
theorem t2_state (a1 : Int32) : Two 1 true I2 I2 128 161 [.int a1] := by
  intro σ hI
  obtain ⟨k0, k1, k2⟩ := hI.e
  refine Sp.up (D := 21) ?_ (by decide)
  refine Sp.at rfl rfl ?_
  rw [← oI a1]
  refine sg_cst a1.toInt (cI σ 1) _ rfl hI.1.1 ⟨ai_rng a1, ai_rng _, trivial⟩ ⟨k0, trivial⟩ ?_
  intro τ y hB1 F1 _ _ _ c
  have hPτ : mP τ := mP93 σ τ (fun p j hp => F1 p j (an_foot93 rfl hp)) hI.1.2.1
  refine ⟨⟨_, rfl⟩, Sp.up (D := 21) ?_ (by decide)⟩
  refine Sp.at rfl rfl ?_
  refine sg_mst a1.toInt (cI σ 1) _ rfl hB1 ⟨ai_rng a1, ai_rng _, trivial⟩ ⟨F1.c 1 rfl, trivial⟩ ?_
  intro τ2 y2 hB2 F2 _ _ _ c2
  refine ⟨⟨_, rfl⟩, fun _ => rfl, ⟨hB2, mP.fr _ rfl rfl rfl rfl rfl rfl rfl rfl rfl rfl rfl rfl F2 hPτ, K2.mk rfl rfl F1 F2 hI.1.2.2 ?_ ?_⟩, ?_, ?_⟩
  · rw [F2 1 0 rfl]
    exact c.1.trans c2.1.symm
  · rw [F2 1 1 rfl, F1 1 1 rfl, F2 93 19 rfl, F1 93 19 rfl]
    exact k1
  · have e : cI τ2 19 = cI σ 19 := (F2.c 19 rfl).trans (F1.c 19 rfl)
    rw [e]
    exact hI.2.1
  · rw [F2 133 243 rfl, F1 133 243 rfl]
    exact hI.2.2
set_option maxRecDepth 100000 in
theorem sg_csetn {σ : pm_S} {Q : Option Value → pm_S → Prop} (x0 x1 x2 : Int)  (hB : an_GB pm_B σ) (eF : ((-2147483648) ≤ x0 ∧ x0 ≤ 2147483647) ∧ (0 ≤ x1 ∧ x1 ≤ 100) ∧ ((-2147483648) ≤ x2 ∧ x2 ≤ (-1)) ∧ True) (eC : (σ.1 2 0).toInt = x1 ∧ True)
    (l0 : ∀ (τ : pm_S) (y : Nat → Int), an_GB pm_B τ → FQ [] σ τ → (((-2147483648) ≤ x0 ∧ x0 ≤ 2147483647) ∧ (0 ≤ x1 ∧ x1 ≤ 100) ∧ ((-2147483648) ≤ x2 ∧ x2 ≤ (-1)) ∧ True) → (True) → (True) → ((τ.1 2 0).toInt = x1 ∧ True) → Q (some (.int (Int32.ofInt 0))) τ)
    : Ok 133 21 0 [.ref 0, .int (Int32.ofInt (x2)), .int (Int32.ofInt (x0))] [] σ Q := by
  refine an_seg (B := pm_B) (F := []) (T := [2]) (S := []) (fun _ h => absurd h List.not_mem_nil) (k := 133) (d := 20) (cs := []) 12 0 3 [(0, (-2147483648), 2147483647), (1, 0, 100), (2, (-2147483648), (-1))] [(2, (1, 0, 0), (0, 1, 0))] [(2, 0, 0), (0, 2, 0), (0, 0, 0)] [] [(9999, [], [(1, 0, 0)], [(0, (-2147483648), 2147483647), (1, 0, 100), (2, (-2147483648), (-1))], [], [], [(2, (1, 0, 0), (0, 1, 0))])] (by decide +kernel) (ρ0 := (fun s => [x0, x1, x2].getD s 0)) hB eF eC ⟨rfl, ⟨rfl, ⟨rfl, trivial⟩⟩⟩ trivial ?_
  refine List.forall_mem_cons.mpr ⟨?_, fun _ h => absurd h List.not_mem_nil⟩
  · intro ρ τ Lc stc hx g1 g2 g3 g4 g5 g6 g7 g8
    have e0 : ρ 0 = x0 := hx 0 (by decide)
    have e1 : ρ 1 = x1 := hx 1 (by decide)
    have e2 : ρ 2 = x2 := hx 2 (by decide)
    subst e0
    subst e1
    subst e2
    match stc, g8 with
    | [_], ⟨h, _⟩ => cases h; exact l0 τ ρ g1 g2 g3 g4 g5 g6
set_option maxRecDepth 100000 in
theorem sg_msetn {σ : pm_S} {Q : Option Value → pm_S → Prop} (x0 x1 x2 : Int)  (hB : an_GB pm_B σ) (eF : ((-2147483648) ≤ x0 ∧ x0 ≤ 2147483647) ∧ (0 ≤ x1 ∧ x1 ≤ 100) ∧ ((-2147483648) ≤ x2 ∧ x2 ≤ (-1)) ∧ True) (eC : (σ.1 108 0).toInt = x1 ∧ True)
    (l0 : ∀ (τ : pm_S) (y : Nat → Int), an_GB pm_B τ → FQ [(93, 0)] σ τ → (((-2147483648) ≤ x0 ∧ x0 ≤ 2147483647) ∧ (0 ≤ x1 ∧ x1 ≤ 100) ∧ ((-2147483648) ≤ x2 ∧ x2 ≤ (-1)) ∧ True) → (True) → (True) → ((τ.1 108 0).toInt = x1 ∧ True) → Q (some (.int (Int32.ofInt 0))) τ)
    : Ok 172 21 0 [.ref 93, .int (Int32.ofInt (x2)), .int (Int32.ofInt (x0))] [] σ Q := by
  refine an_seg (B := pm_B) (F := [(93, 0)]) (T := [108]) (S := []) (fun _ h => absurd h List.not_mem_nil) (k := 172) (d := 20) (cs := []) 18 0 3 [(0, (-2147483648), 2147483647), (1, 0, 100), (2, (-2147483648), (-1))] [(108, (1, 0, 0), (0, 1, 0))] [(2, 93, 0), (0, 2, 0), (0, 0, 0)] [] [(9999, [], [(1, 0, 0)], [(0, (-2147483648), 2147483647), (1, 0, 100), (2, (-2147483648), (-1))], [], [], [(108, (1, 0, 0), (0, 1, 0))])] (by decide +kernel) (ρ0 := (fun s => [x0, x1, x2].getD s 0)) hB eF eC ⟨rfl, ⟨rfl, ⟨rfl, trivial⟩⟩⟩ trivial ?_
  refine List.forall_mem_cons.mpr ⟨?_, fun _ h => absurd h List.not_mem_nil⟩
  · intro ρ τ Lc stc hx g1 g2 g3 g4 g5 g6 g7 g8
    have e0 : ρ 0 = x0 := hx 0 (by decide)
    have e1 : ρ 1 = x1 := hx 1 (by decide)
    have e2 : ρ 2 = x2 := hx 2 (by decide)
    subst e0
    subst e1
    subst e2
    match stc, g8 with
    | [_], ⟨h, _⟩ => cases h; exact l0 τ ρ g1 g2 g3 g4 g5 g6
set_option maxRecDepth 100000 in
theorem sg_cset0 {σ : pm_S} {Q : Option Value → pm_S → Prop} (x0 x1 : Int)  (hB : an_GB pm_B σ) (eF : ((-2147483648) ≤ x0 ∧ x0 ≤ 2147483647) ∧ (0 ≤ x1 ∧ x1 ≤ 100) ∧ True) (eC : (σ.1 2 0).toInt = x1 ∧ True)
    (l0 : ∀ (τ : pm_S) (y : Nat → Int), an_GB pm_B τ → FQ [(2, 9999)] σ τ → (((-2147483648) ≤ x0 ∧ x0 ≤ (-1)) ∧ (0 ≤ x1 ∧ x1 ≤ 100) ∧ True) → (True) → (True) → ((τ.1 2 0).toInt = x1 ∧ True) → Q (some (.int (Int32.ofInt 0))) τ)
    (l1 : ∀ (τ : pm_S) (y : Nat → Int), an_GB pm_B τ → FQ [(2, 9999)] σ τ → ((0 ≤ x0 ∧ x0 ≤ 100) ∧ (0 ≤ x1 ∧ x1 ≤ 100) ∧ True) → (True) → (True) → ((τ.1 2 0).toInt = x0 ∧ True) → Q (some (.int (Int32.ofInt 1))) τ)
    (l2 : ∀ (τ : pm_S) (y : Nat → Int), an_GB pm_B τ → FQ [(2, 9999)] σ τ → ((101 ≤ x0 ∧ x0 ≤ 2147483647) ∧ (0 ≤ x1 ∧ x1 ≤ 100) ∧ True) → (True) → (True) → ((τ.1 2 0).toInt = x1 ∧ True) → Q (some (.int (Int32.ofInt 0))) τ)
    : Ok 133 21 0 [.ref 0, .int (Int32.ofInt 0), .int (Int32.ofInt (x0))] [] σ Q := by
  refine an_seg (B := pm_B) (F := [(2, 9999)]) (T := [2]) (S := []) (fun _ h => absurd h List.not_mem_nil) (k := 133) (d := 20) (cs := []) 37 0 2 [(0, (-2147483648), 2147483647), (1, 0, 100)] [(2, (1, 0, 0), (0, 1, 0))] [(2, 0, 0), (1, 0, 0), (0, 0, 0)] [] [(9999, [], [(1, 0, 0)], [(0, (-2147483648), (-1)), (1, 0, 100)], [], [], [(2, (1, 0, 0), (0, 1, 0))]),
    (9999, [], [(1, 0, 1)], [(0, 0, 100), (1, 0, 100)], [], [], [(2, (1, 0, 0), (0, 0, 0))]),
    (9999, [], [(1, 0, 0)], [(0, 101, 2147483647), (1, 0, 100)], [], [], [(2, (1, 0, 0), (0, 1, 0))])] (by decide +kernel) (ρ0 := (fun s => [x0, x1].getD s 0)) hB eF eC ⟨rfl, ⟨rfl, ⟨rfl, trivial⟩⟩⟩ trivial ?_
  refine List.forall_mem_cons.mpr ⟨?_, List.forall_mem_cons.mpr ⟨?_, List.forall_mem_cons.mpr ⟨?_, fun _ h => absurd h List.not_mem_nil⟩⟩⟩
  · intro ρ τ Lc stc hx g1 g2 g3 g4 g5 g6 g7 g8
    have e0 : ρ 0 = x0 := hx 0 (by decide)
    have e1 : ρ 1 = x1 := hx 1 (by decide)
    subst e0
    subst e1
    match stc, g8 with
    | [_], ⟨h, _⟩ => cases h; exact l0 τ ρ g1 g2 g3 g4 g5 g6
  · intro ρ τ Lc stc hx g1 g2 g3 g4 g5 g6 g7 g8
    have e0 : ρ 0 = x0 := hx 0 (by decide)
    have e1 : ρ 1 = x1 := hx 1 (by decide)
    subst e0
    subst e1
    match stc, g8 with
    | [_], ⟨h, _⟩ => cases h; exact l1 τ ρ g1 g2 g3 g4 g5 g6
  · intro ρ τ Lc stc hx g1 g2 g3 g4 g5 g6 g7 g8
    have e0 : ρ 0 = x0 := hx 0 (by decide)
    have e1 : ρ 1 = x1 := hx 1 (by decide)
    subst e0
    subst e1
    match stc, g8 with
    | [_], ⟨h, _⟩ => cases h; exact l2 τ ρ g1 g2 g3 g4 g5 g6
set_option maxRecDepth 100000 in
theorem sg_mset0 {σ : pm_S} {Q : Option Value → pm_S → Prop} (x0 x1 : Int)  (hB : an_GB pm_B σ) (eF : ((-2147483648) ≤ x0 ∧ x0 ≤ 2147483647) ∧ (0 ≤ x1 ∧ x1 ≤ 100) ∧ True) (eC : (σ.1 108 0).toInt = x1 ∧ True)
    (l0 : ∀ (τ : pm_S) (y : Nat → Int), an_GB pm_B τ → FQ [(93, 0), (108, 9999)] σ τ → (((-2147483648) ≤ x0 ∧ x0 ≤ (-1)) ∧ (0 ≤ x1 ∧ x1 ≤ 100) ∧ True) → (True) → (True) → ((τ.1 108 0).toInt = x1 ∧ True) → Q (some (.int (Int32.ofInt 0))) τ)
    (l1 : ∀ (τ : pm_S) (y : Nat → Int), an_GB pm_B τ → FQ [(93, 0), (108, 9999)] σ τ → ((101 ≤ x0 ∧ x0 ≤ 2147483647) ∧ (0 ≤ x1 ∧ x1 ≤ 100) ∧ True) → (True) → (True) → ((τ.1 108 0).toInt = x1 ∧ True) → Q (some (.int (Int32.ofInt 0))) τ)
    (l2 : ∀ (τ : pm_S) (y : Nat → Int), an_GB pm_B τ → FQ [(93, 0), (108, 9999)] σ τ → ((0 ≤ x0 ∧ x0 ≤ 100) ∧ (0 ≤ x1 ∧ x1 ≤ 100) ∧ True) → (True) → (True) → ((τ.1 108 0).toInt = x0 ∧ True) → Q (some (.int (Int32.ofInt 1))) τ)
    : Ok 172 21 0 [.ref 93, .int (Int32.ofInt 0), .int (Int32.ofInt (x0))] [] σ Q := by
  refine an_seg (B := pm_B) (F := [(93, 0), (108, 9999)]) (T := [108]) (S := []) (fun _ h => absurd h List.not_mem_nil) (k := 172) (d := 20) (cs := []) 56 0 2 [(0, (-2147483648), 2147483647), (1, 0, 100)] [(108, (1, 0, 0), (0, 1, 0))] [(2, 93, 0), (1, 0, 0), (0, 0, 0)] [] [(9999, [], [(1, 0, 0)], [(0, (-2147483648), (-1)), (1, 0, 100)], [], [], [(108, (1, 0, 0), (0, 1, 0))]),
    (9999, [], [(1, 0, 0)], [(0, 101, 2147483647), (1, 0, 100)], [], [], [(108, (1, 0, 0), (0, 1, 0))]),
    (9999, [], [(1, 0, 1)], [(0, 0, 100), (1, 0, 100)], [], [], [(108, (1, 0, 0), (0, 0, 0))])] (by decide +kernel) (ρ0 := (fun s => [x0, x1].getD s 0)) hB eF eC ⟨rfl, ⟨rfl, ⟨rfl, trivial⟩⟩⟩ trivial ?_
  refine List.forall_mem_cons.mpr ⟨?_, List.forall_mem_cons.mpr ⟨?_, List.forall_mem_cons.mpr ⟨?_, fun _ h => absurd h List.not_mem_nil⟩⟩⟩
  · intro ρ τ Lc stc hx g1 g2 g3 g4 g5 g6 g7 g8
    have e0 : ρ 0 = x0 := hx 0 (by decide)
    have e1 : ρ 1 = x1 := hx 1 (by decide)
    subst e0
    subst e1
    match stc, g8 with
    | [_], ⟨h, _⟩ => cases h; exact l0 τ ρ g1 g2 g3 g4 g5 g6
  · intro ρ τ Lc stc hx g1 g2 g3 g4 g5 g6 g7 g8
    have e0 : ρ 0 = x0 := hx 0 (by decide)
    have e1 : ρ 1 = x1 := hx 1 (by decide)
    subst e0
    subst e1
    match stc, g8 with
    | [_], ⟨h, _⟩ => cases h; exact l1 τ ρ g1 g2 g3 g4 g5 g6
  · intro ρ τ Lc stc hx g1 g2 g3 g4 g5 g6 g7 g8
    have e0 : ρ 0 = x0 := hx 0 (by decide)
    have e1 : ρ 1 = x1 := hx 1 (by decide)
    subst e0
    subst e1
    match stc, g8 with
    | [_], ⟨h, _⟩ => cases h; exact l2 τ ρ g1 g2 g3 g4 g5 g6
set_option maxRecDepth 100000 in
theorem sg_cset1 {σ : pm_S} {Q : Option Value → pm_S → Prop} (x0 x1 : Int)  (hB : an_GB pm_B σ) (eF : ((-2147483648) ≤ x0 ∧ x0 ≤ 2147483647) ∧ (0 ≤ x1 ∧ x1 ≤ 100) ∧ True) (eC : (σ.1 2 0).toInt = x1 ∧ True)
    (l0 : ∀ (τ : pm_S) (y : Nat → Int), an_GB pm_B τ → FQ [(2, 9999)] σ τ → (((-2147483648) ≤ x0 ∧ x0 ≤ (-1)) ∧ (0 ≤ x1 ∧ x1 ≤ 100) ∧ True) → (True) → (True) → ((τ.1 2 0).toInt = x1 ∧ True) → Q (some (.int (Int32.ofInt 0))) τ)
    (l1 : ∀ (τ : pm_S) (y : Nat → Int), an_GB pm_B τ → FQ [(2, 9999)] σ τ → ((0 ≤ x0 ∧ x0 ≤ 99) ∧ (0 ≤ x1 ∧ x1 ≤ 100) ∧ True) → (True) → (True) → ((τ.1 2 0).toInt = x1 ∧ True) → Q (some (.int (Int32.ofInt 1))) τ)
    (l2 : ∀ (τ : pm_S) (y : Nat → Int), an_GB pm_B τ → FQ [(2, 9999)] σ τ → ((100 ≤ x0 ∧ x0 ≤ 2147483647) ∧ (0 ≤ x1 ∧ x1 ≤ 100) ∧ True) → (True) → (True) → ((τ.1 2 0).toInt = x1 ∧ True) → Q (some (.int (Int32.ofInt 0))) τ)
    : Ok 133 21 0 [.ref 0, .int (Int32.ofInt 1), .int (Int32.ofInt (x0))] [] σ Q := by
  refine an_seg (B := pm_B) (F := [(2, 9999)]) (T := [2]) (S := []) (fun _ h => absurd h List.not_mem_nil) (k := 133) (d := 20) (cs := []) 37 0 2 [(0, (-2147483648), 2147483647), (1, 0, 100)] [(2, (1, 0, 0), (0, 1, 0))] [(2, 0, 0), (1, 0, 1), (0, 0, 0)] [] [(9999, [], [(1, 0, 0)], [(0, (-2147483648), (-1)), (1, 0, 100)], [], [], [(2, (1, 0, 0), (0, 1, 0))]),
    (9999, [], [(1, 0, 1)], [(0, 0, 99), (1, 0, 100)], [], [], [(2, (1, 0, 0), (0, 1, 0))]),
    (9999, [], [(1, 0, 0)], [(0, 100, 2147483647), (1, 0, 100)], [], [], [(2, (1, 0, 0), (0, 1, 0))])] (by decide +kernel) (ρ0 := (fun s => [x0, x1].getD s 0)) hB eF eC ⟨rfl, ⟨rfl, ⟨rfl, trivial⟩⟩⟩ trivial ?_
  refine List.forall_mem_cons.mpr ⟨?_, List.forall_mem_cons.mpr ⟨?_, List.forall_mem_cons.mpr ⟨?_, fun _ h => absurd h List.not_mem_nil⟩⟩⟩
  · intro ρ τ Lc stc hx g1 g2 g3 g4 g5 g6 g7 g8
    have e0 : ρ 0 = x0 := hx 0 (by decide)
    have e1 : ρ 1 = x1 := hx 1 (by decide)
    subst e0
    subst e1
    match stc, g8 with
    | [_], ⟨h, _⟩ => cases h; exact l0 τ ρ g1 g2 g3 g4 g5 g6
  · intro ρ τ Lc stc hx g1 g2 g3 g4 g5 g6 g7 g8
    have e0 : ρ 0 = x0 := hx 0 (by decide)
    have e1 : ρ 1 = x1 := hx 1 (by decide)
    subst e0
    subst e1
    match stc, g8 with
    | [_], ⟨h, _⟩ => cases h; exact l1 τ ρ g1 g2 g3 g4 g5 g6
  · intro ρ τ Lc stc hx g1 g2 g3 g4 g5 g6 g7 g8
    have e0 : ρ 0 = x0 := hx 0 (by decide)
    have e1 : ρ 1 = x1 := hx 1 (by decide)
    subst e0
    subst e1
    match stc, g8 with
    | [_], ⟨h, _⟩ => cases h; exact l2 τ ρ g1 g2 g3 g4 g5 g6
set_option maxRecDepth 100000 in
theorem sg_mset1 {σ : pm_S} {Q : Option Value → pm_S → Prop} (x0 x1 : Int)  (hB : an_GB pm_B σ) (eF : ((-2147483648) ≤ x0 ∧ x0 ≤ 2147483647) ∧ (0 ≤ x1 ∧ x1 ≤ 100) ∧ True) (eC : (σ.1 108 0).toInt = x1 ∧ True)
    (l0 : ∀ (τ : pm_S) (y : Nat → Int), an_GB pm_B τ → FQ [(93, 0), (108, 9999)] σ τ → (((-2147483648) ≤ x0 ∧ x0 ≤ (-1)) ∧ (0 ≤ x1 ∧ x1 ≤ 100) ∧ True) → (True) → (True) → ((τ.1 108 0).toInt = x1 ∧ True) → Q (some (.int (Int32.ofInt 0))) τ)
    (l1 : ∀ (τ : pm_S) (y : Nat → Int), an_GB pm_B τ → FQ [(93, 0), (108, 9999)] σ τ → ((100 ≤ x0 ∧ x0 ≤ 2147483647) ∧ (0 ≤ x1 ∧ x1 ≤ 100) ∧ True) → (True) → (True) → ((τ.1 108 0).toInt = x1 ∧ True) → Q (some (.int (Int32.ofInt 0))) τ)
    (l2 : ∀ (τ : pm_S) (y : Nat → Int), an_GB pm_B τ → FQ [(93, 0), (108, 9999)] σ τ → ((0 ≤ x0 ∧ x0 ≤ 99) ∧ (0 ≤ x1 ∧ x1 ≤ 100) ∧ True) → (True) → (True) → ((τ.1 108 0).toInt = x1 ∧ True) → Q (some (.int (Int32.ofInt 1))) τ)
    : Ok 172 21 0 [.ref 93, .int (Int32.ofInt 1), .int (Int32.ofInt (x0))] [] σ Q := by
  refine an_seg (B := pm_B) (F := [(93, 0), (108, 9999)]) (T := [108]) (S := []) (fun _ h => absurd h List.not_mem_nil) (k := 172) (d := 20) (cs := []) 59 0 2 [(0, (-2147483648), 2147483647), (1, 0, 100)] [(108, (1, 0, 0), (0, 1, 0))] [(2, 93, 0), (1, 0, 1), (0, 0, 0)] [] [(9999, [], [(1, 0, 0)], [(0, (-2147483648), (-1)), (1, 0, 100)], [], [], [(108, (1, 0, 0), (0, 1, 0))]),
    (9999, [], [(1, 0, 0)], [(0, 100, 2147483647), (1, 0, 100)], [], [], [(108, (1, 0, 0), (0, 1, 0))]),
    (9999, [], [(1, 0, 1)], [(0, 0, 99), (1, 0, 100)], [], [], [(108, (1, 0, 0), (0, 1, 0))])] (by decide +kernel) (ρ0 := (fun s => [x0, x1].getD s 0)) hB eF eC ⟨rfl, ⟨rfl, ⟨rfl, trivial⟩⟩⟩ trivial ?_
  refine List.forall_mem_cons.mpr ⟨?_, List.forall_mem_cons.mpr ⟨?_, List.forall_mem_cons.mpr ⟨?_, fun _ h => absurd h List.not_mem_nil⟩⟩⟩
  · intro ρ τ Lc stc hx g1 g2 g3 g4 g5 g6 g7 g8
    have e0 : ρ 0 = x0 := hx 0 (by decide)
    have e1 : ρ 1 = x1 := hx 1 (by decide)
    subst e0
    subst e1
    match stc, g8 with
    | [_], ⟨h, _⟩ => cases h; exact l0 τ ρ g1 g2 g3 g4 g5 g6
  · intro ρ τ Lc stc hx g1 g2 g3 g4 g5 g6 g7 g8
    have e0 : ρ 0 = x0 := hx 0 (by decide)
    have e1 : ρ 1 = x1 := hx 1 (by decide)
    subst e0
    subst e1
    match stc, g8 with
    | [_], ⟨h, _⟩ => cases h; exact l1 τ ρ g1 g2 g3 g4 g5 g6
  · intro ρ τ Lc stc hx g1 g2 g3 g4 g5 g6 g7 g8
    have e0 : ρ 0 = x0 := hx 0 (by decide)
    have e1 : ρ 1 = x1 := hx 1 (by decide)
    subst e0
    subst e1
    match stc, g8 with
    | [_], ⟨h, _⟩ => cases h; exact l2 τ ρ g1 g2 g3 g4 g5 g6
set_option maxRecDepth 100000 in
theorem sg_cset2 {σ : pm_S} {Q : Option Value → pm_S → Prop} (x0 x1 : Int)  (hB : an_GB pm_B σ) (eF : ((-2147483648) ≤ x0 ∧ x0 ≤ 2147483647) ∧ (0 ≤ x1 ∧ x1 ≤ 100) ∧ True) (eC : (σ.1 2 0).toInt = x1 ∧ True)
    (l0 : ∀ (τ : pm_S) (y : Nat → Int), an_GB pm_B τ → FQ [(2, 9999)] σ τ → (((-2147483648) ≤ x0 ∧ x0 ≤ (-1)) ∧ (0 ≤ x1 ∧ x1 ≤ 100) ∧ True) → (True) → (True) → ((τ.1 2 0).toInt = x1 ∧ True) → Q (some (.int (Int32.ofInt 0))) τ)
    (l1 : ∀ (τ : pm_S) (y : Nat → Int), an_GB pm_B τ → FQ [(2, 9999)] σ τ → ((0 ≤ x0 ∧ x0 ≤ 1) ∧ (0 ≤ x1 ∧ x1 ≤ 100) ∧ True) → (True) → (True) → ((τ.1 2 0).toInt = x1 ∧ True) → Q (some (.int (Int32.ofInt 1))) τ)
    (l2 : ∀ (τ : pm_S) (y : Nat → Int), an_GB pm_B τ → FQ [(2, 9999)] σ τ → ((2 ≤ x0 ∧ x0 ≤ 2147483647) ∧ (0 ≤ x1 ∧ x1 ≤ 100) ∧ True) → (True) → (True) → ((τ.1 2 0).toInt = x1 ∧ True) → Q (some (.int (Int32.ofInt 0))) τ)
    : Ok 133 21 0 [.ref 0, .int (Int32.ofInt 2), .int (Int32.ofInt (x0))] [] σ Q := by
  refine an_seg (B := pm_B) (F := [(2, 9999)]) (T := [2]) (S := []) (fun _ h => absurd h List.not_mem_nil) (k := 133) (d := 20) (cs := []) 37 0 2 [(0, (-2147483648), 2147483647), (1, 0, 100)] [(2, (1, 0, 0), (0, 1, 0))] [(2, 0, 0), (1, 0, 2), (0, 0, 0)] [] [(9999, [], [(1, 0, 0)], [(0, (-2147483648), (-1)), (1, 0, 100)], [], [], [(2, (1, 0, 0), (0, 1, 0))]),
    (9999, [], [(1, 0, 1)], [(0, 0, 1), (1, 0, 100)], [], [], [(2, (1, 0, 0), (0, 1, 0))]),
    (9999, [], [(1, 0, 0)], [(0, 2, 2147483647), (1, 0, 100)], [], [], [(2, (1, 0, 0), (0, 1, 0))])] (by decide +kernel) (ρ0 := (fun s => [x0, x1].getD s 0)) hB eF eC ⟨rfl, ⟨rfl, ⟨rfl, trivial⟩⟩⟩ trivial ?_
  refine List.forall_mem_cons.mpr ⟨?_, List.forall_mem_cons.mpr ⟨?_, List.forall_mem_cons.mpr ⟨?_, fun _ h => absurd h List.not_mem_nil⟩⟩⟩
  · intro ρ τ Lc stc hx g1 g2 g3 g4 g5 g6 g7 g8
    have e0 : ρ 0 = x0 := hx 0 (by decide)
    have e1 : ρ 1 = x1 := hx 1 (by decide)
    subst e0
    subst e1
    match stc, g8 with
    | [_], ⟨h, _⟩ => cases h; exact l0 τ ρ g1 g2 g3 g4 g5 g6
  · intro ρ τ Lc stc hx g1 g2 g3 g4 g5 g6 g7 g8
    have e0 : ρ 0 = x0 := hx 0 (by decide)
    have e1 : ρ 1 = x1 := hx 1 (by decide)
    subst e0
    subst e1
    match stc, g8 with
    | [_], ⟨h, _⟩ => cases h; exact l1 τ ρ g1 g2 g3 g4 g5 g6
  · intro ρ τ Lc stc hx g1 g2 g3 g4 g5 g6 g7 g8
    have e0 : ρ 0 = x0 := hx 0 (by decide)
    have e1 : ρ 1 = x1 := hx 1 (by decide)
    subst e0
    subst e1
    match stc, g8 with
    | [_], ⟨h, _⟩ => cases h; exact l2 τ ρ g1 g2 g3 g4 g5 g6
set_option maxRecDepth 100000 in
theorem sg_mset2 {σ : pm_S} {Q : Option Value → pm_S → Prop} (x0 x1 : Int)  (hB : an_GB pm_B σ) (eF : ((-2147483648) ≤ x0 ∧ x0 ≤ 2147483647) ∧ (0 ≤ x1 ∧ x1 ≤ 100) ∧ True) (eC : (σ.1 108 0).toInt = x1 ∧ True)
    (l0 : ∀ (τ : pm_S) (y : Nat → Int), an_GB pm_B τ → FQ [(93, 0), (108, 9999)] σ τ → (((-2147483648) ≤ x0 ∧ x0 ≤ (-1)) ∧ (0 ≤ x1 ∧ x1 ≤ 100) ∧ True) → (True) → (True) → ((τ.1 108 0).toInt = x1 ∧ True) → Q (some (.int (Int32.ofInt 0))) τ)
    (l1 : ∀ (τ : pm_S) (y : Nat → Int), an_GB pm_B τ → FQ [(93, 0), (108, 9999)] σ τ → ((2 ≤ x0 ∧ x0 ≤ 2147483647) ∧ (0 ≤ x1 ∧ x1 ≤ 100) ∧ True) → (True) → (True) → ((τ.1 108 0).toInt = x1 ∧ True) → Q (some (.int (Int32.ofInt 0))) τ)
    (l2 : ∀ (τ : pm_S) (y : Nat → Int), an_GB pm_B τ → FQ [(93, 0), (108, 9999)] σ τ → ((0 ≤ x0 ∧ x0 ≤ 1) ∧ (0 ≤ x1 ∧ x1 ≤ 100) ∧ True) → (True) → (True) → ((τ.1 108 0).toInt = x1 ∧ True) → Q (some (.int (Int32.ofInt 1))) τ)
    : Ok 172 21 0 [.ref 93, .int (Int32.ofInt 2), .int (Int32.ofInt (x0))] [] σ Q := by
  refine an_seg (B := pm_B) (F := [(93, 0), (108, 9999)]) (T := [108]) (S := []) (fun _ h => absurd h List.not_mem_nil) (k := 172) (d := 20) (cs := []) 62 0 2 [(0, (-2147483648), 2147483647), (1, 0, 100)] [(108, (1, 0, 0), (0, 1, 0))] [(2, 93, 0), (1, 0, 2), (0, 0, 0)] [] [(9999, [], [(1, 0, 0)], [(0, (-2147483648), (-1)), (1, 0, 100)], [], [], [(108, (1, 0, 0), (0, 1, 0))]),
    (9999, [], [(1, 0, 0)], [(0, 2, 2147483647), (1, 0, 100)], [], [], [(108, (1, 0, 0), (0, 1, 0))]),
    (9999, [], [(1, 0, 1)], [(0, 0, 1), (1, 0, 100)], [], [], [(108, (1, 0, 0), (0, 1, 0))])] (by decide +kernel) (ρ0 := (fun s => [x0, x1].getD s 0)) hB eF eC ⟨rfl, ⟨rfl, ⟨rfl, trivial⟩⟩⟩ trivial ?_
  refine List.forall_mem_cons.mpr ⟨?_, List.forall_mem_cons.mpr ⟨?_, List.forall_mem_cons.mpr ⟨?_, fun _ h => absurd h List.not_mem_nil⟩⟩⟩
  · intro ρ τ Lc stc hx g1 g2 g3 g4 g5 g6 g7 g8
    have e0 : ρ 0 = x0 := hx 0 (by decide)
    have e1 : ρ 1 = x1 := hx 1 (by decide)
    subst e0
    subst e1
    match stc, g8 with
    | [_], ⟨h, _⟩ => cases h; exact l0 τ ρ g1 g2 g3 g4 g5 g6
  · intro ρ τ Lc stc hx g1 g2 g3 g4 g5 g6 g7 g8
    have e0 : ρ 0 = x0 := hx 0 (by decide)
    have e1 : ρ 1 = x1 := hx 1 (by decide)
    subst e0
    subst e1
    match stc, g8 with
    | [_], ⟨h, _⟩ => cases h; exact l1 τ ρ g1 g2 g3 g4 g5 g6
  · intro ρ τ Lc stc hx g1 g2 g3 g4 g5 g6 g7 g8
    have e0 : ρ 0 = x0 := hx 0 (by decide)
    have e1 : ρ 1 = x1 := hx 1 (by decide)
    subst e0
    subst e1
    match stc, g8 with
    | [_], ⟨h, _⟩ => cases h; exact l2 τ ρ g1 g2 g3 g4 g5 g6
set_option maxRecDepth 100000 in
theorem sg_cset3 {σ : pm_S} {Q : Option Value → pm_S → Prop} (x0 x1 : Int)  (hB : an_GB pm_B σ) (eF : ((-2147483648) ≤ x0 ∧ x0 ≤ 2147483647) ∧ (0 ≤ x1 ∧ x1 ≤ 100) ∧ True) (eC : (σ.1 2 0).toInt = x1 ∧ True)
    (l0 : ∀ (τ : pm_S) (y : Nat → Int), an_GB pm_B τ → FQ [(2, 9999)] σ τ → (((-2147483648) ≤ x0 ∧ x0 ≤ 0) ∧ (0 ≤ x1 ∧ x1 ≤ 100) ∧ True) → (True) → (True) → ((τ.1 2 0).toInt = x1 ∧ True) → Q (some (.int (Int32.ofInt 0))) τ)
    (l1 : ∀ (τ : pm_S) (y : Nat → Int), an_GB pm_B τ → FQ [(2, 9999)] σ τ → ((1 ≤ x0 ∧ x0 ≤ 52) ∧ (0 ≤ x1 ∧ x1 ≤ 100) ∧ True) → (True) → (True) → ((τ.1 2 0).toInt = x1 ∧ True) → Q (some (.int (Int32.ofInt 1))) τ)
    (l2 : ∀ (τ : pm_S) (y : Nat → Int), an_GB pm_B τ → FQ [(2, 9999)] σ τ → ((53 ≤ x0 ∧ x0 ≤ 2147483647) ∧ (0 ≤ x1 ∧ x1 ≤ 100) ∧ True) → (True) → (True) → ((τ.1 2 0).toInt = x1 ∧ True) → Q (some (.int (Int32.ofInt 0))) τ)
    : Ok 133 21 0 [.ref 0, .int (Int32.ofInt 3), .int (Int32.ofInt (x0))] [] σ Q := by
  refine an_seg (B := pm_B) (F := [(2, 9999)]) (T := [2]) (S := []) (fun _ h => absurd h List.not_mem_nil) (k := 133) (d := 20) (cs := []) 38 0 2 [(0, (-2147483648), 2147483647), (1, 0, 100)] [(2, (1, 0, 0), (0, 1, 0))] [(2, 0, 0), (1, 0, 3), (0, 0, 0)] [] [(9999, [], [(1, 0, 0)], [(0, (-2147483648), 0), (1, 0, 100)], [], [], [(2, (1, 0, 0), (0, 1, 0))]),
    (9999, [], [(1, 0, 1)], [(0, 1, 52), (1, 0, 100)], [], [], [(2, (1, 0, 0), (0, 1, 0))]),
    (9999, [], [(1, 0, 0)], [(0, 53, 2147483647), (1, 0, 100)], [], [], [(2, (1, 0, 0), (0, 1, 0))])] (by decide +kernel) (ρ0 := (fun s => [x0, x1].getD s 0)) hB eF eC ⟨rfl, ⟨rfl, ⟨rfl, trivial⟩⟩⟩ trivial ?_
  refine List.forall_mem_cons.mpr ⟨?_, List.forall_mem_cons.mpr ⟨?_, List.forall_mem_cons.mpr ⟨?_, fun _ h => absurd h List.not_mem_nil⟩⟩⟩
  · intro ρ τ Lc stc hx g1 g2 g3 g4 g5 g6 g7 g8
    have e0 : ρ 0 = x0 := hx 0 (by decide)
    have e1 : ρ 1 = x1 := hx 1 (by decide)
    subst e0
    subst e1
    match stc, g8 with
    | [_], ⟨h, _⟩ => cases h; exact l0 τ ρ g1 g2 g3 g4 g5 g6
  · intro ρ τ Lc stc hx g1 g2 g3 g4 g5 g6 g7 g8
    have e0 : ρ 0 = x0 := hx 0 (by decide)
    have e1 : ρ 1 = x1 := hx 1 (by decide)
    subst e0
    subst e1
    match stc, g8 with
    | [_], ⟨h, _⟩ => cases h; exact l1 τ ρ g1 g2 g3 g4 g5 g6
  · intro ρ τ Lc stc hx g1 g2 g3 g4 g5 g6 g7 g8
    have e0 : ρ 0 = x0 := hx 0 (by decide)
    have e1 : ρ 1 = x1 := hx 1 (by decide)
    subst e0
    subst e1
    match stc, g8 with
    | [_], ⟨h, _⟩ => cases h; exact l2 τ ρ g1 g2 g3 g4 g5 g6
set_option maxRecDepth 100000 in
theorem sg_mset3 {σ : pm_S} {Q : Option Value → pm_S → Prop} (x0 x1 : Int)  (hB : an_GB pm_B σ) (eF : ((-2147483648) ≤ x0 ∧ x0 ≤ 2147483647) ∧ (0 ≤ x1 ∧ x1 ≤ 100) ∧ True) (eC : (σ.1 108 0).toInt = x1 ∧ True)
    (l0 : ∀ (τ : pm_S) (y : Nat → Int), an_GB pm_B τ → FQ [(93, 0), (108, 9999)] σ τ → (((-2147483648) ≤ x0 ∧ x0 ≤ 0) ∧ (0 ≤ x1 ∧ x1 ≤ 100) ∧ True) → (True) → (True) → ((τ.1 108 0).toInt = x1 ∧ True) → Q (some (.int (Int32.ofInt 0))) τ)
    (l1 : ∀ (τ : pm_S) (y : Nat → Int), an_GB pm_B τ → FQ [(93, 0), (108, 9999)] σ τ → ((53 ≤ x0 ∧ x0 ≤ 2147483647) ∧ (0 ≤ x1 ∧ x1 ≤ 100) ∧ True) → (True) → (True) → ((τ.1 108 0).toInt = x1 ∧ True) → Q (some (.int (Int32.ofInt 0))) τ)
    (l2 : ∀ (τ : pm_S) (y : Nat → Int), an_GB pm_B τ → FQ [(93, 0), (108, 9999)] σ τ → ((1 ≤ x0 ∧ x0 ≤ 52) ∧ (0 ≤ x1 ∧ x1 ≤ 100) ∧ True) → (True) → (True) → ((τ.1 108 0).toInt = x1 ∧ True) → Q (some (.int (Int32.ofInt 1))) τ)
    : Ok 172 21 0 [.ref 93, .int (Int32.ofInt 3), .int (Int32.ofInt (x0))] [] σ Q := by
  refine an_seg (B := pm_B) (F := [(93, 0), (108, 9999)]) (T := [108]) (S := []) (fun _ h => absurd h List.not_mem_nil) (k := 172) (d := 20) (cs := []) 62 0 2 [(0, (-2147483648), 2147483647), (1, 0, 100)] [(108, (1, 0, 0), (0, 1, 0))] [(2, 93, 0), (1, 0, 3), (0, 0, 0)] [] [(9999, [], [(1, 0, 0)], [(0, (-2147483648), 0), (1, 0, 100)], [], [], [(108, (1, 0, 0), (0, 1, 0))]),
    (9999, [], [(1, 0, 0)], [(0, 53, 2147483647), (1, 0, 100)], [], [], [(108, (1, 0, 0), (0, 1, 0))]),
    (9999, [], [(1, 0, 1)], [(0, 1, 52), (1, 0, 100)], [], [], [(108, (1, 0, 0), (0, 1, 0))])] (by decide +kernel) (ρ0 := (fun s => [x0, x1].getD s 0)) hB eF eC ⟨rfl, ⟨rfl, ⟨rfl, trivial⟩⟩⟩ trivial ?_
  refine List.forall_mem_cons.mpr ⟨?_, List.forall_mem_cons.mpr ⟨?_, List.forall_mem_cons.mpr ⟨?_, fun _ h => absurd h List.not_mem_nil⟩⟩⟩
  · intro ρ τ Lc stc hx g1 g2 g3 g4 g5 g6 g7 g8
    have e0 : ρ 0 = x0 := hx 0 (by decide)
    have e1 : ρ 1 = x1 := hx 1 (by decide)
    subst e0
    subst e1
    match stc, g8 with
    | [_], ⟨h, _⟩ => cases h; exact l0 τ ρ g1 g2 g3 g4 g5 g6
  · intro ρ τ Lc stc hx g1 g2 g3 g4 g5 g6 g7 g8
    have e0 : ρ 0 = x0 := hx 0 (by decide)
    have e1 : ρ 1 = x1 := hx 1 (by decide)
    subst e0
    subst e1
    match stc, g8 with
    | [_], ⟨h, _⟩ => cases h; exact l1 τ ρ g1 g2 g3 g4 g5 g6
  · intro ρ τ Lc stc hx g1 g2 g3 g4 g5 g6 g7 g8
    have e0 : ρ 0 = x0 := hx 0 (by decide)
    have e1 : ρ 1 = x1 := hx 1 (by decide)
    subst e0
    subst e1
    match stc, g8 with
    | [_], ⟨h, _⟩ => cases h; exact l2 τ ρ g1 g2 g3 g4 g5 g6
set_option maxRecDepth 100000 in
theorem sg_csetp {σ : pm_S} {Q : Option Value → pm_S → Prop} (x0 x1 x2 : Int)  (hB : an_GB pm_B σ) (eF : ((-2147483648) ≤ x0 ∧ x0 ≤ 2147483647) ∧ (0 ≤ x1 ∧ x1 ≤ 100) ∧ (4 ≤ x2 ∧ x2 ≤ 2147483647) ∧ True) (eC : (σ.1 2 0).toInt = x1 ∧ True)
    (l0 : ∀ (τ : pm_S) (y : Nat → Int), an_GB pm_B τ → FQ [] σ τ → (((-2147483648) ≤ x0 ∧ x0 ≤ 2147483647) ∧ (0 ≤ x1 ∧ x1 ≤ 100) ∧ (4 ≤ x2 ∧ x2 ≤ 2147483647) ∧ True) → (True) → (True) → ((τ.1 2 0).toInt = x1 ∧ True) → Q (some (.int (Int32.ofInt 0))) τ)
    : Ok 133 21 0 [.ref 0, .int (Int32.ofInt (x2)), .int (Int32.ofInt (x0))] [] σ Q := by
  refine an_seg (B := pm_B) (F := []) (T := [2]) (S := []) (fun _ h => absurd h List.not_mem_nil) (k := 133) (d := 20) (cs := []) 15 0 3 [(0, (-2147483648), 2147483647), (1, 0, 100), (2, 4, 2147483647)] [(2, (1, 0, 0), (0, 1, 0))] [(2, 0, 0), (0, 2, 0), (0, 0, 0)] [] [(9999, [], [(1, 0, 0)], [(0, (-2147483648), 2147483647), (1, 0, 100), (2, 4, 2147483647)], [], [], [(2, (1, 0, 0), (0, 1, 0))])] (by decide +kernel) (ρ0 := (fun s => [x0, x1, x2].getD s 0)) hB eF eC ⟨rfl, ⟨rfl, ⟨rfl, trivial⟩⟩⟩ trivial ?_
  refine List.forall_mem_cons.mpr ⟨?_, fun _ h => absurd h List.not_mem_nil⟩
  · intro ρ τ Lc stc hx g1 g2 g3 g4 g5 g6 g7 g8
    have e0 : ρ 0 = x0 := hx 0 (by decide)
    have e1 : ρ 1 = x1 := hx 1 (by decide)
    have e2 : ρ 2 = x2 := hx 2 (by decide)
    subst e0
    subst e1
    subst e2
    match stc, g8 with
    | [_], ⟨h, _⟩ => cases h; exact l0 τ ρ g1 g2 g3 g4 g5 g6
set_option maxRecDepth 100000 in
theorem sg_msetp {σ : pm_S} {Q : Option Value → pm_S → Prop} (x0 x1 x2 : Int)  (hB : an_GB pm_B σ) (eF : ((-2147483648) ≤ x0 ∧ x0 ≤ 2147483647) ∧ (0 ≤ x1 ∧ x1 ≤ 100) ∧ (4 ≤ x2 ∧ x2 ≤ 2147483647) ∧ True) (eC : (σ.1 108 0).toInt = x1 ∧ True)
    (l0 : ∀ (τ : pm_S) (y : Nat → Int), an_GB pm_B τ → FQ [(93, 0)] σ τ → (((-2147483648) ≤ x0 ∧ x0 ≤ 2147483647) ∧ (0 ≤ x1 ∧ x1 ≤ 100) ∧ (4 ≤ x2 ∧ x2 ≤ 2147483647) ∧ True) → (True) → (True) → ((τ.1 108 0).toInt = x1 ∧ True) → Q (some (.int (Int32.ofInt 0))) τ)
    : Ok 172 21 0 [.ref 93, .int (Int32.ofInt (x2)), .int (Int32.ofInt (x0))] [] σ Q := by
  refine an_seg (B := pm_B) (F := [(93, 0)]) (T := [108]) (S := []) (fun _ h => absurd h List.not_mem_nil) (k := 172) (d := 20) (cs := []) 21 0 3 [(0, (-2147483648), 2147483647), (1, 0, 100), (2, 4, 2147483647)] [(108, (1, 0, 0), (0, 1, 0))] [(2, 93, 0), (0, 2, 0), (0, 0, 0)] [] [(9999, [], [(1, 0, 0)], [(0, (-2147483648), 2147483647), (1, 0, 100), (2, 4, 2147483647)], [], [], [(108, (1, 0, 0), (0, 1, 0))])] (by decide +kernel) (ρ0 := (fun s => [x0, x1, x2].getD s 0)) hB eF eC ⟨rfl, ⟨rfl, ⟨rfl, trivial⟩⟩⟩ trivial ?_
  refine List.forall_mem_cons.mpr ⟨?_, fun _ h => absurd h List.not_mem_nil⟩
  · intro ρ τ Lc stc hx g1 g2 g3 g4 g5 g6 g7 g8
    have e0 : ρ 0 = x0 := hx 0 (by decide)
    have e1 : ρ 1 = x1 := hx 1 (by decide)
    have e2 : ρ 2 = x2 := hx 2 (by decide)
    subst e0
    subst e1
    subst e2
    match stc, g8 with
    | [_], ⟨h, _⟩ => cases h; exact l0 τ ρ g1 g2 g3 g4 g5 g6
theorem t2_set (a1 a2 : Int32) : Two 1 true I2 I2 133 172 [.int a1, .int a2] := by
  intro σ hI
  obtain ⟨k0, k1, k2⟩ := hI.e
  have gf : (0 : Int) ≤ (σ.1 2 0).toInt ∧ (σ.1 2 0).toInt ≤ 100 := hI.1.1 2 0 (by decide)
  have fin : ∀ (G1 G2 : List (Nat × Nat)), KC [(1, 0, 93, 1), (1, 1, 93, 19), (0, 2, 93, 64), (34, 0, 133, 0), (34, 1, 133, 243), (35, 0, 133, 246)] G1 = true → KC [(1, 0, 93, 1), (1, 1, 93, 19), (0, 2, 93, 64), (34, 0, 133, 0), (34, 1, 133, 243), (35, 0, 133, 246)] G2 = true → G1.all (fun q => Nat.ble q.1 92) = true → an_inF G2 2 0 = false → an_inF G1 133 243 = false → (an_subF G2 [(93, 0), (108, 9999)] = true) → ∀ (τ τ2 : pm_S) (v u : Int), an_GB pm_B τ2 → FQ G1 σ τ → FQ G2 τ τ2 → (τ.1 2 0).toInt = u → (τ2.1 108 0).toInt = u → an_sh 1 (some (.int (Int32.ofInt v))) ∧ (true = true → some (Value.int (Int32.ofInt v)) = some (.int (Int32.ofInt v))) ∧ I2 τ2 := by
    intro G1 G2 h1 h2 h3 h4 h5 h6 τ τ2 v u hB2 F1 F2 c1 c2
    have hPτ : mP τ := mP93 σ τ (fun p j hp => F1 p j (an_foot93 h3 hp)) hI.1.2.1
    have F3 : FQ [(93, 0), (108, 9999)] τ τ2 := FQ.up h6 F2
    have he : KE [(1, 0, 93, 1), (1, 1, 93, 19), (0, 2, 93, 64), (34, 0, 133, 0), (34, 1, 133, 243), (35, 0, 133, 246)] σ := fun q hq => hI.1.2.2 q ((show ∀ q ∈ [(1, 0, 93, 1), (1, 1, 93, 19), (0, 2, 93, 64), (34, 0, 133, 0), (34, 1, 133, 243), (35, 0, 133, 246)], q ∈ K2 by decide) q hq)
    have he2 := (KX.of h2 F2).ke ((KX.of h1 F1).ke he)
    have hx := sB.x
    refine ⟨⟨_, rfl⟩, fun _ => rfl, ⟨hB2, mP.fr _ rfl rfl rfl rfl rfl rfl rfl rfl rfl rfl rfl rfl F3 hPτ, fun q hq => ?_⟩, ?_, ?_⟩
    · rcases (show ∀ q ∈ K2, q = (2, 0, 108, 0) ∨ q ∈ [(1, 0, 93, 1), (1, 1, 93, 19), (0, 2, 93, 64), (34, 0, 133, 0), (34, 1, 133, 243), (35, 0, 133, 246)] by decide) q hq with rfl | hq
      · refine Int32.toInt_inj.mp ?_
        show (τ2.1 2 0).toInt = (τ2.1 108 0).toInt
        rw [F2 2 0 h4, c1, c2]
      · exact he2 q hq
    · have e : cI τ2 19 = cI σ 19 := (F3.c 19 rfl).trans (congrArg Int32.toInt (((KX.of h1 F1) (1, 1, 93, 19) (by decide)).2))
      rw [e]
      exact hI.2.1
    · rw [F3 133 243 rfl, F1 133 243 h5]
      exact hI.2.2
  refine Sp.up (D := 21) ?_ (by decide)
  refine Sp.at rfl rfl ?_
  rw [← oI a1, ← oI a2]
  have gz := ai_rng a1
  show Ok 133 21 0 [.ref 0, .int (Int32.ofInt a1.toInt), .int (Int32.ofInt a2.toInt)] [] σ _
  generalize a1.toInt = z at gz ⊢
  rcases (show z ≤ -1 ∨ z = 0 ∨ z = 1 ∨ z = 2 ∨ z = 3 ∨ 4 ≤ z by omega) with h | h | h | h | h | h
  · refine sg_csetn a2.toInt (σ.1 2 0).toInt z hI.1.1 ⟨ai_rng a2, gf, ⟨by omega, by omega⟩, trivial⟩ ⟨rfl, trivial⟩ ?_ <;>
    · intro τ y hB1 F1 q _ _ c
      have q0 := q.1
      refine ⟨⟨_, rfl⟩, Sp.up (D := 21) ?_ (by decide)⟩
      refine Sp.at rfl rfl ?_
      refine sg_msetn a2.toInt (σ.1 2 0).toInt z hB1 ⟨ai_rng a2, gf, ⟨by omega, by omega⟩, trivial⟩ ⟨by rw [F1 108 0 rfl]; exact k2.symm, trivial⟩ ?_ <;>
      · intro τ2 y2 hB2 F2 p _ _ c2
        have p0 := p.1
        first
          | (exfalso; omega)
          | exact fin [] [(93, 0)] rfl rfl rfl rfl rfl rfl τ τ2 _ _ hB2 F1 F2 c.1 c2.1
  · subst h
    refine sg_cset0 a2.toInt (σ.1 2 0).toInt hI.1.1 ⟨ai_rng a2, gf, trivial⟩ ⟨rfl, trivial⟩ ?_ ?_ ?_ <;>
    · intro τ y hB1 F1 q _ _ c
      have q0 := q.1
      refine ⟨⟨_, rfl⟩, Sp.up (D := 21) ?_ (by decide)⟩
      refine Sp.at rfl rfl ?_
      refine sg_mset0 a2.toInt (σ.1 2 0).toInt hB1 ⟨ai_rng a2, gf, trivial⟩ ⟨by rw [F1 108 0 rfl]; exact k2.symm, trivial⟩ ?_ ?_ ?_ <;>
      · intro τ2 y2 hB2 F2 p _ _ c2
        have p0 := p.1
        first
          | (exfalso; omega)
          | exact fin [(2, 9999)] [(93, 0), (108, 9999)] rfl rfl rfl rfl rfl rfl τ τ2 _ _ hB2 F1 F2 c.1 c2.1
  · subst h
    refine sg_cset1 a2.toInt (σ.1 2 0).toInt hI.1.1 ⟨ai_rng a2, gf, trivial⟩ ⟨rfl, trivial⟩ ?_ ?_ ?_ <;>
    · intro τ y hB1 F1 q _ _ c
      have q0 := q.1
      refine ⟨⟨_, rfl⟩, Sp.up (D := 21) ?_ (by decide)⟩
      refine Sp.at rfl rfl ?_
      refine sg_mset1 a2.toInt (σ.1 2 0).toInt hB1 ⟨ai_rng a2, gf, trivial⟩ ⟨by rw [F1 108 0 rfl]; exact k2.symm, trivial⟩ ?_ ?_ ?_ <;>
      · intro τ2 y2 hB2 F2 p _ _ c2
        have p0 := p.1
        first
          | (exfalso; omega)
          | exact fin [(2, 9999)] [(93, 0), (108, 9999)] rfl rfl rfl rfl rfl rfl τ τ2 _ _ hB2 F1 F2 c.1 c2.1
  · subst h
    refine sg_cset2 a2.toInt (σ.1 2 0).toInt hI.1.1 ⟨ai_rng a2, gf, trivial⟩ ⟨rfl, trivial⟩ ?_ ?_ ?_ <;>
    · intro τ y hB1 F1 q _ _ c
      have q0 := q.1
      refine ⟨⟨_, rfl⟩, Sp.up (D := 21) ?_ (by decide)⟩
      refine Sp.at rfl rfl ?_
      refine sg_mset2 a2.toInt (σ.1 2 0).toInt hB1 ⟨ai_rng a2, gf, trivial⟩ ⟨by rw [F1 108 0 rfl]; exact k2.symm, trivial⟩ ?_ ?_ ?_ <;>
      · intro τ2 y2 hB2 F2 p _ _ c2
        have p0 := p.1
        first
          | (exfalso; omega)
          | exact fin [(2, 9999)] [(93, 0), (108, 9999)] rfl rfl rfl rfl rfl rfl τ τ2 _ _ hB2 F1 F2 c.1 c2.1
  · subst h
    refine sg_cset3 a2.toInt (σ.1 2 0).toInt hI.1.1 ⟨ai_rng a2, gf, trivial⟩ ⟨rfl, trivial⟩ ?_ ?_ ?_ <;>
    · intro τ y hB1 F1 q _ _ c
      have q0 := q.1
      refine ⟨⟨_, rfl⟩, Sp.up (D := 21) ?_ (by decide)⟩
      refine Sp.at rfl rfl ?_
      refine sg_mset3 a2.toInt (σ.1 2 0).toInt hB1 ⟨ai_rng a2, gf, trivial⟩ ⟨by rw [F1 108 0 rfl]; exact k2.symm, trivial⟩ ?_ ?_ ?_ <;>
      · intro τ2 y2 hB2 F2 p _ _ c2
        have p0 := p.1
        first
          | (exfalso; omega)
          | exact fin [(2, 9999)] [(93, 0), (108, 9999)] rfl rfl rfl rfl rfl rfl τ τ2 _ _ hB2 F1 F2 c.1 c2.1
  · refine sg_csetp a2.toInt (σ.1 2 0).toInt z hI.1.1 ⟨ai_rng a2, gf, ⟨by omega, by omega⟩, trivial⟩ ⟨rfl, trivial⟩ ?_ <;>
    · intro τ y hB1 F1 q _ _ c
      have q0 := q.1
      refine ⟨⟨_, rfl⟩, Sp.up (D := 21) ?_ (by decide)⟩
      refine Sp.at rfl rfl ?_
      refine sg_msetp a2.toInt (σ.1 2 0).toInt z hB1 ⟨ai_rng a2, gf, ⟨by omega, by omega⟩, trivial⟩ ⟨by rw [F1 108 0 rfl]; exact k2.symm, trivial⟩ ?_ <;>
      · intro τ2 y2 hB2 F2 p _ _ c2
        have p0 := p.1
        first
          | (exfalso; omega)
          | exact fin [] [(93, 0)] rfl rfl rfl rfl rfl rfl τ τ2 _ _ hB2 F1 F2 c.1 c2.1
