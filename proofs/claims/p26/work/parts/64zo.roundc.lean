/-! rounds, the class: who owes whom, how many debts lead from one to another -/
theorem zb1 : ∀ m, m < 1024 → ∀ t, t < 10 → (an_f 3 (an_f 7 (Int32.ofInt (m : Nat)) (Int32.ofInt (t : Nat))) (Int32.ofInt 1)).toInt = if Nat.testBit m t then 1 else 0 := by decide +kernel
theorem zb3 : ∀ t, t < 10 → (an_f 6 (Int32.ofInt 1) (Int32.ofInt (t : Nat))).toInt = ((2 ^ t : Nat) : Int) := by decide +kernel
theorem zbI {x i : Nat} {y4 y5 : Int} (hx : x < 1024) (hi : i < 10) (d4 : (an_f 7 (Int32.ofInt (x : Int)) (Int32.ofInt (i : Int))).toInt = y4) (d5 : (an_f 3 (Int32.ofInt y4) (Int32.ofInt 1)).toInt = y5) : y5 = if Nat.testBit x i then 1 else 0 := by
  have h := zb1 x hx i hi
  rw [← d5, ← d4, oI]
  exact h
theorem zbT {x i : Nat} {y4 y5 : Int} (hx : x < 1024) (hi : i < 10) (d4 : (an_f 7 (Int32.ofInt (x : Int)) (Int32.ofInt (i : Int))).toInt = y4) (d5 : (an_f 3 (Int32.ofInt y4) (Int32.ofInt 1)).toInt = y5) (h : 1 ≤ y5) : Nat.testBit x i = true := by
  have e := zbI hx hi d4 d5
  by_cases z : Nat.testBit x i = true
  · exact z
  · rw [if_neg z] at e
    omega
theorem zbF {x i : Nat} {y4 y5 : Int} (hx : x < 1024) (hi : i < 10) (d4 : (an_f 7 (Int32.ofInt (x : Int)) (Int32.ofInt (i : Int))).toInt = y4) (d5 : (an_f 3 (Int32.ofInt y4) (Int32.ofInt 1)).toInt = y5) (h : y5 ≤ 0) : ¬ Nat.testBit x i = true := by
  have e := zbI hx hi d4 d5
  intro z
  rw [if_pos z] at e
  omega
theorem zbS {i : Nat} {y : Int} (hi : i < 10) (d : (an_f 6 (Int32.ofInt 1) (Int32.ofInt (i : Int))).toInt = y) : y = ((2 ^ i : Nat) : Int) := d.symm.trans (zb3 i hi)
theorem zbO {a b : Nat} {y : Int} (ha : a < 1024) (hb : b < 1024) (d : (an_f 4 (Int32.ofInt (a : Int)) (Int32.ofInt (b : Int))).toInt = y) : y = ((a ||| b : Nat) : Int) ∧ a ||| b < 1024 := by
  have e : Int32.ofInt (a : Int) ||| Int32.ofInt (b : Int) = Int32.ofInt ((a ||| b : Nat) : Int) := by
    refine Int32.toBitVec_inj.mp ?_
    rw [Int32.toBitVec_or, Int32.toBitVec_ofInt, Int32.toBitVec_ofInt, Int32.toBitVec_ofInt, BitVec.ofInt_natCast, BitVec.ofInt_natCast, BitVec.ofInt_natCast]
    refine BitVec.eq_of_getLsbD_eq (fun t ht => ?_)
    simp only [BitVec.getLsbD_or, BitVec.getLsbD_ofNat, ht, decide_true, Bool.true_and, Nat.testBit_or]
  have l : a ||| b < 2 ^ 10 := Nat.or_lt_two_pow ha hb
  refine ⟨?_, l⟩
  rw [← d]
  show (Int32.ofInt (a : Int) ||| Int32.ofInt (b : Int)).toInt = _
  rw [e]
  exact ti_of (by omega) (by omega)
theorem zbA {a b : Nat} {y : Int} (ha : a < 1024) (d : (an_f 3 (Int32.ofInt (a : Int)) (Int32.ofInt (b : Int))).toInt = y) : y = ((a &&& b : Nat) : Int) ∧ a &&& b < 1024 := by
  have e : Int32.ofInt (a : Int) &&& Int32.ofInt (b : Int) = Int32.ofInt ((a &&& b : Nat) : Int) := by
    refine Int32.toBitVec_inj.mp ?_
    rw [Int32.toBitVec_and, Int32.toBitVec_ofInt, Int32.toBitVec_ofInt, Int32.toBitVec_ofInt, BitVec.ofInt_natCast, BitVec.ofInt_natCast, BitVec.ofInt_natCast]
    refine BitVec.eq_of_getLsbD_eq (fun t ht => ?_)
    simp only [BitVec.getLsbD_and, BitVec.getLsbD_ofNat, ht, decide_true, Bool.true_and, Nat.testBit_and]
  have l : a &&& b ≤ a := Nat.and_le_left
  refine ⟨?_, by omega⟩
  rw [← d]
  show (Int32.ofInt (a : Int) &&& Int32.ofInt (b : Int)).toInt = _
  rw [e]
  exact ti_of (by omega) (by omega)
theorem zb2 {i q : Nat} : Nat.testBit (2 ^ i) q = true ↔ i = q := by
  rw [Nat.testBit_two_pow, decide_eq_true_iff]
theorem zbor {a b q : Nat} : Nat.testBit (a ||| b) q = true ↔ Nat.testBit a q = true ∨ Nat.testBit b q = true := by
  rw [Nat.testBit_or, Bool.or_eq_true]
theorem zbp {i : Nat} (hi : i < 10) : 2 ^ i < 1024 := Nat.pow_lt_pow_right (a := 2) (by decide) (show i < 10 from hi)
theorem Ok.bst {k D idx : Nat} {M : pm_M} {L st : List Value} {σ : pm_S} {Q : Option Value → pm_S → Prop} {pc ln x y : Nat} {zs : List Nat} (hM : pm_nth pm_tab k = some M) (hi : pm_nth M.2.2.2.2.2 idx = some (pc, .bastore, ln, x, y, zs)) {p n : Nat} (hp : pm_nth pm_lay p = some (.inl (1, n))) (hn : n ≤ 20000) {j : Int} (h0 : 0 ≤ j) (h1 : j < n) {v : Int32} (hv : v = 0 ∨ v = 1) (h : Ok k (D + 1) (idx + 1) L st (put σ p j.toNat v) Q) : Ok k (D + 1) idx L (.int v :: .int (Int32.ofInt j) :: .ref p :: st) σ Q := by
  refine Ok.one (by rw [← pm_nth_eq]; exact hM) hi ?_
  obtain ⟨g1, g2⟩ := idxI h0 h1 hn
  unfold pm_go
  dsimp only
  unfold pm_gast
  dsimp only
  have e : (pm_OS none).2.2.1 σ p = some (1, n, σ.1 p) := by show (match pm_nth pm_lay p with | some (.inl (k, n)) => _ | _ => none) = _; rw [hp]
  rw [e]
  dsimp only
  refine ⟨fun _ => ⟨fun _ => ?_, fun q => absurd hv q⟩, fun q => absurd g1 q⟩
  rw [g2]
  exact h
/-- owes: all nought -/
theorem x_fil {σ : pm_S} (hB : an_GB pm_B σ) : Sp 247 2 [.ref 77, .int (Int32.ofInt 0)] σ (fun r τ => r = none ∧ an_GB pm_B τ ∧ FQ [(77, 9999)] σ τ ∧ ∀ p, p < 10 → sI τ 77 p = 0) := by
  have lp : ∀ (k p : Nat) (τ : pm_S), p + k = 10 → an_GB pm_B τ → FQ [(77, 9999)] σ τ → (∀ q, q < p → sI τ 77 q = 0) → Ok 247 2 5 [.ref 77, .int (Int32.ofInt 0), .int (Int32.ofInt (p : Int)), .int (Int32.ofInt 10)] [] τ (fun r τ => r = none ∧ an_GB pm_B τ ∧ FQ [(77, 9999)] σ τ ∧ ∀ p, p < 10 → sI τ 77 p = 0) := by
    intro k
    induction k with
    | zero =>
      intro p τ hp hB F h
      refine rf_f5 p hB ⟨by omega, trivial⟩ ?_ ?_
      · intro τ2 y2 _ _ f _ _ _
        have f1 := f.1
        exfalso
        omega
      · intro τ2 y2 hB2 F2 _ _ _ _
        refine ⟨rfl, hB2, FQ.tr F (FQ.up (G := []) rfl F2), fun q hq => ?_⟩
        have e : sI τ2 77 q = sI τ 77 q := congrArg Int32.toInt (F2 77 q rfl)
        rw [e]
        exact h q (by omega)
    | succ k ih =>
      intro p τ hp hB F h
      have ep : ((p : Int)).toNat = p := by omega
      refine rf_f5 p hB ⟨by omega, trivial⟩ ?_ ?_
      · intro τ2 y2 hB2 F2 _ _ _ _
        refine rf_f8 p hB2 ⟨by omega, trivial⟩ ?_
        intro τ3 y3 hB3 F3 _ _ _ _
        refine Ok.ast (n := 10) rfl rfl rfl (by decide) (by omega) (by omega) ?_
        rw [ep]
        have hB4 : an_GB pm_B (put τ3 77 p (Int32.ofInt 0)) := put_GB hB3 (ai_rng _)
        have P4 : FQ [(77, 9999)] τ3 (put τ3 77 p (Int32.ofInt 0)) := FQ.put rfl
        have v4 : ∀ q, q < p + 1 → sI (put τ3 77 p (Int32.ofInt 0)) 77 q = 0 := fun q hq => by
          show ((put τ3 77 p (Int32.ofInt 0)).1 77 q).toInt = 0
          rw [put_get]
          by_cases e : q = p
          · rw [if_pos ⟨rfl, e⟩]
            rfl
          · rw [if_neg (fun z => e z.2), F3 77 q rfl, F2 77 q rfl]
            exact h q (by omega)
        generalize put τ3 77 p (Int32.ofInt 0) = τ4 at hB4 P4 v4 ⊢
        refine rf_f12 p hB4 ⟨by omega, trivial⟩ ?_
        intro τ5 y5 hB5 F5 _ _ _ _
        rw [show (p : Int) + 1 = ((p + 1 : Nat) : Int) by omega]
        refine ih (p + 1) τ5 (by omega) hB5 (FQ.tr F (FQ.tr (FQ.up (G := []) rfl (FQ.tr F2 F3)) (FQ.tr P4 (FQ.up (G := []) rfl F5)))) (fun q hq => ?_)
        have e : sI τ5 77 q = sI τ4 77 q := congrArg Int32.toInt (F5 77 q rfl)
        rw [e]
        exact v4 q hq
      · intro τ2 y2 _ _ f _ _ _
        have f1 := f.1
        exfalso
        omega
  refine Sp.at rfl rfl ?_
  refine rf_f0 _ _ rfl rfl hB ?_
  intro τ1 y1 hB1 F1 _ _ _ _
  exact lp 10 0 τ1 rfl hB1 (FQ.up (G := []) rfl F1) (fun q hq => absurd hq (Nat.not_lt_zero _))
/-- the bits of who owes whom -/
def owR (E : Nat → Prop) (Db Cr : Nat → Nat) (ow : Nat → Int) : Prop := ∀ p, p < 10 → 0 ≤ ow p ∧ ow p ≤ 1023 ∧ ∀ q, q < 10 → (Nat.testBit (ow p).toNat q = true ↔ ∃ d, E d ∧ Db d = p ∧ Cr d = q)
/-- the fewest debts from a to b, or 99 -/
def dv (E : Nat → Prop) (Db Cr : Nat → Nat) (a b : Nat) (v : Int) : Prop := (v = 99 ∧ ∀ j, j ≤ 9 → ¬ pth E Db Cr j a b) ∨ ∃ k : Nat, k ≤ 9 ∧ v = (k : Int) ∧ dst E Db Cr k a b
section STB
variable {E : Nat → Prop} {Db Cr : Nat → Nat} {a b P : Nat}
/-- reached with s debts -/
def rcH (E : Nat → Prop) (Db Cr : Nat → Nat) (a : Nat) (m s : Nat) : Prop := m < 1024 ∧ ∀ q, q < 10 → (Nat.testBit m q = true ↔ ∃ j, j ≤ s ∧ pth E Db Cr j a q)
/-- with the first p of those who are reached -/
def rcM (ow : Nat → Int) (m p w : Nat) : Prop := w < 1024 ∧ ∀ q, q < 10 → (Nat.testBit w q = true ↔ Nat.testBit m q = true ∨ ∃ p', p' < p ∧ Nat.testBit m p' = true ∧ Nat.testBit (ow p').toNat q = true)
theorem rcM_0 {ow : Nat → Int} {m : Nat} (hm : m < 1024) : rcM ow m 0 m := ⟨hm, fun q _ => ⟨Or.inl, fun h => by
  rcases h with h | ⟨p', h, _⟩
  · exact h
  · exact absurd h (Nat.not_lt_zero _)⟩⟩
theorem rcM_n {ow : Nat → Int} {m p w : Nat} (h : rcM ow m p w) (hp : ¬ Nat.testBit m p = true) : rcM ow m (p + 1) w := ⟨h.1, fun q hq => by
  rw [h.2 q hq]
  constructor
  · rintro (x | ⟨p', x, y⟩)
    · exact Or.inl x
    · exact Or.inr ⟨p', by omega, y⟩
  · rintro (x | ⟨p', x, y⟩)
    · exact Or.inl x
    · by_cases e : p' = p
      · rw [e] at y
        exact absurd y.1 hp
      · exact Or.inr ⟨p', by omega, y⟩⟩
theorem rcM_y {ow : Nat → Int} {m p w : Nat} (h : rcM ow m p w) (hp : Nat.testBit m p = true) (ho : (ow p).toNat < 1024) : rcM ow m (p + 1) (w ||| (ow p).toNat) := ⟨Nat.or_lt_two_pow (n := 10) h.1 ho, fun q hq => by
  rw [zbor, h.2 q hq]
  constructor
  · rintro ((x | ⟨p', x, y⟩) | x)
    · exact Or.inl x
    · exact Or.inr ⟨p', by omega, y⟩
    · exact Or.inr ⟨p, by omega, hp, x⟩
  · rintro (x | ⟨p', x, y, z⟩)
    · exact Or.inl (Or.inl x)
    · by_cases e : p' = p
      · rw [e] at z
        exact Or.inr z
      · exact Or.inl (Or.inr ⟨p', by omega, y, z⟩)⟩
theorem rcH_s {ow : Nat → Int} {m s w : Nat} (hP : P ≤ 10) (ho : owR E Db Cr ow) (hE : ∀ d, E d → Db d < P ∧ Cr d < 10) (h : rcH E Db Cr a m s) (hw : rcM ow m P w) : rcH E Db Cr a w (s + 1) := ⟨hw.1, fun q hq => by
  rw [hw.2 q hq]
  constructor
  · rintro (x | ⟨p', x, y, z⟩)
    · obtain ⟨j, h1, h2⟩ := (h.2 q hq).mp x
      exact ⟨j, by omega, h2⟩
    · obtain ⟨j, h1, h2⟩ := (h.2 p' (by omega)).mp y
      obtain ⟨d, e1, e2, e3⟩ := ((ho p' (by omega)).2.2 q hq).mp z
      rw [← e2] at h2
      have := h2.snoc e1
      rw [e3] at this
      exact ⟨j + 1, by omega, this⟩
  · rintro ⟨j, h1, h2⟩
    by_cases c : j ≤ s
    · exact Or.inl ((h.2 q hq).mpr ⟨j, c, h2⟩)
    · match j, h1, h2, c with
      | 0, _, _, c => exact absurd (Nat.zero_le _) c
      | j + 1, h1, h2, c =>
        obtain ⟨d, p1, e1, e2⟩ := h2.last
        have hd := hE d e1
        exact Or.inr ⟨Db d, hd.1, (h.2 (Db d) (by omega)).mpr ⟨j, by omega, p1⟩, ((ho (Db d) (by omega)).2.2 q hq).mpr ⟨d, e1, rfl, e2⟩⟩⟩
/-- nobody new is reached: that's all -/
theorem rcH_c {ow : Nat → Int} {m s : Nat} (hP : P ≤ 10) (ho : owR E Db Cr ow) (hE : ∀ d, E d → Db d < P ∧ Cr d < 10) (h : rcH E Db Cr a m s) (hw : rcM ow m P m) : ∀ j q, q < 10 → pth E Db Cr j a q → Nat.testBit m q = true
  | 0, q, hq, g => (h.2 q hq).mpr ⟨0, Nat.zero_le _, g⟩
  | j + 1, q, hq, g => by
    obtain ⟨d, p1, e1, e2⟩ := g.last
    have hd := hE d e1
    have ih := rcH_c hP ho hE h hw j (Db d) (by omega) p1
    exact (hw.2 q hq).mpr (Or.inr ⟨Db d, hd.1, ih, ((ho (Db d) (by omega)).2.2 q hq).mpr ⟨d, e1, rfl, e2⟩⟩)
theorem rcH_0 (ha : a < 10) : rcH E Db Cr a (2 ^ a) 0 := ⟨zbp ha, fun q _ => by
  rw [zb2]
  constructor
  · intro h
    exact ⟨0, Nat.le_refl _, h⟩
  · rintro ⟨j, h1, h2⟩
    have e : j = 0 := by omega
    rw [e] at h2
    exact h2⟩
set_option maxRecDepth 20000 in
/-- through the people -/
theorem x_stm {σ : pm_S} {Q : Option Value → pm_S → Prop} (ha : a < 10) (hb : b < 10) (hP : P ≤ 10) (eP : sI σ 7 0 = (P : Int)) (ho : owR E Db Cr (sI σ 77)) {m s : Nat} (hm : m < 1024) (hs : s < 10) (hQ : ∀ (τ : pm_S) (w : Nat), an_GB pm_B τ → FQ [] σ τ → rcM (sI σ 77) m P w → Ok 100 4 40 [.ref 74, .int (Int32.ofInt (a : Int)), .int (Int32.ofInt (b : Int)), .int (Int32.ofInt (m : Int)), .int (Int32.ofInt (s : Int)), .int (Int32.ofInt (w : Int)), .int (Int32.ofInt (P : Int))] [] τ Q) : ∀ (k p w : Nat) (τ : pm_S), p + k = P → an_GB pm_B τ → FQ [] σ τ → rcM (sI σ 77) m p w → Ok 100 4 19 [.ref 74, .int (Int32.ofInt (a : Int)), .int (Int32.ofInt (b : Int)), .int (Int32.ofInt (m : Int)), .int (Int32.ofInt (s : Int)), .int (Int32.ofInt (w : Int)), .int (Int32.ofInt (p : Int))] [] τ Q := by
  intro k
  induction k with
  | zero =>
    intro p w τ hp hB F h
    have hw := h.1
    have ep : p = P := by omega
    refine rf_s19 a b m s w p P hB ⟨by omega, by omega, by omega, by omega, by omega, by omega, by omega, trivial⟩ ⟨(congrArg Int32.toInt (F 7 0 rfl)).trans eP, trivial⟩ ?_
    intro τ1 y1 hB1 F1 _ _ _ _
    refine Ok.ic rfl rfl (by omega) (by omega) (by omega) (by omega) (fun g => ?_) (fun g => ?_)
    · rw [ep] at h ⊢
      exact hQ τ1 w hB1 (FQ.tr F F1) h
    · have g : (p : Int) < (P : Int) := g
      exfalso
      omega
  | succ k ih =>
    intro p w τ hp hB F h
    have hw := h.1
    have ep : ((p : Int)).toNat = p := by omega
    refine rf_s19 a b m s w p P hB ⟨by omega, by omega, by omega, by omega, by omega, by omega, by omega, trivial⟩ ⟨(congrArg Int32.toInt (F 7 0 rfl)).trans eP, trivial⟩ ?_
    intro τ1 y1 hB1 F1 _ _ _ _
    refine Ok.ic rfl rfl (by omega) (by omega) (by omega) (by omega) (fun g => ?_) (fun g => ?_)
    · have g : (P : Int) ≤ (p : Int) := g
      exfalso
      omega
    have G1 := FQ.tr F F1
    have o := ho p (by omega)
    have on : sI σ 77 p = ((sI σ 77 p).toNat : Int) := by omega
    refine rf_s25 a b m s w p (sI σ 77 p) hB1 ⟨by omega, by omega, by omega, by omega, by omega, by omega, ⟨o.1, o.2.1⟩, trivial⟩ ⟨by rw [ep]; exact congrArg Int32.toInt (G1 77 p rfl), trivial⟩ ?_ ?_
    · intro τ2 y2 hB2 F2 f _ d _
      have f8 := f.2.2.2.2.2.2.2.2.1
      have nb := zbF hm (by omega) d.1 d.2.1 f8.2
      have z := zbO (b := 0) hw (by decide) d.2.2.1
      have e9 : y2 9 = (w : Int) := by rw [z.1, Nat.or_zero]
      rw [e9, show (p : Int) + 1 = ((p + 1 : Nat) : Int) by omega]
      exact ih (p + 1) w τ2 (by omega) hB2 (FQ.tr G1 F2) (rcM_n h nb)
    · intro τ2 y2 hB2 F2 f _ d _
      have f8 := f.2.2.2.2.2.2.2.2.1
      have yb := zbT hm (by omega) d.1 d.2.1 f8.1
      have d3 := d.2.2.1
      rw [on] at d3
      have z := zbO (a := w) (b := (sI σ 77 p).toNat) hw (by omega) d3
      rw [z.1, show (p : Int) + 1 = ((p + 1 : Nat) : Int) by omega]
      exact ih (p + 1) _ τ2 (by omega) hB2 (FQ.tr G1 F2) (rcM_y h yb (by omega))
set_option maxRecDepth 20000 in
theorem x_stb {σ : pm_S} (ha : a < 10) (hb : b < 10) (hP : P ≤ 10) (eP : sI σ 7 0 = (P : Int)) (ho : owR E Db Cr (sI σ 77)) (hE : ∀ d, E d → Db d < P ∧ Cr d < 10) (hB : an_GB pm_B σ) : Sp 100 4 [.ref 74, .int (Int32.ofInt (a : Int)), .int (Int32.ofInt (b : Int))] σ (fun r τ => (∃ v : Int, r = some (.int (Int32.ofInt v)) ∧ dv E Db Cr a b v) ∧ an_GB pm_B τ ∧ FQ [] σ τ) := by
  have lp : ∀ (k s m : Nat) (τ : pm_S) (v5 v6 : Value), s + k = 10 → v5.category = 1 → v6.category = 1 → an_GB pm_B τ → FQ [] σ τ → rcH E Db Cr a m s → (∀ j, j < s → ¬ pth E Db Cr j a b) → Ok 100 4 6 [.ref 74, .int (Int32.ofInt (a : Int)), .int (Int32.ofInt (b : Int)), .int (Int32.ofInt (m : Int)), .int (Int32.ofInt (s : Int)), v5, v6] [] τ (fun r τ => (∃ v : Int, r = some (.int (Int32.ofInt v)) ∧ dv E Db Cr a b v) ∧ an_GB pm_B τ ∧ FQ [] σ τ) := by
    intro k
    induction k with
    | zero =>
      intro s m τ v5 v6 hs c5 c6 hB F h hn
      have hm := h.1
      refine rf_s6 a b m s v5 v6 c5 c6 hB ⟨by omega, by omega, by omega, by omega, trivial⟩ ?_ ?_ ?_
      · intro τ1 y1 hB1 F1 _ _ _ _
        exact ⟨⟨99, rfl, Or.inl ⟨rfl, fun j hj => hn j (by omega)⟩⟩, hB1, FQ.tr F F1⟩
      · intro τ1 y1 _ _ f _ _ _
        have f3 := f.2.2.2.1
        exfalso
        omega
      · intro τ1 y1 _ _ f _ _ _
        have f3 := f.2.2.2.1
        exfalso
        omega
    | succ k ih =>
      intro s m τ v5 v6 hs c5 c6 hB F h hn
      have hm := h.1
      refine rf_s6 a b m s v5 v6 c5 c6 hB ⟨by omega, by omega, by omega, by omega, trivial⟩ ?_ ?_ ?_
      · intro τ1 y1 _ _ f _ _ _
        have f3 := f.2.2.2.1
        exfalso
        omega
      · intro τ1 y1 hB1 F1 f _ d _
        have f5 := f.2.2.2.2.2.1
        have nb := zbF hm hb d.1 d.2.1 f5.2
        have hn2 : ∀ j, j < s + 1 → ¬ pth E Db Cr j a b := fun j hj g => nb ((h.2 b hb).mpr ⟨j, by omega, g⟩)
        refine x_stm (σ := σ) (E := E) (Db := Db) (Cr := Cr) ha hb hP eP ho hm (by omega) ?_ P 0 m τ1 (Nat.zero_add _) hB1 (FQ.tr F F1) (rcM_0 hm)
        intro τ2 w hB2 F2 hw
        have hw1 := hw.1
        refine rf_s40 a b m s w _ rfl hB2 ⟨by omega, by omega, by omega, by omega, by omega, trivial⟩ ?_
        intro τ3 y3 v6' c6' hB3 F3 _ _ _ _
        refine Ok.ic rfl rfl (by omega) (by omega) (by omega) (by omega) (fun g => ?_) (fun g => ?_)
        · refine rf_s45 a b m s w v6' c6' hB3 ⟨by omega, by omega, by omega, by omega, by omega, trivial⟩ ?_
          intro τ4 y4 v6'' c6'' hB4 F4 _ _ _ _
          rw [show (s : Int) + 1 = ((s + 1 : Nat) : Int) by omega]
          exact ih (s + 1) w τ4 _ v6'' (by omega) rfl c6'' hB4 (FQ.tr F2 (FQ.tr F3 F4)) (rcH_s hP ho hE h hw) hn2
        · have g : (w : Int) = (m : Int) := g
          have e : w = m := by omega
          rw [e] at hw
          refine rf_s43 a b m s w v6' c6' hB3 ⟨by omega, by omega, by omega, by omega, by omega, trivial⟩ ?_
          intro τ4 y4 hB4 F4 _ _ _ _
          exact ⟨⟨99, rfl, Or.inl ⟨rfl, fun j _ q => nb (rcH_c hP ho hE h hw j b hb q)⟩⟩, hB4, FQ.tr F2 (FQ.tr F3 F4)⟩
      · intro τ1 y1 hB1 F1 f _ d _
        have f5 := f.2.2.2.2.2.1
        have yb := zbT hm hb d.1 d.2.1 f5.1
        obtain ⟨j, h1, h2⟩ := (h.2 b hb).mp yb
        have e : j = s := by
          rcases Nat.lt_or_ge j s with x | x
          · exact absurd h2 (hn j x)
          · omega
        rw [e] at h2
        exact ⟨⟨(s : Int), rfl, Or.inr ⟨s, by omega, rfl, h2, hn⟩⟩, hB1, FQ.tr F F1⟩
  refine Sp.at rfl rfl ?_
  refine rf_s0 a b _ _ _ _ rfl rfl rfl rfl hB ⟨by omega, by omega, trivial⟩ ?_
  intro τ1 y1 v5 v6 c5 c6 hB1 F1 _ _ d _
  rw [zbS ha d.1]
  exact lp 10 0 (2 ^ a) τ1 v5 v6 rfl c5 c6 hB1 F1 (rcH_0 ha) (fun j hj => absurd hj (Nat.not_lt_zero _))
end STB
