/-! cleared: bits of sets, clashes, and what a row of truths holds -/
theorem Ok.bld {k D idx : Nat} {M : pm_M} {L st : List Value} {σ : pm_S} {Q : Option Value → pm_S → Prop} {pc ln x y : Nat} {zs : List Nat} (hM : pm_nth pm_tab k = some M) (hi : pm_nth M.2.2.2.2.2 idx = some (pc, .baload, ln, x, y, zs)) {p n : Nat} (hp : pm_nth pm_lay p = some (.inl (1, n))) (hn : n ≤ 20000) {j : Int} (h0 : 0 ≤ j) (h1 : j < n) (h : Ok k (D + 1) (idx + 1) L (.int (Int32.ofInt (σ.1 p j.toNat).toInt) :: st) σ Q) : Ok k (D + 1) idx L (.int (Int32.ofInt j) :: .ref p :: st) σ Q := by
  refine Ok.one (by rw [← pm_nth_eq]; exact hM) hi ?_
  obtain ⟨g1, g2⟩ := idxI h0 h1 hn
  unfold pm_go
  dsimp only
  unfold pm_gald
  dsimp only
  have e : (pm_OS none).2.2.1 σ p = some (1, n, σ.1 p) := by show (match pm_nth pm_lay p with | some (.inl (k, n)) => _ | _ => none) = _; rw [hp]
  rw [e]
  dsimp only
  refine ⟨fun _ => ?_, fun q => absurd g1 q⟩
  rw [g2]
  rw [oI] at h
  exact h
theorem andX0 {a b : Nat} (ha : a < 1024) (h : sbs b a) : (an_f 3 (Int32.ofInt (a : Int)) (an_f 5 (Int32.ofInt (b : Int)) (Int32.ofInt (-1)))).toInt = ((a ^^^ b : Nat) : Int) := by
  have e3 : (Int32.ofInt (-1)).toBitVec = BitVec.allOnes 32 := by decide
  have e : Int32.ofInt (a : Int) &&& (Int32.ofInt (b : Int) ^^^ Int32.ofInt (-1)) = Int32.ofInt ((a ^^^ b : Nat) : Int) := by
    refine Int32.toBitVec_inj.mp ?_
    rw [Int32.toBitVec_and, Int32.toBitVec_xor, e3, Int32.toBitVec_ofInt, Int32.toBitVec_ofInt, Int32.toBitVec_ofInt, BitVec.ofInt_natCast, BitVec.ofInt_natCast, BitVec.ofInt_natCast]
    refine BitVec.eq_of_getLsbD_eq (fun t ht => ?_)
    simp only [BitVec.getLsbD_and, BitVec.getLsbD_xor, BitVec.getLsbD_ofNat, BitVec.getLsbD_allOnes, ht, decide_true, Bool.true_and, Bool.xor_true]
    exact (xtb h).symm
  show (Int32.ofInt (a : Int) &&& (Int32.ofInt (b : Int) ^^^ Int32.ofInt (-1))).toInt = _
  rw [e]
  have l := sbs_le (xsbs h)
  exact ti_of (by omega) (by omega)
theorem andX {a b : Nat} {y1 y2 : Int} (ha : a < 1024) (h : sbs b a) (d1 : (an_f 5 (Int32.ofInt (b : Int)) (Int32.ofInt (-1))).toInt = y1) (d2 : (an_f 3 (Int32.ofInt (a : Int)) (Int32.ofInt y1)).toInt = y2) : y2 = ((a ^^^ b : Nat) : Int) := by
  rw [← d2, ← d1, oI]
  exact andX0 ha h
theorem dnC {p s : Nat} {y : Int} (hp : p < 1024) (h0 : p ≠ 0) (hs : s < 1024) (d : (an_f 3 (Int32.ofInt ((p : Int) + (-1))) (Int32.ofInt (s : Int))).toInt = y) : y = (((p - 1) &&& s : Nat) : Int) := by
  rw [← d, show (p : Int) + (-1) = ((p - 1 : Nat) : Int) by omega]
  exact andN (by omega) hs
theorem orX {a b : Nat} {y : Int} (ha : a < 1024) (hb : b < 1024) (hd : ∀ t, Nat.testBit a t = true → Nat.testBit b t = false) (d : (an_f 4 (Int32.ofInt (a : Int)) (Int32.ofInt (b : Int))).toInt = y) : y = ((a ^^^ b : Nat) : Int) := by
  have e : Int32.ofInt (a : Int) ||| Int32.ofInt (b : Int) = Int32.ofInt ((a ^^^ b : Nat) : Int) := by
    refine Int32.toBitVec_inj.mp ?_
    rw [Int32.toBitVec_or, Int32.toBitVec_ofInt, Int32.toBitVec_ofInt, Int32.toBitVec_ofInt, BitVec.ofInt_natCast, BitVec.ofInt_natCast, BitVec.ofInt_natCast]
    refine BitVec.eq_of_getLsbD_eq (fun t ht => ?_)
    simp only [BitVec.getLsbD_or, BitVec.getLsbD_ofNat, ht, decide_true, Bool.true_and, Nat.testBit_xor]
    cases q : Nat.testBit a t with
    | false => cases Nat.testBit b t <;> rfl
    | true => rw [hd t q]; rfl
  have l : a ^^^ b < 1024 := Nat.xor_lt_two_pow (n := 10) ha hb
  rw [← d]
  show (Int32.ofInt (a : Int) ||| Int32.ofInt (b : Int)).toInt = _
  rw [e]
  exact ti_of (by omega) (by omega)
/-- a truth as a number -/
def tvI (b : Bool) : Int := if b then 1 else 0
theorem tvI_y {b : Bool} (h : b = true) : tvI b = 1 := by rw [h]; rfl
theorem tvI_n {b : Bool} (h : b = false) : tvI b = 0 := by rw [h]; rfl
theorem tvI_r (b : Bool) : 0 ≤ tvI b ∧ tvI b ≤ 1 := by cases b <;> decide
/-- whether two share somebody -/
def shB (a b c d : Int) : Bool := decide (a = c) || decide (a = d) || decide (b = c) || decide (b = d)
theorem shB_s (a b c d : Int) : shB a b c d = shB c d a b := by
  unfold shB
  rw [show decide (c = a) = decide (a = c) from decide_eq_decide.mpr eq_comm, show decide (c = b) = decide (b = c) from decide_eq_decide.mpr eq_comm, show decide (d = a) = decide (a = d) from decide_eq_decide.mpr eq_comm, show decide (d = b) = decide (b = d) from decide_eq_decide.mpr eq_comm]
  cases decide (a = c) <;> cases decide (a = d) <;> cases decide (b = c) <;> cases decide (b = d) <;> rfl
/-- two clash -/
def xcl (de cr pl : Nat → Int) (l : List Nat) (i j : Nat) : Bool := !decide (pl (l.getD i 0) = pl (l.getD j 0)) && shB (de (l.getD i 0)) (cr (l.getD i 0)) (de (l.getD j 0)) (cr (l.getD j 0))
theorem xcl_s (de cr pl : Nat → Int) (l : List Nat) (i j : Nat) : xcl de cr pl l i j = xcl de cr pl l j i := by
  unfold xcl
  rw [shB_s, show decide (pl (l.getD j 0) = pl (l.getD i 0)) = decide (pl (l.getD i 0) = pl (l.getD j 0)) from decide_eq_decide.mpr eq_comm]
theorem xcl_i (de cr pl : Nat → Int) (l : List Nat) (i : Nat) : xcl de cr pl l i i = false := by
  unfold xcl
  rw [decide_eq_true rfl]
  rfl
section CX
variable {m : Nat} {X : Nat → Nat → Bool}
theorem are_end (hs : ∀ i j, X i j = X j i) (hi : ∀ i, X i i = false) {S : Nat} (hS : S < 2 ^ m) (hJ : ∀ a b, b < a → a < m → Nat.testBit S a = true → Nat.testBit S b = true → X a b = false) : cB m X S = true := by
  refine (cB_iff hS).mpr (fun a b ha hb => ?_)
  rcases Nat.lt_trichotomy b a with q | q | q
  · exact hJ a b q (tb_lt hS ha) ha hb
  · rw [q]
    exact hi a
  · rw [hs]
    exact hJ b a q (tb_lt hS hb) hb ha
theorem are_no {S i j : Nat} (hS : S < 2 ^ m) (hi : Nat.testBit S i = true) (hj : Nat.testBit S j = true) (h : X i j = true) : cB m X S = false := by
  cases q : cB m X S with
  | false => rfl
  | true =>
    have := (cB_iff hS).mp q i j hi hj
    rw [h] at this
    cases this
/-- whom one clashes with -/
def clB (X : Nat → Nat → Bool) (i : Nat) : Nat → Nat
  | 0 => 0
  | j + 1 => if X i j = true then clB X i j ^^^ 2 ^ j else clB X i j
theorem clB_lt {i : Nat} : ∀ j, clB X i j < 2 ^ j
  | 0 => Nat.zero_lt_one
  | j + 1 => by
    have ih := clB_lt (i := i) j
    have e : 2 ^ (j + 1) = 2 * 2 ^ j := by rw [Nat.pow_succ]; omega
    unfold clB
    split
    · exact Nat.xor_lt_two_pow (by omega) (by have := Nat.two_pow_pos j; omega)
    · omega
theorem clB_hi {i j t : Nat} (h : j ≤ t) : Nat.testBit (clB X i j) t = false := Nat.testBit_lt_two_pow (Nat.lt_of_lt_of_le (clB_lt j) (Nat.pow_le_pow_right (by decide) h))
theorem clB_t {i t : Nat} : ∀ j, t < j → Nat.testBit (clB X i j) t = X i t
  | 0, h => absurd h (Nat.not_lt_zero _)
  | j + 1, h => by
    by_cases e : t = j
    · subst e
      unfold clB
      cases c : X i t with
      | true =>
        rw [if_pos rfl, Nat.testBit_xor, clB_hi (Nat.le_refl t), Nat.testBit_two_pow, decide_eq_true rfl]
        rfl
      | false =>
        rw [if_neg (by decide)]
        exact clB_hi (Nat.le_refl t)
    · have ih := clB_t (i := i) j (show t < j by omega)
      unfold clB
      split
      · rw [Nat.testBit_xor, ih, Nat.testBit_two_pow, decide_eq_false (fun z => e z.symm), Bool.xor_false]
      · exact ih
/-- one more to a set that can be -/
theorem cB_one (hs : ∀ i j, X i j = X j i) (hi : ∀ i, X i i = false) {S b : Nat} (hS : S < 2 ^ m) (hb : Nat.testBit S b = true) : cB m X S = (cB m X (S ^^^ 2 ^ b) && decide (clB X b m &&& (S ^^^ 2 ^ b) = 0)) := by
  have bm := tb_lt hS hb
  have s1 : sbs (2 ^ b) S := sbs_one hb
  have hR : S ^^^ 2 ^ b < 2 ^ m := Nat.lt_of_le_of_lt (sbs_le (xsbs s1)) hS
  have rt : ∀ t, Nat.testBit (S ^^^ 2 ^ b) t = (Nat.testBit S t && !decide (b = t)) := fun t => by rw [xtb s1, Nat.testBit_two_pow]
  have z : clB X b m &&& (S ^^^ 2 ^ b) = 0 ↔ ∀ t, Nat.testBit (S ^^^ 2 ^ b) t = true → X b t = false := by
    constructor
    · intro h t ht
      have e := congrArg (fun v => Nat.testBit v t) h
      simp only [Nat.testBit_and, Nat.zero_testBit, ht, Bool.and_true] at e
      rw [clB_t m (tb_lt hR ht)] at e
      exact e
    · intro h
      refine Nat.eq_of_testBit_eq (fun t => ?_)
      rw [Nat.testBit_and, Nat.zero_testBit]
      cases c : Nat.testBit (S ^^^ 2 ^ b) t with
      | false => rw [Bool.and_false]
      | true => rw [clB_t m (tb_lt hR c), h t c]; rfl
  cases q : cB m X S with
  | true =>
    have h := (cB_iff hS).mp q
    have h1 : cB m X (S ^^^ 2 ^ b) = true := (cB_iff hR).mpr (fun i j a c => h i j (xsbs s1 i a) (xsbs s1 j c))
    rw [h1, decide_eq_true (z.mpr (fun t ht => h b t hb (xsbs s1 t ht)))]
    rfl
  | false =>
    cases q1 : cB m X (S ^^^ 2 ^ b) with
    | false => rfl
    | true =>
      cases q2 : decide (clB X b m &&& (S ^^^ 2 ^ b) = 0) with
      | false => rfl
      | true =>
        exfalso
        have h := (cB_iff hR).mp q1
        have h2 := z.mp (of_decide_eq_true q2)
        have : cB m X S = true := (cB_iff hS).mpr (fun i j a c => by
          by_cases ei : b = i
          · by_cases ej : b = j
            · rw [← ei, ← ej]
              exact hi b
            · rw [← ei]
              exact h2 j (by rw [rt, c, decide_eq_false ej]; rfl)
          · by_cases ej : b = j
            · rw [← ej, hs]
              exact h2 i (by rw [rt, a, decide_eq_false ei]; rfl)
            · exact h i j (by rw [rt, a, decide_eq_false ei]; rfl) (by rw [rt, c, decide_eq_false ej]; rfl))
        rw [q] at this
        cases this
end CX
/-- the lowest of a set -/
def lwN (s : Nat) : Nat := (an_f 16 (Int32.ofInt ((an_f 3 (Int32.ofInt (s : Int)) (an_f 15 (Int32.ofInt (s : Int)) (Int32.ofInt 0))).toInt + (-1))) (Int32.ofInt 0)).toInt.toNat
theorem lw_f : ∀ s : Nat, s < 1024 → 1 ≤ s → lwN s < 10 ∧ Nat.testBit s (lwN s) = true ∧ (List.range (lwN s)).all (fun t => !Nat.testBit s t) = true ∧ (an_f 3 (Int32.ofInt (s : Int)) (an_f 15 (Int32.ofInt (s : Int)) (Int32.ofInt 0))).toInt = ((2 ^ lwN s : Nat) : Int) ∧ (an_f 16 (Int32.ofInt ((an_f 3 (Int32.ofInt (s : Int)) (an_f 15 (Int32.ofInt (s : Int)) (Int32.ofInt 0))).toInt + (-1))) (Int32.ofInt 0)).toInt = ((lwN s : Nat) : Int) := by decide +kernel
theorem lw_l {s t : Nat} (hs : s < 1024) (h1 : 1 ≤ s) (ht : t < lwN s) : Nat.testBit s t = false := by
  have h := List.all_eq_true.mp (lw_f s hs h1).2.2.1 t (List.mem_range.mpr ht)
  rw [Bool.not_eq_true'] at h
  exact h
