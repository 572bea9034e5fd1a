/-! wrong jointly -/
def R24 : RL := fun t u => t 3 0 = u 1 ∧ t 7 0 = u 192 ∧ t 21 0 = u 461 ∧ (∀ l, l < 30 → t 22 l = u (462 + 4 * l) ∧ t 23 l = u (463 + 4 * l) ∧ t 24 l = u (464 + 4 * l) ∧ t 25 l = u (465 + 4 * l)) ∧ ∀ l, l < 30 → l < (u 461).toInt.toNat → (0 ≤ (u (463 + 4 * l)).toInt ∧ (u (463 + 4 * l)).toInt < (u 192).toInt) ∧ (((u (464 + 4 * l)).toInt = -1 ∧ 0 ≤ (u (465 + 4 * l)).toInt ∧ (u (465 + 4 * l)).toInt < (u 1).toInt) ∨ ((u (465 + 4 * l)).toInt = -1 ∧ 0 ≤ (u (464 + 4 * l)).toInt ∧ (u (464 + 4 * l)).toInt < (u 192).toInt ∧ (u (464 + 4 * l)).toInt ≠ (u (463 + 4 * l)).toInt))
abbrev C24 : List (Nat × Nat) := (3, 0) :: (7, 0) :: (21, 0) :: ((List.range 30).map (fun j => (22, j)) ++ ((List.range 30).map (fun j => (23, j)) ++ ((List.range 30).map (fun j => (24, j)) ++ (List.range 30).map (fun j => (25, j)))))
abbrev D24 : List Nat := 1 :: 192 :: 461 :: (List.range 120).map (fun j => 462 + j)
theorem R24.d : RD R24 C24 D24 := fun t t' u u' h1 h2 h => by
  have m : ∀ (j : Nat), j < 30 → ∀ p : Nat, (p, j) ∈ (List.range 30).map (fun k => (p, k)) := fun j hj p => List.mem_map.mpr ⟨j, List.mem_range.mpr hj, rfl⟩
  have b1 : ∀ j, j < 30 → t' 22 j = t 22 j := fun j hj => h1 (22, j) (List.mem_cons_of_mem _ (List.mem_cons_of_mem _ (List.mem_cons_of_mem _ (List.mem_append_left _ (m j hj 22)))))
  have b2 : ∀ j, j < 30 → t' 23 j = t 23 j := fun j hj => h1 (23, j) (List.mem_cons_of_mem _ (List.mem_cons_of_mem _ (List.mem_cons_of_mem _ (List.mem_append_right _ (List.mem_append_left _ (m j hj 23))))))
  have b3 : ∀ j, j < 30 → t' 24 j = t 24 j := fun j hj => h1 (24, j) (List.mem_cons_of_mem _ (List.mem_cons_of_mem _ (List.mem_cons_of_mem _ (List.mem_append_right _ (List.mem_append_right _ (List.mem_append_left _ (m j hj 24)))))))
  have b4 : ∀ j, j < 30 → t' 25 j = t 25 j := fun j hj => h1 (25, j) (List.mem_cons_of_mem _ (List.mem_cons_of_mem _ (List.mem_cons_of_mem _ (List.mem_append_right _ (List.mem_append_right _ (List.mem_append_right _ (m j hj 25)))))))
  have c0 : ∀ j, j < 120 → u' (462 + j) = u (462 + j) := fun j hj => h2 (462 + j) (List.mem_cons_of_mem _ (List.mem_cons_of_mem _ (List.mem_cons_of_mem _ (List.mem_map.mpr ⟨j, List.mem_range.mpr hj, rfl⟩))))
  have a1 : t' 3 0 = t 3 0 := h1 (3, 0) List.mem_cons_self
  have a2 : t' 7 0 = t 7 0 := h1 (7, 0) (List.mem_cons_of_mem _ List.mem_cons_self)
  have a3 : t' 21 0 = t 21 0 := h1 (21, 0) (List.mem_cons_of_mem _ (List.mem_cons_of_mem _ List.mem_cons_self))
  have a4 : u' 1 = u 1 := h2 1 List.mem_cons_self
  have a5 : u' 192 = u 192 := h2 192 (List.mem_cons_of_mem _ List.mem_cons_self)
  have a6 : u' 461 = u 461 := h2 461 (List.mem_cons_of_mem _ (List.mem_cons_of_mem _ List.mem_cons_self))
  have d1 : ∀ l, l < 30 → u' (462 + 4 * l) = u (462 + 4 * l) := fun l hl => c0 (4 * l) (by omega)
  have d2 : ∀ l, l < 30 → u' (463 + 4 * l) = u (463 + 4 * l) := fun l hl => by
    have := c0 (1 + 4 * l) (by omega)
    rw [show 462 + (1 + 4 * l) = 463 + 4 * l by omega] at this
    exact this
  have d3 : ∀ l, l < 30 → u' (464 + 4 * l) = u (464 + 4 * l) := fun l hl => by
    have := c0 (2 + 4 * l) (by omega)
    rw [show 462 + (2 + 4 * l) = 464 + 4 * l by omega] at this
    exact this
  have d4 : ∀ l, l < 30 → u' (465 + 4 * l) = u (465 + 4 * l) := fun l hl => by
    have := c0 (3 + 4 * l) (by omega)
    rw [show 462 + (3 + 4 * l) = 465 + 4 * l by omega] at this
    exact this
  obtain ⟨e1, e2, e3, e4, e5⟩ := h
  refine ⟨by rw [a1, a4]; exact e1, by rw [a2, a5]; exact e2, by rw [a3, a6]; exact e3, fun l hl => ?_, fun l hl hl2 => ?_⟩
  · rw [b1 l hl, b2 l hl, b3 l hl, b4 l hl, d1 l hl, d2 l hl, d3 l hl, d4 l hl]
    exact e4 l hl
  · rw [a6] at hl2
    rw [d2 l hl, d3 l hl, d4 l hl, a4, a5]
    exact e5 l hl hl2
theorem qs109 : ∀ j, j < 30 → qsI (462 + 4 * j) = (109, j) ∧ qsI (463 + 4 * j) = (110, j) ∧ qsI (464 + 4 * j) = (111, j) ∧ qsI (465 + 4 * j) = (112, j) := by decide +kernel
theorem u109 {σ : pm_S} {j : Nat} (h : j < 30) : uS σ (462 + 4 * j) = σ.1 109 j ∧ uS σ (463 + 4 * j) = σ.1 110 j ∧ uS σ (464 + 4 * j) = σ.1 111 j ∧ uS σ (465 + 4 * j) = σ.1 112 j := by
  obtain ⟨a, b, c, d⟩ := qs109 j h
  refine ⟨?_, ?_, ?_, ?_⟩
  · show σ.1 (qsI (462 + 4 * j)).1 (qsI (462 + 4 * j)).2 = _
    rw [a]
  · show σ.1 (qsI (463 + 4 * j)).1 (qsI (463 + 4 * j)).2 = _
    rw [b]
  · show σ.1 (qsI (464 + 4 * j)).1 (qsI (464 + 4 * j)).2 = _
    rw [c]
  · show σ.1 (qsI (465 + 4 * j)).1 (qsI (465 + 4 * j)).2 = _
    rw [d]
/-- said of cells -/
abbrev R24x (σ : pm_S) : Prop := σ.1 3 0 = σ.1 93 2 ∧ σ.1 7 0 = σ.1 93 5 ∧ σ.1 21 0 = σ.1 93 23 ∧ (∀ l, l < 30 → σ.1 22 l = σ.1 109 l ∧ σ.1 23 l = σ.1 110 l ∧ σ.1 24 l = σ.1 111 l ∧ σ.1 25 l = σ.1 112 l) ∧ ∀ l, l < 30 → l < (cI σ 23).toNat → (0 ≤ (σ.1 110 l).toInt ∧ (σ.1 110 l).toInt < cI σ 5) ∧ (((σ.1 111 l).toInt = -1 ∧ 0 ≤ (σ.1 112 l).toInt ∧ (σ.1 112 l).toInt < cI σ 2) ∨ ((σ.1 112 l).toInt = -1 ∧ 0 ≤ (σ.1 111 l).toInt ∧ (σ.1 111 l).toInt < cI σ 5 ∧ (σ.1 111 l).toInt ≠ (σ.1 110 l).toInt))
theorem R24.s {σ : pm_S} (h : R24 (tS σ) (uS σ)) : R24x σ := by
  obtain ⟨e1, e2, e3, e4, e5⟩ := h
  refine ⟨e1, e2, e3, fun l hl => ?_, fun l hl hl2 => ?_⟩
  · have q := e4 l hl
    rw [(u109 hl).1, (u109 hl).2.1, (u109 hl).2.2.1, (u109 hl).2.2.2] at q
    exact q
  · have q := e5 l hl hl2
    rw [(u109 hl).2.1, (u109 hl).2.2.1, (u109 hl).2.2.2] at q
    exact q
theorem R24.m {σ : pm_S} (h : R24x σ) : R24 (tS σ) (uS σ) := by
  obtain ⟨e1, e2, e3, e4, e5⟩ := h
  refine ⟨e1, e2, e3, fun l hl => ?_, fun l hl hl2 => ?_⟩
  · rw [(u109 hl).1, (u109 hl).2.1, (u109 hl).2.2.1, (u109 hl).2.2.2]
    exact e4 l hl
  · rw [(u109 hl).2.1, (u109 hl).2.2.1, (u109 hl).2.2.2]
    exact e5 l hl hl2
/-- the digits that stand for given spots -/
def wr_e (S : Nat) (g : Nat → Nat) : Nat → Nat → Nat → Nat
  | 0, _, _ => 0
  | k + 1, a, p => if a % 2 = 1 then g p + S * wr_e S g k (a / 2) (p + 1) else wr_e S g k (a / 2) (p + 1)
theorem wr_e_s {S : Nat} {g : Nat → Nat} (k a p : Nat) : wr_e S g (k + 1) a p = if a % 2 = 1 then g p + S * wr_e S g k (a / 2) (p + 1) else wr_e S g k (a / 2) (p + 1) := rfl
theorem wr_e_lt {S : Nat} {g : Nat → Nat} (hg : ∀ p, g p < S) : ∀ k a p, wr_e S g k a p < S ^ pcn k a
  | 0, a, p => by
    show 0 < S ^ 0
    rw [Nat.pow_zero]
    decide
  | k + 1, a, p => by
    have ih := wr_e_lt hg k (a / 2) (p + 1)
    have hp := hg p
    unfold wr_e
    show _ < S ^ (a % 2 + pcn k (a / 2))
    split
    · rename_i e
      rw [e, Nat.pow_add, Nat.pow_one]
      have m : S * (wr_e S g k (a / 2) (p + 1) + 1) ≤ S * S ^ pcn k (a / 2) := Nat.mul_le_mul_left S ih
      rw [Nat.mul_add, Nat.mul_one] at m
      omega
    · rename_i e
      rw [show a % 2 = 0 by omega, Nat.zero_add]
      exact ih
theorem wr_e_v {S : Nat} {g : Nat → Nat} (hg : ∀ p, g p < S) (set : Nat) : ∀ p, p ≤ 10 → wr_v set S (wr_e S g 10 set 0) p = wr_e S g (10 - p) (set / 2 ^ p) p
  | 0, _ => by rw [Nat.pow_zero, Nat.div_one]; rfl
  | p + 1, h => by
    have ih := wr_e_v hg set p (by omega)
    have hS : 0 < S := by
      have := hg 0
      omega
    unfold wr_v
    rw [ih, show 10 - p = (10 - (p + 1)) + 1 by omega]
    have tb : Nat.testBit set p = decide (set / 2 ^ p % 2 = 1) := Nat.testBit_eq_decide_div_mod_eq
    have dd : set / 2 ^ p / 2 = set / 2 ^ (p + 1) := by rw [Nat.div_div_eq_div_mul, Nat.pow_succ]
    rw [wr_e_s, tb, dd]
    have hp := hg p
    by_cases e : set / 2 ^ p % 2 = 1
    · rw [if_pos (decide_eq_true e), if_pos e, Nat.add_mul_div_left _ _ hS, Nat.div_eq_of_lt hp, Nat.zero_add]
    · rw [if_neg (by rw [decide_eq_false e]; decide), if_neg e]
theorem wr_e_d {S : Nat} {g : Nat → Nat} (hg : ∀ p, g p < S) (set p : Nat) (hp : p < 10) (hb : Nat.testBit set p = true) : wr_v set S (wr_e S g 10 set 0) p % S = g p := by
  rw [wr_e_v hg set p (by omega), show 10 - p = (9 - p) + 1 by omega, wr_e_s]
  have tb : Nat.testBit set p = decide (set / 2 ^ p % 2 = 1) := Nat.testBit_eq_decide_div_mod_eq
  rw [tb] at hb
  rw [if_pos (of_decide_eq_true hb), Nat.add_mul_mod_self_left, Nat.mod_eq_of_lt (hg p)]
/-- who has a seat -/
def wr_inv (st : Nat → Int) (i : Nat) : Nat → Nat
  | 0 => 0
  | p + 1 => if st p = (i : Int) then p else wr_inv st i p
theorem wr_inv_ok {st : Nat → Int} {i p : Nat} : ∀ n, p < n → st p = (i : Int) → st (wr_inv st i n) = (i : Int) ∧ wr_inv st i n < n
  | 0, h, _ => absurd h (Nat.not_lt_zero p)
  | n + 1, h, e => by
    unfold wr_inv
    by_cases c : st n = (i : Int)
    · rw [if_pos c]
      exact ⟨c, by omega⟩
    · rw [if_neg c]
      have hpn : p < n := by
        rcases Nat.lt_or_ge p n with x | x
        · exact x
        · have : p = n := by omega
          rw [this] at e
          exact absurd e c
      have q := wr_inv_ok n hpn e
      exact ⟨q.1, by omega⟩
theorem wr_full {k i : Nat} : Nat.testBit (2 ^ k - 1) i = decide (i < k) := Nat.testBit_two_pow_sub_one k i
section WRJ
variable {dy wh ot pl : Nat → Int} {D : Int}
/-- the same spots for people and for seats cost the same -/
theorem wr_cc {st g : Nat → Int} {f : Nat → Nat} {N k : Nat} {S P : Int} (hL : wr_L dy wh ot pl N S P) (hP : P ≤ 10) (hQ : wr_Q st (wr_set dy wh ot D N) (k : Int)) (hg : ∀ p, p < 10 → Nat.testBit (wr_set dy wh ot D N) p = true → g p = ((f (st p).toNat : Nat) : Int)) : wr_cm dy wh ot pl D g N = wr_c (wr_A dy ot D) (wr_B dy ot D) (wr_w st wh) (wr_w st ot) (wr_q pl) N f (2 ^ k - 1) := by
  refine wr_s_cg (fun l hl => ?_)
  have hll := hL l hl
  by_cases e : dy l = D
  · have hin := wr_set_in (dy := dy) (wh := wh) (ot := ot) (D := D) hl e
    have w10 : (wh l).toNat < 10 := by omega
    have bw := hQ.2.2.2.1 _ w10 hin.1
    have tw : Nat.testBit (2 ^ k - 1) (wr_w st wh l) = true := by
      rw [wr_full]
      exact decide_eq_true (show (st (wh l).toNat).toNat < k by omega)
    have gw := hg _ w10 hin.1
    by_cases o : ot l = -1
    · have eA : wr_A dy ot D l = true := by
        show (decide (dy l = D) && decide (ot l = -1)) = true
        rw [decide_eq_true e, decide_eq_true o]
        rfl
      have eB : wr_B dy ot D l = false := by
        show (decide (dy l = D) && !decide (ot l = -1)) = false
        rw [decide_eq_true o, Bool.not_true, Bool.and_false]
      rw [eA, eB, tw]
      unfold wr_bad
      rw [decide_eq_true e, if_pos o, gw]
      have hpl : 0 ≤ pl l := by omega
      have eq : decide (((f (wr_w st wh l) : Nat) : Int) = pl l) = Nat.beq (f (wr_w st wh l)) (wr_q pl l) := by
        by_cases c : ((f (wr_w st wh l) : Nat) : Int) = pl l
        · rw [decide_eq_true c, show wr_q pl l = f (wr_w st wh l) by show (pl l).toNat = _; omega, Nat.beq_refl]
        · have nb : Nat.beq (f (wr_w st wh l)) (wr_q pl l) = false := Bool.eq_false_iff.mpr (fun z => c (by
            have := Nat.eq_of_beq_eq_true z
            have e2 : wr_q pl l = (pl l).toNat := rfl
            omega))
          rw [decide_eq_false c, nb]
      rw [eq]
      cases Nat.beq (f (wr_w st wh l)) (wr_q pl l) <;> rfl
    · have o10 : (ot l).toNat < 10 := by omega
      have bo := hQ.2.2.2.1 _ o10 (hin.2 o)
      have to' : Nat.testBit (2 ^ k - 1) (wr_w st ot l) = true := by
        rw [wr_full]
        exact decide_eq_true (show (st (ot l).toNat).toNat < k by omega)
      have go := hg _ o10 (hin.2 o)
      have eA : wr_A dy ot D l = false := by
        show (decide (dy l = D) && decide (ot l = -1)) = false
        rw [decide_eq_false o, Bool.and_false]
      have eB : wr_B dy ot D l = true := by
        show (decide (dy l = D) && !decide (ot l = -1)) = true
        rw [decide_eq_true e, decide_eq_false o]
        rfl
      rw [eA, eB, tw, to']
      unfold wr_bad
      rw [decide_eq_true e, if_neg o, gw, go]
      have eq : decide (((f (wr_w st wh l) : Nat) : Int) = ((f (wr_w st ot l) : Nat) : Int)) = Nat.beq (f (wr_w st wh l)) (f (wr_w st ot l)) := by
        by_cases c : f (wr_w st wh l) = f (wr_w st ot l)
        · rw [c, Nat.beq_refl]
          exact decide_eq_true rfl
        · have nc : ¬ (((f (wr_w st wh l) : Nat) : Int) = ((f (wr_w st ot l) : Nat) : Int)) := fun z => c (by omega)
          have nb : Nat.beq (f (wr_w st wh l)) (f (wr_w st ot l)) = false := Bool.eq_false_iff.mpr (fun z => c (Nat.eq_of_beq_eq_true z))
          rw [decide_eq_false nc, nb]
      rw [eq]
      cases Nat.beq (f (wr_w st wh l)) (f (wr_w st ot l)) <;> rfl
  · have eA : wr_A dy ot D l = false := by
      show (decide (dy l = D) && decide (ot l = -1)) = false
      rw [decide_eq_false e, Bool.false_and]
    have eB : wr_B dy ot D l = false := by
      show (decide (dy l = D) && !decide (ot l = -1)) = false
      rw [decide_eq_false e, Bool.false_and]
    rw [eA, eB]
    unfold wr_bad
    rw [decide_eq_false e]
    rfl
theorem pcn_z : ∀ m, m < 1024 → pcn 10 m = 0 → m = 0 := by decide +kernel
/-- both sides' answers are one -/
theorem wr_same2 {st V : Nat → Int} {N S P : Nat} {m : Int} (hL : wr_L dy wh ot pl N S P) (hP : P ≤ 10) (hS : S ≤ 10) (hSP : 1 ≤ P → 1 ≤ S) (h5 : pcn 10 (wr_set dy wh ot D N) ≤ 5) (hQ : wr_Q st (wr_set dy wh ot D N) (pcn 10 (wr_set dy wh ot D N) : Nat)) (hok : wr_ok (wr_A dy ot D) (wr_B dy ot D) (wr_w st wh) (wr_w st ot) (wr_q pl) N V (2 ^ pcn 10 (wr_set dy wh ot D N) - 1)) (h0 : V 0 = 0) (hm : wr_PM dy wh ot pl D S N m) : m = V (2 ^ pcn 10 (wr_set dy wh ot D N) - 1) := by
  obtain ⟨m1, w, hw, m2⟩ := hm
  have lt := hQ.1
  rcases Nat.eq_zero_or_pos (pcn 10 (wr_set dy wh ot D N)) with z | z
  · -- nobody
    rw [z]
    show m = V 0
    rw [h0, m2]
    refine wr_s_z (fun l hl => ?_)
    have e : dy l ≠ D := fun e => by
      have hin := (wr_set_in (dy := dy) (wh := wh) (ot := ot) (D := D) hl e).1
      rw [pcn_z _ lt z, Nat.zero_testBit] at hin
      cases hin
    unfold wr_bad
    rw [decide_eq_false e]
    rfl
  · have P1 : 1 ≤ P := by
      rcases Nat.eq_zero_or_pos P with p0 | p0
      · exfalso
        have n0 : N = 0 := by
          rcases Nat.eq_zero_or_pos N with n0 | n0
          · exact n0
          · have := hL 0 n0
            omega
        rw [n0] at z
        exact absurd (show pcn 10 0 > 0 from z) (by decide)
      · exact p0
    have S1 := hSP P1
    have p5 := wr_p5 h5
    refine wr_main (S := S) (by omega) S1 (fun l hl ha => ?_) hok h0 (fun f hf => ?_) ?_
    · have hll := hL l hl
      have ha : (decide (dy l = D) && decide (ot l = -1)) = true := ha
      rw [Bool.and_eq_true] at ha
      have o := of_decide_eq_true ha.2
      show (pl l).toNat < S
      omega
    · have q := m1 (wr_e S (fun p => f (st p).toNat) 10 (wr_set dy wh ot D N) 0) (wr_e_lt (fun p => hf _) 10 _ 0)
      rw [wr_cc (k := pcn 10 (wr_set dy wh ot D N)) (f := f) hL (by omega) hQ (fun p hp hb => by
        show ((wr_v (wr_set dy wh ot D N) S (wr_e S (fun p => f (st p).toNat) 10 (wr_set dy wh ot D N) 0) p % S : Nat) : Int) = _
        rw [wr_e_d (g := fun p => f (st p).toNat) (fun p => hf _) _ p hp hb])] at q
      exact q
    · refine ⟨fun i => wr_v (wr_set dy wh ot D N) S w (wr_inv st i 10) % S, fun i => ?_, ?_⟩
      · have : wr_v (wr_set dy wh ot D N) S w (wr_inv st i 10) % S < S := Nat.mod_lt _ S1
        show wr_v (wr_set dy wh ot D N) S w (wr_inv st i 10) % S < 10
        omega
      · rw [m2]
        exact wr_cc (k := pcn 10 (wr_set dy wh ot D N)) hL (by omega) hQ (fun p hp hb => by
          have b := hQ.2.2.2.1 p hp hb
          have q := wr_inv_ok (st := st) (i := (st p).toNat) (p := p) 10 hp (by omega)
          have bi : Nat.testBit (wr_set dy wh ot D N) (wr_inv st (st p).toNat 10) = true := by
            cases e : Nat.testBit (wr_set dy wh ot D N) (wr_inv st (st p).toNat 10) with
            | true => rfl
            | false =>
              have := hQ.2.2.1 _ q.2 e
              omega
          have e := hQ.2.2.2.2 (wr_inv st (st p).toNat 10) p q.2 hp bi hb (by omega)
          show ((wr_v (wr_set dy wh ot D N) S w p % S : Nat) : Int) = ((wr_v (wr_set dy wh ot D N) S w (wr_inv st (st p).toNat 10) % S : Nat) : Int)
          rw [e])
end WRJ
set_option maxRecDepth 20000 in
theorem t24_wrong (a1 : Int32) : Two 1 true (IR R24) (IR R24) 150 241 [.int a1] := by
  rw [← oI a1]
  refine two_E R24.d (GC := wr_F) (GM := wr_FM) (by decide +kernel) rfl (fun σ v τ => (¬ (0 ≤ a1.toInt ∧ a1.toInt ≤ 9999) ∧ v = -1) ∨ ((0 ≤ a1.toInt ∧ a1.toInt ≤ 9999) ∧ 6 ≤ pcn 10 (wr_set (sI σ 109) (sI σ 110) (sI σ 111) a1.toInt (cI σ 23).toNat) ∧ v = -1) ∨ ((0 ≤ a1.toInt ∧ a1.toInt ≤ 9999) ∧ pcn 10 (wr_set (sI σ 109) (sI σ 110) (sI σ 111) a1.toInt (cI σ 23).toNat) ≤ 5 ∧ ∃ st V : Nat → Int, wr_Q st (wr_set (sI σ 109) (sI σ 110) (sI σ 111) a1.toInt (cI σ 23).toNat) (pcn 10 (wr_set (sI σ 109) (sI σ 110) (sI σ 111) a1.toInt (cI σ 23).toNat) : Nat) ∧ wr_ok (wr_A (sI σ 109) (sI σ 111) a1.toInt) (wr_B (sI σ 109) (sI σ 111) a1.toInt) (wr_w st (sI σ 110)) (wr_w st (sI σ 111)) (wr_q (sI σ 112)) (cI σ 23).toNat V (2 ^ pcn 10 (wr_set (sI σ 109) (sI σ 110) (sI σ 111) a1.toInt (cI σ 23).toNat) - 1) ∧ V 0 = 0 ∧ v = V (2 ^ pcn 10 (wr_set (sI σ 109) (sI σ 110) (sI σ 111) a1.toInt (cI σ 23).toNat) - 1))) (fun σ hI => ?_) (fun σ τ v hI x F1 hB1 hPτ => ?_)
  · have h := R24.s hI.2.2.2.1
    have g2 : 0 ≤ cI σ 2 ∧ cI σ 2 ≤ 10 := hI.1 93 2 (by decide)
    have g5 : 0 ≤ cI σ 5 ∧ cI σ 5 ≤ 10 := hI.1 93 5 (by decide)
    have g23 : 0 ≤ cI σ 23 ∧ cI σ 23 ≤ 30 := hI.1 93 23 (by decide)
    refine (xc_wrong (dy := sI σ 109) (wh := sI σ 110) (ot := sI σ 111) (pl := sI σ 112) (cI σ 23).toNat (cI σ 2) (cI σ 5) a1.toInt hI.1 (ai_rng a1) (by omega) g5.2 g2.2 ?_ (fun l hl => ?_) (fun l hl => h.2.2.2.2 l (by omega) hl)).use (by decide) (fun r τ q => ?_)
    · rw [h.2.2.1]
      show cI σ 23 = _
      omega
    · have q := h.2.2.2.1 l hl
      exact ⟨congrArg Int32.toInt q.1, congrArg Int32.toInt q.2.1, congrArg Int32.toInt q.2.2.1, congrArg Int32.toInt q.2.2.2⟩
    · exact q
  · have h := R24.s hI.2.2.2.1
    have g2 : 0 ≤ cI σ 2 ∧ cI σ 2 ≤ 10 := hI.1 93 2 (by decide)
    have g5 : 0 ≤ cI σ 5 ∧ cI σ 5 ≤ 10 := hI.1 93 5 (by decide)
    have g23 : 0 ≤ cI σ 23 ∧ cI σ 23 ≤ 30 := hI.1 93 23 (by decide)
    have hL : wr_L (sI σ 109) (sI σ 110) (sI σ 111) (sI σ 112) (cI σ 23).toNat ((cI σ 2).toNat : Nat) ((cI σ 5).toNat : Nat) := fun l hl => by
      have q := h.2.2.2.2 l (by omega) hl
      rw [nOf g2.1, nOf g5.1]
      exact q
    have hSP : 1 ≤ (cI σ 5).toNat → 1 ≤ (cI σ 2).toNat := fun hp => by
      have zs : 1 ≤ cI τ 2 ∨ cI τ 5 = 0 := hPτ.1.2
      have f2 : cI τ 2 = cI σ 2 := F1.c 2 rfl
      have f5 : cI τ 5 = cI σ 5 := F1.c 5 rfl
      omega
    refine (xm_wrong (dy := sI σ 109) (wh := sI σ 110) (ot := sI σ 111) (pl := sI σ 112) (D := a1.toInt) (cI σ 23).toNat (cI σ 2).toNat (cI σ 5).toNat hB1 (ai_rng a1) (by omega) (by omega) (by omega) hSP ?_ ?_ ?_ (fun l hl => ⟨congrArg Int32.toInt (F1 109 l rfl), congrArg Int32.toInt (F1 110 l rfl), congrArg Int32.toInt (F1 111 l rfl), congrArg Int32.toInt (F1 112 l rfl)⟩) hL).use (by decide) (fun r2 τ2 p => ?_)
    · show cI τ 23 = _
      rw [F1.c 23 rfl]
      omega
    · rw [F1.c 2 rfl]
      omega
    · rw [F1.c 5 rfl]
      omega
    · obtain ⟨v2, rfl, hB2, F2, p⟩ := p
      have e : v2 = v := by
        rcases p with ⟨p1, p2⟩ | ⟨p1, p2, p3⟩ | ⟨p1, p2, p3⟩ <;> rcases x with ⟨x1, x2⟩ | ⟨x1, x2, x3⟩ | ⟨x1, x2, x3⟩
        · rw [p2, x2]
        · exact absurd x1 p1
        · exact absurd x1 p1
        · exact absurd p1 x1
        · rw [p3, x3]
        · omega
        · exact absurd p1 x1
        · omega
        · obtain ⟨st, V, hQ, hok, h0, ev⟩ := x3
          rw [ev]
          exact wr_same2 hL (by omega) (by omega) hSP p2 hQ hok h0 p3
      rw [e]
      exact ⟨rfl, hB2, mP.fr _ rfl rfl rfl rfl rfl rfl rfl rfl rfl rfl rfl rfl F2 hPτ, F2, RD.fq R24.d (by decide +kernel) F1 F2 hI.2.2.2.1⟩
abbrev PLin (d a b s S P N : Int) : Prop := 0 ≤ d ∧ d ≤ 9999 ∧ 0 ≤ a ∧ a < P ∧ ((b = -1 ∧ 0 ≤ s ∧ s < S) ∨ (s = -1 ∧ 0 ≤ b ∧ b < P ∧ a ≠ b)) ∧ N ≤ 29
set_option maxRecDepth 20000 in
theorem t24_line (a1 a2 a3 a4 : Int32) : Two 1 true (IR R24) (IR R24) 149 239 [.int a1, .int a2, .int a3, .int a4] := by
  rw [← oI a1, ← oI a2, ← oI a3, ← oI a4]
  refine two_E R24.d (GC := [(21, 0), (22, 9999), (23, 9999), (24, 9999), (25, 9999)]) (GM := [(93, 0), (93, 23), (109, 9999), (110, 9999), (111, 9999), (112, 9999)]) (by decide +kernel) rfl (fun σ v τ => (¬ PLin a1.toInt a2.toInt a3.toInt a4.toInt (cI σ 2) (cI σ 5) (cI σ 23) ∧ v = -1 ∧ (τ.1 21 0).toInt = cI σ 23 ∧ ∀ p j, p ≠ 21 → τ.1 p j = σ.1 p j) ∨ (PLin a1.toInt a2.toInt a3.toInt a4.toInt (cI σ 2) (cI σ 5) (cI σ 23) ∧ v = cI σ 23 ∧ (τ.1 21 0).toInt = cI σ 23 + 1 ∧ ∀ j, (τ.1 22 j = if j = (cI σ 23).toNat then Int32.ofInt a1.toInt else σ.1 22 j) ∧ (τ.1 23 j = if j = (cI σ 23).toNat then Int32.ofInt a2.toInt else σ.1 23 j) ∧ (τ.1 24 j = if j = (cI σ 23).toNat then Int32.ofInt a3.toInt else σ.1 24 j) ∧ (τ.1 25 j = if j = (cI σ 23).toNat then Int32.ofInt a4.toInt else σ.1 25 j))) (fun σ hI => ?_) (fun σ τ v hI x F1 hB1 hPτ => ?_)
  · have h := R24.s hI.2.2.2.1
    refine (xc_lineE a1.toInt a2.toInt a3.toInt a4.toInt (cI σ 2) (cI σ 5) (cI σ 23) hI.1 (ai_rng a1) (ai_rng a2) (ai_rng a3) (ai_rng a4) (hI.1 93 2 (by decide)) (hI.1 93 5 (by decide)) (hI.1 93 23 (by decide)) (congrArg Int32.toInt h.1) (congrArg Int32.toInt h.2.1) (congrArg Int32.toInt h.2.2.1)).use (by decide) (fun r τ q => ?_)
    obtain ⟨hB1, ⟨q, rfl, d, F⟩ | ⟨q, rfl, d, F⟩⟩ := q
    · exact ⟨-1, rfl, hB1, FQ.up rfl (PPn F), Or.inl ⟨q, rfl, d, fun p j hp => F p j (by
        show (([(21, 0)] : List (Nat × Nat)).any _) = false
        rw [List.any_eq_false]
        intro w hw
        rw [List.mem_singleton.mp hw]
        simp only [Bool.and_eq_true, Bool.or_eq_true, not_and]
        intro e
        rcases e with e | e
        · exact absurd (Nat.eq_of_beq_eq_true e).symm hp
        · exact absurd e (by decide))⟩⟩
    · exact ⟨_, rfl, hB1, puF.ft rfl rfl F, Or.inr ⟨q, rfl, d, fun j => ⟨F 22 j rfl, F 23 j rfl, F 24 j rfl, F 25 j rfl⟩⟩⟩
  · have h := R24.s hI.2.2.2.1
    have g23 : 0 ≤ cI σ 23 ∧ cI σ 23 ≤ 30 := hI.1 93 23 (by decide)
    have o1 := ai_rng a1
    have o2 := ai_rng a2
    have o3 := ai_rng a3
    have o4 := ai_rng a4
    refine (xm_lineE a1.toInt a2.toInt a3.toInt a4.toInt (cI σ 2) (cI σ 5) (cI σ 23) hB1 (ai_rng a1) (ai_rng a2) (ai_rng a3) (ai_rng a4) (hI.1 93 2 (by decide)) (hI.1 93 5 (by decide)) g23 (F1.c 2 rfl) (F1.c 5 rfl) (F1.c 23 rfl)).use (by decide) (fun r2 τ2 p => ?_)
    obtain ⟨hB2, p⟩ := p
    have ft : FQ [(93, 0), (93, 23), (109, 9999), (110, 9999), (111, 9999), (112, 9999)] τ τ2 := by
      rcases p with ⟨-, -, -, F⟩ | ⟨-, -, -, F⟩
      · exact FQ.up rfl (PPn F)
      · exact puF.ft rfl rfl F
    have z2 : cI τ2 2 = cI σ 2 := (ft.c 2 rfl).trans (F1.c 2 rfl)
    have z5 : cI τ2 5 = cI σ 5 := (ft.c 5 rfl).trans (F1.c 5 rfl)
    have hp2 : mP τ2 := mP.fr _ rfl rfl rfl rfl rfl rfl rfl rfl rfl rfl rfl rfl ft hPτ
    have q3 : τ2.1 3 0 = τ2.1 93 2 := by rw [ft 3 0 rfl, F1 3 0 rfl, ft 93 2 rfl, F1 93 2 rfl]; exact h.1
    have q7 : τ2.1 7 0 = τ2.1 93 5 := by rw [ft 7 0 rfl, F1 7 0 rfl, ft 93 5 rfl, F1 93 5 rfl]; exact h.2.1
    rcases p with ⟨p, rfl, d, F⟩ | ⟨p, rfl, d, F⟩
    · rcases x with ⟨x, rfl, x7, x8⟩ | ⟨x, rfl, x7, x8⟩
      · have d : cI τ2 23 = cI σ 23 := d
        refine ⟨rfl, hB2, hp2, ft, R24.m ⟨q3, q7, Int32.toInt_inj.mp ?_, fun l hl => ?_, fun l hl hl2 => ?_⟩⟩
        · rw [ft 21 0 rfl, x7]
          exact d.symm
        · rw [ft 22 l rfl, ft 23 l rfl, ft 24 l rfl, ft 25 l rfl, x8 22 l (by decide), x8 23 l (by decide), x8 24 l (by decide), x8 25 l (by decide), show τ2.1 109 l = σ.1 109 l from (F 109 l rfl).trans (F1 109 l rfl), show τ2.1 110 l = σ.1 110 l from (F 110 l rfl).trans (F1 110 l rfl), show τ2.1 111 l = σ.1 111 l from (F 111 l rfl).trans (F1 111 l rfl), show τ2.1 112 l = σ.1 112 l from (F 112 l rfl).trans (F1 112 l rfl)]
          exact h.2.2.2.1 l hl
        · rw [z2, z5, show τ2.1 110 l = σ.1 110 l from (F 110 l rfl).trans (F1 110 l rfl), show τ2.1 111 l = σ.1 111 l from (F 111 l rfl).trans (F1 111 l rfl), show τ2.1 112 l = σ.1 112 l from (F 112 l rfl).trans (F1 112 l rfl)]
          exact h.2.2.2.2 l hl (by omega)
      · exact absurd x p
    · rcases x with ⟨x, rfl, x7, x8⟩ | ⟨x, rfl, x7, x8⟩
      · exact absurd p x
      · have d : cI τ2 23 = cI σ 23 + 1 := d
        have m109 : ∀ l, τ2.1 109 l = if l = (cI σ 23).toNat then Int32.ofInt a1.toInt else σ.1 109 l := fun l => (F 109 l rfl).trans (by
          show (if l = (cI σ 23).toNat then Int32.ofInt a1.toInt else τ.1 109 l) = _
          rw [F1 109 l rfl])
        have m110 : ∀ l, τ2.1 110 l = if l = (cI σ 23).toNat then Int32.ofInt a2.toInt else σ.1 110 l := fun l => (F 110 l rfl).trans (by
          show (if l = (cI σ 23).toNat then Int32.ofInt a2.toInt else τ.1 110 l) = _
          rw [F1 110 l rfl])
        have m111 : ∀ l, τ2.1 111 l = if l = (cI σ 23).toNat then Int32.ofInt a3.toInt else σ.1 111 l := fun l => (F 111 l rfl).trans (by
          show (if l = (cI σ 23).toNat then Int32.ofInt a3.toInt else τ.1 111 l) = _
          rw [F1 111 l rfl])
        have m112 : ∀ l, τ2.1 112 l = if l = (cI σ 23).toNat then Int32.ofInt a4.toInt else σ.1 112 l := fun l => (F 112 l rfl).trans (by
          show (if l = (cI σ 23).toNat then Int32.ofInt a4.toInt else τ.1 112 l) = _
          rw [F1 112 l rfl])
        refine ⟨rfl, hB2, hp2, ft, R24.m ⟨q3, q7, Int32.toInt_inj.mp ?_, fun l hl => ?_, fun l hl hl2 => ?_⟩⟩
        · rw [ft 21 0 rfl, x7]
          exact d.symm
        · obtain ⟨x22, x23, x24, x25⟩ := x8 l
          rw [ft 22 l rfl, ft 23 l rfl, ft 24 l rfl, ft 25 l rfl, x22, x23, x24, x25, m109, m110, m111, m112]
          by_cases e : l = (cI σ 23).toNat
          · rw [if_pos e, if_pos e, if_pos e, if_pos e, if_pos e, if_pos e, if_pos e, if_pos e]
            exact ⟨rfl, rfl, rfl, rfl⟩
          · rw [if_neg e, if_neg e, if_neg e, if_neg e, if_neg e, if_neg e, if_neg e, if_neg e]
            exact h.2.2.2.1 l hl
        · rw [z2, z5, m110, m111, m112]
          by_cases e : l = (cI σ 23).toNat
          · rw [if_pos e, if_pos e, if_pos e, ti_of o2.1 o2.2, ti_of o3.1 o3.2, ti_of o4.1 o4.2]
            obtain ⟨p1, p2, p3, p4, p5, p6⟩ := p
            refine ⟨⟨p3, p4⟩, ?_⟩
            rcases p5 with p5 | ⟨p5, p6, p7, p8⟩
            · exact Or.inl p5
            · exact Or.inr ⟨p5, p6, p7, fun z => p8 z.symm⟩
          · rw [if_neg e, if_neg e, if_neg e]
            exact h.2.2.2.2 l hl (by omega)
set_option maxRecDepth 20000 in
theorem t24_person (a1 a2 a3 : Int32) : Two 1 true (IR R24) (IR R24) 131 168 [.int a1, .int a2, .int a3] := by
  rw [← oI a1, ← oI a2, ← oI a3]
  refine two_E R24.d (GC := [(7, 0), (8, 9999), (9, 9999), (10, 9999), (11, 9999), (12, 9999)]) (GM := [(93, 0), (93, 5), (96, 9999), (97, 9999), (98, 9999), (99, 9999)]) (by decide +kernel) rfl (fun σ v τ => (¬ PPer a1.toInt a2.toInt a3.toInt (cI σ 2) (cI σ 5) ∧ v = -1 ∧ (τ.1 7 0).toInt = cI σ 5) ∨ (PPer a1.toInt a2.toInt a3.toInt (cI σ 2) (cI σ 5) ∧ v = cI σ 5 ∧ (τ.1 7 0).toInt = cI σ 5 + 1)) (fun σ hI => ?_) (fun σ τ v hI x F1 hB1 hPτ => ?_)
  · have h := R24.s hI.2.2.2.1
    refine (xc_personE a1.toInt a2.toInt a3.toInt (cI σ 2) (cI σ 5) hI.1 (ai_rng a1) (ai_rng a2) (ai_rng a3) (hI.1 93 2 (by decide)) (hI.1 93 5 (by decide)) (congrArg Int32.toInt h.1) (congrArg Int32.toInt h.2.1)).use (by decide) (fun r τ q => ?_)
    obtain ⟨hB1, ⟨q, rfl, d, F⟩ | ⟨q, rfl, d, F⟩⟩ := q
    · exact ⟨-1, rfl, hB1, FQ.up rfl (PPn F), Or.inl ⟨q, rfl, d⟩⟩
    · exact ⟨_, rfl, hB1, puF.ft rfl rfl F, Or.inr ⟨q, rfl, d⟩⟩
  · have h := R24.s hI.2.2.2.1
    refine (xm_personE a1.toInt a2.toInt a3.toInt (cI σ 2) (cI σ 5) hB1 (ai_rng a1) (ai_rng a2) (ai_rng a3) (hI.1 93 2 (by decide)) (hI.1 93 5 (by decide)) (F1.c 2 rfl) (F1.c 5 rfl)).use (by decide) (fun r2 τ2 p => ?_)
    obtain ⟨hB2, p⟩ := p
    have ft : FQ [(93, 0), (93, 5), (96, 9999), (97, 9999), (98, 9999), (99, 9999)] τ τ2 := by
      rcases p with ⟨-, -, -, F⟩ | ⟨-, -, -, F⟩
      · exact FQ.up rfl (PPn F)
      · exact puF.ft rfl rfl F
    have z2 : cI τ2 2 = cI σ 2 := (ft.c 2 rfl).trans (F1.c 2 rfl)
    have z23 : cI τ2 23 = cI σ 23 := (ft.c 23 rfl).trans (F1.c 23 rfl)
    have zm : 1 ≤ cI τ2 2 ∨ cI τ2 5 = 0 → mP τ2 := fun z => ⟨⟨pPP.fr _ rfl rfl rfl rfl rfl rfl rfl rfl ft hPτ.1.1, z⟩, mP_img (ft.c 64 rfl) (fun i => ft 133 i rfl) hPτ⟩
    have zs : 1 ≤ cI τ 2 ∨ cI τ 5 = 0 := hPτ.1.2
    have f2 : cI τ 2 = cI σ 2 := F1.c 2 rfl
    have f5 : cI τ 5 = cI σ 5 := F1.c 5 rfl
    have rest : (τ.1 7 0).toInt = cI τ2 5 → cI σ 5 ≤ cI τ2 5 → R24 (tS τ2) (uS τ2) := fun k1 k2 => R24.m ⟨by rw [ft 3 0 rfl, F1 3 0 rfl, ft 93 2 rfl, F1 93 2 rfl]; exact h.1, by
      refine Int32.toInt_inj.mp ?_
      rw [ft 7 0 rfl]
      exact k1, by rw [ft 21 0 rfl, F1 21 0 rfl, ft 93 23 rfl, F1 93 23 rfl]; exact h.2.2.1, fun l hl => by
      rw [ft 22 l rfl, ft 23 l rfl, ft 24 l rfl, ft 25 l rfl, ft 109 l rfl, ft 110 l rfl, ft 111 l rfl, ft 112 l rfl, F1 22 l rfl, F1 23 l rfl, F1 24 l rfl, F1 25 l rfl, F1 109 l rfl, F1 110 l rfl, F1 111 l rfl, F1 112 l rfl]
      exact h.2.2.2.1 l hl, fun l hl hl2 => by
      have q := h.2.2.2.2 l hl (by omega)
      rw [ft 110 l rfl, ft 111 l rfl, ft 112 l rfl, F1 110 l rfl, F1 111 l rfl, F1 112 l rfl, z2]
      omega⟩
    rcases p with ⟨p, rfl, d, F⟩ | ⟨p, rfl, d, F⟩
    · rcases x with ⟨x, rfl, x7⟩ | ⟨x, rfl, x7⟩
      · have d : cI τ2 5 = cI σ 5 := d
        exact ⟨rfl, hB2, zm (by omega), ft, rest (by omega) (by omega)⟩
      · exact absurd x p
    · rcases x with ⟨x, rfl, x7⟩ | ⟨x, rfl, x7⟩
      · exact absurd p x
      · have d : cI τ2 5 = cI σ 5 + 1 := d
        have pp := p.1
        have pp2 := p.2.1
        exact ⟨rfl, hB2, zm (by omega), ft, rest (by omega) (by omega)⟩
set_option maxRecDepth 20000 in
theorem t24_spot (a1 : Int32) : Two 1 true (IR R24) (IR R24) 129 166 [.int a1] := by
  rw [← oI a1]
  have o1 := ai_rng a1
  refine two_E R24.d (GC := [(3, 0), (4, 9999)]) (GM := [(93, 0), (93, 2), (94, 9999)]) (by decide +kernel) rfl (fun σ v τ => (¬ (0 ≤ a1.toInt ∧ a1.toInt ≤ 99 ∧ cI σ 2 ≤ 9) ∧ v = -1 ∧ (τ.1 3 0).toInt = cI σ 2) ∨ ((0 ≤ a1.toInt ∧ a1.toInt ≤ 99 ∧ cI σ 2 ≤ 9) ∧ v = cI σ 2 ∧ (τ.1 3 0).toInt = cI σ 2 + 1)) (fun σ hI => ?_) (fun σ τ v hI x F1 hB1 hPτ => ?_)
  · have e : (σ.1 3 0).toInt = cI σ 2 := congrArg Int32.toInt (R24.s hI.2.2.2.1).1
    have g : 0 ≤ cI σ 2 ∧ cI σ 2 ≤ 10 := hI.1 93 2 (by decide)
    refine Sp.up (D := 21) ?_ (by decide)
    refine Sp.at rfl rfl ?_
    refine sg_csp a1.toInt (cI σ 2) hI.1 ⟨ai_rng a1, g, trivial⟩ ⟨e, trivial⟩ ?_ ?_ ?_ ?_ <;>
    · intro τ y hB1 hF1 f _ _ c
      have f1 := f.1
      have f2 := f.2.1
      have c1 := c.1
      refine ⟨_, rfl, hB1, hF1, ?_⟩
      first
        | exact Or.inl ⟨by omega, by omega, by omega⟩
        | exact Or.inr ⟨by omega, by omega, by omega⟩
  · have h := R24.s hI.2.2.2.1
    have g : 0 ≤ cI σ 2 ∧ cI σ 2 ≤ 10 := hI.1 93 2 (by decide)
    have zs : 1 ≤ cI τ 2 ∨ cI τ 5 = 0 := hPτ.1.2
    have f2 : cI τ 2 = cI σ 2 := F1.c 2 rfl
    refine Sp.up (D := 21) ?_ (by decide)
    refine Sp.at rfl rfl ?_
    refine sg_msp a1.toInt (cI σ 2) hB1 ⟨ai_rng a1, g, trivial⟩ ⟨F1.c 2 rfl, trivial⟩ ?_ ?_ ?_ ?_ <;>
    · intro τ2 y2 hB2 hF2 f3 _ _ c2
      have f4 := f3.1
      have f5 := f3.2.1
      have c2' : cI τ2 2 = _ := c2.1
      have c5 : cI τ2 5 = cI τ 5 := FQ.c hF2 5 rfl
      have key : (τ.1 3 0).toInt = cI τ2 2 → cI σ 2 ≤ cI τ2 2 → an_GB pm_B τ2 ∧ mP τ2 ∧ FQ [(93, 0), (93, 2), (94, 9999)] τ τ2 ∧ R24 (tS τ2) (uS τ2) := fun k1 k2 => by
        have F2 : FQ [(93, 0), (93, 2), (94, 9999)] τ τ2 := hF2
        have e5 : cI τ2 5 = cI σ 5 := (F2.c 5 rfl).trans (F1.c 5 rfl)
        have e23 : cI τ2 23 = cI σ 23 := (F2.c 23 rfl).trans (F1.c 23 rfl)
        refine ⟨hB2, ⟨⟨pPP.fr _ rfl rfl rfl rfl rfl rfl rfl rfl F2 hPτ.1.1, (show 1 ≤ cI τ2 2 ∨ cI τ2 5 = 0 by omega)⟩, mP_img (F2.c 64 rfl) (fun i => F2 133 i rfl) hPτ⟩, F2, R24.m ⟨?_, ?_, ?_, fun l hl => ?_, fun l hl hl2 => ?_⟩⟩
        · refine Int32.toInt_inj.mp ?_
          rw [F2 3 0 rfl]
          exact k1
        · rw [F2 7 0 rfl, F1 7 0 rfl, F2 93 5 rfl, F1 93 5 rfl]
          exact h.2.1
        · rw [F2 21 0 rfl, F1 21 0 rfl, F2 93 23 rfl, F1 93 23 rfl]
          exact h.2.2.1
        · rw [F2 22 l rfl, F2 23 l rfl, F2 24 l rfl, F2 25 l rfl, F2 109 l rfl, F2 110 l rfl, F2 111 l rfl, F2 112 l rfl, F1 22 l rfl, F1 23 l rfl, F1 24 l rfl, F1 25 l rfl, F1 109 l rfl, F1 110 l rfl, F1 111 l rfl, F1 112 l rfl]
          exact h.2.2.2.1 l hl
        · have q := h.2.2.2.2 l hl (by omega)
          rw [F2 110 l rfl, F2 111 l rfl, F2 112 l rfl, F1 110 l rfl, F1 111 l rfl, F1 112 l rfl, e5]
          omega
      rcases x with ⟨x1, x2, x3⟩ | ⟨x1, x2, x3⟩
      · first
          | (exfalso; omega)
          | exact ⟨by rw [x2], key (by omega) (by omega)⟩
      · first
          | (exfalso; omega)
          | exact ⟨by rw [x2], key (by omega) (by omega)⟩
theorem t24_image (a1 : Int32) (hw : a1 = 0 ∨ a1 = 1) : Two 1 true (IR R24) (IR R24) 151 245 [.int a1] := tR_image R24.d (by decide +kernel) (by decide +kernel) a1 hw
/-- for the beginning -/
def R24b (t : Nat → Nat → Int32) (u : Nat → Int32) : Bool := decide (t 3 0 = u 1) && decide (t 7 0 = u 192) && decide (t 21 0 = u 461) && decide ((u 461).toInt.toNat = 0) && (List.range 30).all (fun l => decide (t 22 l = u (462 + 4 * l)) && decide (t 23 l = u (463 + 4 * l)) && decide (t 24 l = u (464 + 4 * l)) && decide (t 25 l = u (465 + 4 * l)))
theorem R24b_ok {t : Nat → Nat → Int32} {u : Nat → Int32} (h : R24b t u = true) : R24 t u := by
  unfold R24b at h
  rw [Bool.and_eq_true, Bool.and_eq_true, Bool.and_eq_true, Bool.and_eq_true] at h
  refine ⟨of_decide_eq_true h.1.1.1.1, of_decide_eq_true h.1.1.1.2, of_decide_eq_true h.1.1.2, fun l hl => ?_, fun l hl hl2 => ?_⟩
  · have q := List.all_eq_true.mp h.2 l (List.mem_range.mpr hl)
    rw [Bool.and_eq_true, Bool.and_eq_true, Bool.and_eq_true] at q
    exact ⟨of_decide_eq_true q.1.1.1, of_decide_eq_true q.1.1.2, of_decide_eq_true q.1.2, of_decide_eq_true q.2⟩
  · rw [of_decide_eq_true h.1.2] at hl2
    exact absurd hl2 (Nat.not_lt_zero l)
