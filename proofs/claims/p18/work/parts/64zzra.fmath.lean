/-! one's debts in the order that costs least: the least over sets -/
theorem pcn_xo : ∀ m, m < 9 → ∀ a, a < 256 → a < 2 ^ m → pcn 10 ((2 ^ m - 1) ^^^ a) = m - pcn 10 a ∧ pcn 10 a ≤ m ∧ (2 ^ m - 1) ^^^ a < 2 ^ m ∧ (((2 ^ m - 1) ^^^ a = 0) → a = 2 ^ m - 1) := by decide +kernel
theorem or_xo : ∀ a, a < 256 → ∀ i, i < 8 → Nat.testBit a i = false → a ||| 2 ^ i = a ^^^ 2 ^ i ∧ (a ||| 2 ^ i) > a := by decide +kernel
theorem pcn_0 : ∀ m, m < 1024 → pcn 10 m = 0 → m = 0 := by decide +kernel
theorem tb_xo : ∀ m, m < 9 → ∀ a, a < 256 → a < 2 ^ m → ∀ i, i < m → Nat.testBit ((2 ^ m - 1) ^^^ a) i = !Nat.testBit a i := by decide +kernel
theorem lt_xo : ∀ m, m < 9 → ∀ a, a < 256 → a < 2 ^ m → ∀ i, i < m → (a ||| 2 ^ i) < 2 ^ m ∧ (a ^^^ 2 ^ i) < 2 ^ m := by decide +kernel
section FM
variable (m : Nat) (G : Nat → Nat → Int)
def cFk : Nat → Nat → Int
  | 0, _ => 0
  | f + 1, s => mnB 1000000000 (Nat.testBit s) (fun i => G (m - pcn 10 s) i + cFk f (s ^^^ 2 ^ i)) m
/-- the least that the debts of a set come to -/
def cF (s : Nat) : Int := cFk m G (pcn 10 s) s
theorem cF_0 : cF m G 0 = 0 := rfl
variable {m G}
theorem cF_s (hm : m ≤ 8) {s : Nat} (hs : s < 2 ^ m) (h0 : s ≠ 0) : cF m G s = mnB 1000000000 (Nat.testBit s) (fun i => G (m - pcn 10 s) i + cF m G (s ^^^ 2 ^ i)) m := by
  have h2 : s < 1024 := Nat.lt_of_lt_of_le hs (Nat.le_trans (Nat.pow_le_pow_right (by decide) hm) (by decide))
  have hp : pcn 10 s ≠ 0 := fun z => h0 (pcn_0 s h2 z)
  obtain ⟨f, hf⟩ := Nat.exists_eq_succ_of_ne_zero hp
  unfold cF
  rw [hf]
  show mnB 1000000000 (Nat.testBit s) (fun i => G (m - pcn 10 s) i + cFk m G f (s ^^^ 2 ^ i)) m = _
  rw [hf]
  refine mnB_cg (fun i _ => rfl) (fun i hi ht => ?_)
  have e := pcn_x s h2 i (by omega) ht
  rw [show pcn 10 (s ^^^ 2 ^ i) = f by omega]
theorem bit_ex {s : Nat} (hs : s < 2 ^ m) (h0 : s ≠ 0) : ∃ i, i < m ∧ Nat.testBit s i = true := by
  obtain ⟨t, ht⟩ := Nat.exists_testBit_of_ne_zero h0
  by_cases h : t < m
  · exact ⟨t, h, ht⟩
  · rw [Nat.testBit_lt_two_pow (Nat.lt_of_lt_of_le hs (Nat.pow_le_pow_right (by decide) (by omega)))] at ht
    cases ht
theorem xo_lt {s i : Nat} (hs : s < 2 ^ m) (hi : i < m) : s ^^^ 2 ^ i < 2 ^ m := Nat.xor_lt_two_pow hs (Nat.pow_lt_pow_right (by decide) hi)
/-- bounds -/
theorem cF_b (hm : m ≤ 8) (hG : ∀ k i, k < m → i < m → 0 ≤ G k i ∧ G k i ≤ 20000000) : ∀ (n s : Nat), pcn 10 s = n → s < 2 ^ m → 0 ≤ cF m G s ∧ cF m G s ≤ 20000000 * n
  | 0, s, hn, hs => by
    have h2 : s < 1024 := Nat.lt_of_lt_of_le hs (Nat.le_trans (Nat.pow_le_pow_right (by decide) hm) (by decide))
    rw [pcn_0 s h2 hn]
    exact ⟨Int.le_refl _, Int.le_refl _⟩
  | n + 1, s, hn, hs => by
    have h2 : s < 1024 := Nat.lt_of_lt_of_le hs (Nat.le_trans (Nat.pow_le_pow_right (by decide) hm) (by decide))
    have h0 : s ≠ 0 := fun z => by
      rw [z] at hn
      exact absurd hn (by show ¬ (0 : Nat) = n + 1; omega)
    have st : ∀ i, i < m → Nat.testBit s i = true → (0 ≤ G (m - pcn 10 s) i + cF m G (s ^^^ 2 ^ i) ∧ G (m - pcn 10 s) i + cF m G (s ^^^ 2 ^ i) ≤ 20000000 * (n + 1 : Nat)) := fun i hi ht => by
      have e := pcn_x s h2 i (by omega) ht
      have ih := cF_b hm hG n (s ^^^ 2 ^ i) (by omega) (xo_lt hs hi)
      have g := hG (m - pcn 10 s) i (by omega) hi
      omega
    have pl : n + 1 ≤ 10 := by
      have := pcn_10 s h2
      omega
    rw [cF_s hm hs h0]
    obtain ⟨i0, i1, i2⟩ := bit_ex hs h0
    have le := mnB_le (B := 1000000000) (P := Nat.testBit s) (f := fun i => G (m - pcn 10 s) i + cF m G (s ^^^ 2 ^ i)) i1 i2
    have s0 := st i0 i1 i2
    rcases mnB_at (B := 1000000000) (P := Nat.testBit s) (f := fun i => G (m - pcn 10 s) i + cF m G (s ^^^ 2 ^ i)) m with e | ⟨i, j1, j2, e⟩
    · rw [e] at le ⊢
      have le : (1000000000 : Int) ≤ G (m - pcn 10 s) i0 + cF m G (s ^^^ 2 ^ i0) := le
      omega
    · rw [e]
      exact st i j1 j2
/-- one that may be next at the least cost -/
def cPq (m : Nat) (G : Nat → Nat → Int) (s : Nat) : Nat → Bool := fun i => Nat.testBit s i && decide (G (m - pcn 10 s) i + cF m G (s ^^^ 2 ^ i) = cF m G s)
theorem cPq_ex (hm : m ≤ 8) (hG : ∀ k i, k < m → i < m → 0 ≤ G k i ∧ G k i ≤ 20000000) {s : Nat} (hs : s < 2 ^ m) (h0 : s ≠ 0) : ∃ i, i < m ∧ cPq m G s i = true := by
  have b := cF_b hm hG (pcn 10 s) s rfl hs
  have h2 : s < 1024 := Nat.lt_of_lt_of_le hs (Nat.le_trans (Nat.pow_le_pow_right (by decide) hm) (by decide))
  have p10 := pcn_10 s h2
  have e := cF_s (G := G) hm hs h0
  rcases mnB_at (B := 1000000000) (P := Nat.testBit s) (f := fun i => G (m - pcn 10 s) i + cF m G (s ^^^ 2 ^ i)) m with w | ⟨i, j1, j2, w⟩
  · rw [w] at e
    omega
  · refine ⟨i, j1, ?_⟩
    unfold cPq
    rw [j2, Bool.true_and]
    exact decide_eq_true (w.symm.trans e.symm)
end FM
/-- the first from i on -/
def sF (P : Nat → Bool) : Nat → Nat → Nat
  | 0, i => i
  | f + 1, i => if P i = true then i else sF P f (i + 1)
theorem sF_ok {P : Nat → Bool} : ∀ (f i : Nat), (∃ j, i ≤ j ∧ j < i + f ∧ P j = true) → sF P f i < i + f ∧ P (sF P f i) = true
  | 0, i, ⟨j, h1, h2, _⟩ => absurd h2 (by omega)
  | f + 1, i, ⟨j, h1, h2, h3⟩ => by
    by_cases c : P i = true
    · rw [show sF P (f + 1) i = i from if_pos c]
      exact ⟨by omega, c⟩
    · rw [show sF P (f + 1) i = sF P f (i + 1) from if_neg c]
      have ne : j ≠ i := fun z => c (by rw [← z]; exact h3)
      have ih := sF_ok f (i + 1) ⟨j, by omega, by omega, h3⟩
      exact ⟨by omega, ih.2⟩
/-- what is left behind k of them -/
def sqF (m : Nat) (G : Nat → Nat → Int) : Nat → Nat
  | 0 => 2 ^ m - 1
  | k + 1 => sqF m G k ^^^ 2 ^ (sF (cPq m G (sqF m G k)) m 0)
theorem sqF_ok {m : Nat} {G : Nat → Nat → Int} (hm : m ≤ 8) (hG : ∀ k i, k < m → i < m → 0 ≤ G k i ∧ G k i ≤ 20000000) : ∀ k, k ≤ m → sqF m G k < 2 ^ m ∧ pcn 10 (sqF m G k) = m - k
  | 0, _ => by
    have h := (show ∀ m, m < 9 → pcn 10 (2 ^ m - 1) = m by decide +kernel) m (by omega)
    exact ⟨Nat.sub_lt (Nat.two_pow_pos m) (by decide), h⟩
  | k + 1, hk => by
    obtain ⟨h1, h2⟩ := sqF_ok hm hG k (by omega)
    have l2 : sqF m G k < 1024 := Nat.lt_of_lt_of_le h1 (Nat.le_trans (Nat.pow_le_pow_right (by decide) hm) (by decide))
    have h0 : sqF m G k ≠ 0 := fun z => by
      rw [z] at h2
      exact absurd h2 (by show ¬ (0 : Nat) = m - k; omega)
    obtain ⟨j, j1, j2⟩ := cPq_ex hm hG h1 h0
    obtain ⟨f1, f2⟩ := sF_ok (P := cPq m G (sqF m G k)) m 0 ⟨j, Nat.zero_le _, by omega, j2⟩
    rw [Nat.zero_add] at f1
    have tb : Nat.testBit (sqF m G k) (sF (cPq m G (sqF m G k)) m 0) = true := (Bool.and_eq_true_iff.mp f2).1
    have e := pcn_x _ l2 _ (by omega) tb
    refine ⟨xo_lt h1 f1, ?_⟩
    show pcn 10 (sqF m G k ^^^ 2 ^ (sF (cPq m G (sqF m G k)) m 0)) = _
    omega
