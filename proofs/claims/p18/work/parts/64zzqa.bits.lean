/-! bits of small sets, the least over some, counts of bits (pieces of 64t, 64ta, 64wn) -/
def mnB (B : Int) (P : Nat → Bool) (f : Nat → Int) : Nat → Int
  | 0 => B
  | k + 1 => if P k then min (mnB B P f k) (f k) else mnB B P f k
theorem mnB_le {B : Int} {P : Nat → Bool} {f : Nat → Int} : ∀ {k i : Nat}, i < k → P i = true → mnB B P f k ≤ f i
  | 0, i, h, _ => absurd h (Nat.not_lt_zero _)
  | k + 1, i, h, hp => by
    unfold mnB
    by_cases e : i = k
    · subst e
      rw [if_pos hp]
      omega
    · have ih := mnB_le (B := B) (f := f) (show i < k by omega) hp
      split <;> omega
theorem mnB_at {B : Int} {P : Nat → Bool} {f : Nat → Int} : ∀ k : Nat, mnB B P f k = B ∨ ∃ i, i < k ∧ P i = true ∧ mnB B P f k = f i
  | 0 => Or.inl rfl
  | k + 1 => by
    unfold mnB
    by_cases hp : P k = true
    · rw [if_pos hp]
      by_cases hl : f k ≤ mnB B P f k
      · exact Or.inr ⟨k, by omega, hp, by omega⟩
      · have e : min (mnB B P f k) (f k) = mnB B P f k := by omega
        rw [e]
        rcases mnB_at (B := B) (P := P) (f := f) k with h | ⟨i, h1, h2, h3⟩
        · exact Or.inl h
        · exact Or.inr ⟨i, by omega, h2, h3⟩
    · rw [if_neg hp]
      rcases mnB_at (B := B) (P := P) (f := f) k with h | ⟨i, h1, h2, h3⟩
      · exact Or.inl h
      · exact Or.inr ⟨i, by omega, h2, h3⟩
theorem mnB_co {B B' : Int} {P P' : Nat → Bool} {f f' : Nat → Int} {k k' : Nat} (h1 : ∃ i, i < k ∧ P i = true) (hs : ∀ i, i < k → P i = true → f i < B ∧ f i < B') (h : ∀ i, i < k → P i = true → ∃ j, j < k' ∧ P' j = true ∧ f' j = f i) (h' : ∀ j, j < k' → P' j = true → ∃ i, i < k ∧ P i = true ∧ f i = f' j) : mnB B P f k = mnB B' P' f' k' := by
  obtain ⟨i0, a0, a1⟩ := h1
  have l0 := mnB_le (B := B) (f := f) a0 a1
  have s0 := hs i0 a0 a1
  rcases mnB_at (B := B) (P := P) (f := f) k with e | ⟨i, b1, b2, b3⟩
  · omega
  · obtain ⟨j, c1, c2, c3⟩ := h i b1 b2
    have l1 := mnB_le (B := B') (f := f') c1 c2
    have si := hs i b1 b2
    rcases mnB_at (B := B') (P := P') (f := f') k' with e | ⟨j2, d1, d2, d3⟩
    · omega
    · obtain ⟨i2, e1, e2, e3⟩ := h' j2 d1 d2
      have l2 := mnB_le (B := B) (f := f) e1 e2
      omega
theorem mnB_cg {B : Int} {P P' : Nat → Bool} {f f' : Nat → Int} : ∀ {k : Nat}, (∀ i, i < k → P i = P' i) → (∀ i, i < k → P i = true → f i = f' i) → mnB B P f k = mnB B P' f' k
  | 0, _, _ => rfl
  | k + 1, h1, h2 => by
    unfold mnB
    rw [mnB_cg (k := k) (fun i hi => h1 i (by omega)) (fun i hi => h2 i (by omega)), ← h1 k (by omega)]
    by_cases hp : P k = true
    · rw [if_pos hp, if_pos hp, h2 k (by omega) hp]
    · rw [if_neg hp, if_neg hp]
theorem x2p : ∀ m, m < 1024 → ∀ t, t < 10 → Nat.testBit m t = true → m ^^^ 2 ^ t = m - 2 ^ t ∧ 2 ^ t ≤ m := by decide +kernel
theorem bt1 : ∀ m, m < 1024 → ∀ t, t < 10 → (an_f 3 (an_f 7 (Int32.ofInt (m : Nat)) (Int32.ofInt (t : Nat))) (Int32.ofInt 1)).toInt = if Nat.testBit m t then 1 else 0 := by decide +kernel
theorem bt2 : ∀ m, m < 1024 → ∀ t, t < 10 → (an_f 3 (Int32.ofInt (m : Nat)) (an_f 5 (an_f 6 (Int32.ofInt 1) (Int32.ofInt (t : Nat))) (Int32.ofInt (-1)))).toInt = if Nat.testBit m t then ((m ^^^ 2 ^ t : Nat) : Int) else m := by decide +kernel
theorem bt3 : ∀ t, t < 11 → (an_f 6 (Int32.ofInt 1) (Int32.ofInt (t : Nat))).toInt = ((2 ^ t : Nat) : Int) := by decide +kernel
theorem nOf {x : Int} (h : 0 ≤ x) : ((x.toNat : Nat) : Int) = x := by omega
theorem bitI {x i y4 y5 : Int} (hx : 0 ≤ x ∧ x ≤ 1023) (hi : 0 ≤ i ∧ i ≤ 9) (d4 : (an_f 7 (Int32.ofInt x) (Int32.ofInt i)).toInt = y4) (d5 : (an_f 3 (Int32.ofInt y4) (Int32.ofInt 1)).toInt = y5) : y5 = if Nat.testBit x.toNat i.toNat then 1 else 0 := by
  have h := bt1 x.toNat (by omega) i.toNat (by omega)
  rw [nOf hx.1, nOf hi.1] at h
  rw [← d5, ← d4, oI]
  exact h
theorem bitT {x i y4 y5 : Int} (hx : 0 ≤ x ∧ x ≤ 1023) (hi : 0 ≤ i ∧ i ≤ 9) (d4 : (an_f 7 (Int32.ofInt x) (Int32.ofInt i)).toInt = y4) (d5 : (an_f 3 (Int32.ofInt y4) (Int32.ofInt 1)).toInt = y5) (h : 1 ≤ y5) : Nat.testBit x.toNat i.toNat = true := by
  have e := bitI hx hi d4 d5
  by_cases z : Nat.testBit x.toNat i.toNat = true
  · exact z
  · rw [if_neg z] at e
    omega
theorem bitF {x i y4 y5 : Int} (hx : 0 ≤ x ∧ x ≤ 1023) (hi : 0 ≤ i ∧ i ≤ 9) (d4 : (an_f 7 (Int32.ofInt x) (Int32.ofInt i)).toInt = y4) (d5 : (an_f 3 (Int32.ofInt y4) (Int32.ofInt 1)).toInt = y5) (h : y5 ≤ 0) : Nat.testBit x.toNat i.toNat = false := by
  have e := bitI hx hi d4 d5
  by_cases z : Nat.testBit x.toNat i.toNat = true
  · rw [if_pos z] at e
    omega
  · simpa using z
theorem clrI {x i y1 y2 y3 : Int} (hx : 0 ≤ x ∧ x ≤ 1023) (hi : 0 ≤ i ∧ i ≤ 9) (d1 : (an_f 6 (Int32.ofInt 1) (Int32.ofInt i)).toInt = y1) (d2 : (an_f 5 (Int32.ofInt y1) (Int32.ofInt (-1))).toInt = y2) (d3 : (an_f 3 (Int32.ofInt x) (Int32.ofInt y2)).toInt = y3) : y3 = if Nat.testBit x.toNat i.toNat then ((x.toNat ^^^ 2 ^ i.toNat : Nat) : Int) else x := by
  have h := bt2 x.toNat (by omega) i.toNat (by omega)
  rw [nOf hx.1, nOf hi.1] at h
  rw [← d3, ← d2, oI, ← d1, oI]
  exact h
theorem shlI {i y : Int} (hi : 0 ≤ i ∧ i ≤ 10) (d : (an_f 6 (Int32.ofInt 1) (Int32.ofInt i)).toInt = y) : y = ((2 ^ i.toNat : Nat) : Int) := by
  have h := bt3 i.toNat (by omega)
  rw [nOf hi.1] at h
  rw [← d]
  exact h
def pcn : Nat → Nat → Nat
  | 0, _ => 0
  | k + 1, a => a % 2 + pcn k (a / 2)
theorem pcn_x : ∀ m, m < 1024 → ∀ t, t < 10 → Nat.testBit m t = true → pcn 10 (m ^^^ 2 ^ t) + 1 = pcn 10 m := by decide +kernel
theorem pcn_10 : ∀ m, m < 1024 → pcn 10 m ≤ 10 := by decide +kernel
theorem bcP : ∀ a, a < 1024 → (an_f 16 (Int32.ofInt (a : Nat)) (Int32.ofInt 0)).toInt = ((pcn 10 a : Nat) : Int) := by decide +kernel
theorem bt5 : ∀ m, m < 256 → ∀ t, t < 8 → (an_f 4 (Int32.ofInt (m : Nat)) (an_f 6 (Int32.ofInt 1) (Int32.ofInt (t : Nat)))).toInt = ((m ||| 2 ^ t : Nat) : Int) := by decide +kernel
theorem orB {x i y1 y2 : Int} (hx : 0 ≤ x ∧ x ≤ 255) (hi : 0 ≤ i ∧ i ≤ 7) (d1 : (an_f 6 (Int32.ofInt 1) (Int32.ofInt i)).toInt = y1) (d2 : (an_f 4 (Int32.ofInt x) (Int32.ofInt y1)).toInt = y2) : y2 = ((x.toNat ||| 2 ^ i.toNat : Nat) : Int) := by
  have h := bt5 x.toNat (by omega) i.toNat (by omega)
  rw [nOf hx.1, nOf hi.1] at h
  rw [← d2, ← d1, oI]
  exact h
