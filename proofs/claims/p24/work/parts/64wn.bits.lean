/-! shares: counts of bits; Euclid's rounds -/
def pcn : Nat → Nat → Nat
  | 0, _ => 0
  | k + 1, a => a % 2 + pcn k (a / 2)
theorem pcn_su : ∀ {k a o : Nat}, sbs a o → pcn k a ≤ pcn k o
  | 0, _, _, _ => Nat.le_refl _
  | k + 1, a, o, h => by
    have ih := pcn_su (k := k) (sbs_half h)
    have l := sbs_low h
    show a % 2 + pcn k (a / 2) ≤ o % 2 + pcn k (o / 2)
    omega
theorem bc_pcn : ∀ a, a < 1024 → bcI a = (pcn 10 a : Int) := by decide +kernel
theorem pcn_x : ∀ m, m < 1024 → ∀ t, t < 10 → Nat.testBit m t = true → pcn 10 (m ^^^ 2 ^ t) + 1 = pcn 10 m := by decide +kernel
theorem pcn_10 : ∀ m, m < 1024 → pcn 10 m ≤ 10 := by decide +kernel
/-- at most 99 miles a leg, one leg more than the set has members -/
theorem On_c {W : Nat → Nat → Int} {fr N : Nat} (hN : N ≤ 10) (hW : ∀ a b, 0 ≤ W a b ∧ W a b ≤ 99) : ∀ (m left : Nat), left ≤ m → left < 1024 → left < 2 ^ N → ∀ s, 0 ≤ On W fr N left s ∧ On W fr N left s ≤ 99 * (1 + pcn 10 left)
  | 0, left, h, _, _, s => by
    have e : left = 0 := by omega
    subst e
    rw [On_0]
    have := hW s fr
    omega
  | m + 1, left, h, hl, hp, s => by
    by_cases e : left = 0
    · subst e
      rw [On_0]
      have := hW s fr
      omega
    · rw [On_s W fr N hN s hl e]
      obtain ⟨t0, ht0, hb0⟩ : ∃ t, t < N ∧ Nat.testBit left t = true := by
        obtain ⟨t, ht⟩ := Nat.exists_testBit_of_ne_zero e
        refine ⟨t, ?_, ht⟩
        by_cases hn : t < N
        · exact hn
        · rw [Nat.testBit_lt_two_pow (Nat.lt_of_lt_of_le hp (Nat.pow_le_pow_right (by decide) (by omega)))] at ht
          cases ht
      have st : ∀ t, t < N → Nat.testBit left t = true → 0 ≤ On W fr N (left ^^^ 2 ^ t) t ∧ On W fr N (left ^^^ 2 ^ t) t ≤ 99 * (pcn 10 left : Int) := fun t ht hb => by
        have z := x2p left hl t (by omega) hb
        have z2 : 0 < 2 ^ t := Nat.two_pow_pos t
        have z3 := pcn_x left hl t (by omega) hb
        have ih := On_c (fr := fr) hN hW m (left ^^^ 2 ^ t) (by omega) (by omega) (by omega) t
        omega
      have l := mnB_le (B := 1000000000) (P := fun t => Nat.testBit left t) (f := fun t => W s t + On W fr N (left ^^^ 2 ^ t) t) ht0 hb0
      have s0 := st t0 ht0 hb0
      have w0 := hW s t0
      have p0 := pcn_10 left hl
      rcases mnB_at (B := 1000000000) (P := fun t => Nat.testBit left t) (f := fun t => W s t + On W fr N (left ^^^ 2 ^ t) t) N with q | ⟨i, b1, b2, b3⟩
      · omega
      · have si := st i b1 b2
        have wi := hW s i
        omega
/-- k rounds of Euclid -/
def euk : Nat → Nat → Nat → Nat × Nat
  | 0, a, b => (a, b)
  | k + 1, a, b => if b = 0 then (a, b) else euk k b (a % b)
theorem euk_end : ∀ (k a b : Nat), b < 2 ^ k → (euk (2 * k) a b).2 = 0
  | 0, a, b, h => by
    have e : b = 0 := by omega
    rw [e]
    rfl
  | k + 1, a, b, h => by
    have e2 : 2 * (k + 1) = 2 * k + 1 + 1 := by omega
    rw [e2]
    rw [Nat.pow_succ] at h
    by_cases h0 : b = 0
    · rw [h0]
      rfl
    · show (if b = 0 then (a, b) else euk (2 * k + 1) b (a % b)).2 = 0
      rw [if_neg h0]
      have r1 : a % b < b := Nat.mod_lt _ (by omega)
      by_cases h1 : a % b = 0
      · rw [h1]
        rfl
      · show (if a % b = 0 then (b, a % b) else euk (2 * k) (a % b) (b % (a % b))).2 = 0
        rw [if_neg h1]
        refine euk_end k _ _ ?_
        by_cases h2 : a % b < 2 ^ k
        · have r2 : b % (a % b) < a % b := Nat.mod_lt _ (by omega)
          omega
        · have e3 : b % (a % b) = b - a % b := by
            rw [Nat.mod_eq_sub_mod (by omega), Nat.mod_eq_of_lt (by omega)]
          omega
