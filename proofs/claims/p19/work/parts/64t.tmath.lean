/-! tours: the least over a set; the way on over a set of spots; sets of stops as sets of spots -/
def mnB (B : Int) (P : Nat → Bool) (f : Nat → Int) : Nat → Int
  | 0 => B
  | k + 1 => if P k then min (mnB B P f k) (f k) else mnB B P f k
theorem mnB_le {B : Int} {P : Nat → Bool} {f : Nat → Int} : ∀ {k i : Nat}, i < k → P i = true → mnB B P f k ≤ f i
  | 0, i, h, _ => absurd h (Nat.not_lt_zero _)
  | k + 1, i, h, hp => by
    unfold mnB
    by_cases e : i = k
    · subst e
      rw [if_pos hp]
      omega
    · have ih := mnB_le (B := B) (f := f) (show i < k by omega) hp
      split <;> omega
theorem mnB_at {B : Int} {P : Nat → Bool} {f : Nat → Int} : ∀ k : Nat, mnB B P f k = B ∨ ∃ i, i < k ∧ P i = true ∧ mnB B P f k = f i
  | 0 => Or.inl rfl
  | k + 1 => by
    unfold mnB
    by_cases hp : P k = true
    · rw [if_pos hp]
      by_cases hl : f k ≤ mnB B P f k
      · exact Or.inr ⟨k, by omega, hp, by omega⟩
      · have e : min (mnB B P f k) (f k) = mnB B P f k := by omega
        rw [e]
        rcases mnB_at (B := B) (P := P) (f := f) k with h | ⟨i, h1, h2, h3⟩
        · exact Or.inl h
        · exact Or.inr ⟨i, by omega, h2, h3⟩
    · rw [if_neg hp]
      rcases mnB_at (B := B) (P := P) (f := f) k with h | ⟨i, h1, h2, h3⟩
      · exact Or.inl h
      · exact Or.inr ⟨i, by omega, h2, h3⟩
/-- two leasts over the same numbers -/
theorem mnB_co {B B' : Int} {P P' : Nat → Bool} {f f' : Nat → Int} {k k' : Nat} (h1 : ∃ i, i < k ∧ P i = true) (hs : ∀ i, i < k → P i = true → f i < B ∧ f i < B') (h : ∀ i, i < k → P i = true → ∃ j, j < k' ∧ P' j = true ∧ f' j = f i) (h' : ∀ j, j < k' → P' j = true → ∃ i, i < k ∧ P i = true ∧ f i = f' j) : mnB B P f k = mnB B' P' f' k' := by
  obtain ⟨i0, a0, a1⟩ := h1
  have l0 := mnB_le (B := B) (f := f) a0 a1
  have s0 := hs i0 a0 a1
  rcases mnB_at (B := B) (P := P) (f := f) k with e | ⟨i, b1, b2, b3⟩
  · omega
  · obtain ⟨j, c1, c2, c3⟩ := h i b1 b2
    have l1 := mnB_le (B := B') (f := f') c1 c2
    have si := hs i b1 b2
    rcases mnB_at (B := B') (P := P') (f := f') k' with e | ⟨j2, d1, d2, d3⟩
    · omega
    · obtain ⟨i2, e1, e2, e3⟩ := h' j2 d1 d2
      have l2 := mnB_le (B := B) (f := f) e1 e2
      omega
theorem mnB_cg {B : Int} {P P' : Nat → Bool} {f f' : Nat → Int} : ∀ {k : Nat}, (∀ i, i < k → P i = P' i) → (∀ i, i < k → P i = true → f i = f' i) → mnB B P f k = mnB B P' f' k
  | 0, _, _ => rfl
  | k + 1, h1, h2 => by
    unfold mnB
    rw [mnB_cg (k := k) (fun i hi => h1 i (by omega)) (fun i hi => h2 i (by omega)), ← h1 k (by omega)]
    by_cases hp : P k = true
    · rw [if_pos hp, if_pos hp, h2 k (by omega) hp]
    · rw [if_neg hp, if_neg hp]
theorem x2p : ∀ m, m < 1024 → ∀ t, t < 10 → Nat.testBit m t = true → m ^^^ 2 ^ t = m - 2 ^ t ∧ 2 ^ t ≤ m := by decide +kernel
section ON
variable (W : Nat → Nat → Int) (fr N : Nat)
/-- the way on from s over all of left and home: k bounds the depth -/
def Onk : Nat → Nat → Nat → Int
  | 0, _, s => W s fr
  | k + 1, left, s => if left = 0 then W s fr else mnB 1000000000 (fun t => Nat.testBit left t) (fun t => W s t + Onk k (left ^^^ 2 ^ t) t) N
theorem Onk_k (hN : N ≤ 10) : ∀ {k k' left : Nat} (s : Nat), left < 1024 → left ≤ k → left ≤ k' → Onk W fr N k left s = Onk W fr N k' left s
  | 0, k', left, s, _, h, _ => by
    have e : left = 0 := by omega
    subst e
    cases k' with
    | zero => rfl
    | succ k' => unfold Onk; rw [if_pos rfl]
  | k + 1, 0, left, s, _, _, h => by
    have e : left = 0 := by omega
    subst e
    unfold Onk
    rw [if_pos rfl]
  | k + 1, k' + 1, left, s, hl, h, h' => by
    unfold Onk
    by_cases e : left = 0
    · rw [if_pos e, if_pos e]
    · rw [if_neg e, if_neg e]
      refine mnB_cg (fun _ _ => rfl) (fun t ht hb => ?_)
      have z := x2p left hl t (by omega) hb
      have z2 : 0 < 2 ^ t := Nat.two_pow_pos t
      rw [Onk_k hN (k := k) (k' := k') t (left := left ^^^ 2 ^ t) (by omega) (by omega) (by omega)]
def On (left s : Nat) : Int := Onk W fr N left left s
theorem On_0 (s : Nat) : On W fr N 0 s = W s fr := rfl
theorem On_s (hN : N ≤ 10) {left : Nat} (s : Nat) (hl : left < 1024) (h0 : left ≠ 0) : On W fr N left s = mnB 1000000000 (fun t => Nat.testBit left t) (fun t => W s t + On W fr N (left ^^^ 2 ^ t) t) N := by
  unfold On
  obtain ⟨k, rfl⟩ : ∃ k, left = k + 1 := ⟨left - 1, by omega⟩
  rw [show Onk W fr N (k + 1) (k + 1) s = if k + 1 = 0 then W s fr else mnB 1000000000 (fun t => Nat.testBit (k + 1) t) (fun t => W s t + Onk W fr N k ((k + 1) ^^^ 2 ^ t) t) N from rfl, if_neg h0]
  refine mnB_cg (fun _ _ => rfl) (fun t ht hb => ?_)
  have z := x2p (k + 1) hl t (by omega) hb
  have z2 : 0 < 2 ^ t := Nat.two_pow_pos t
  rw [Onk_k W fr N hN t (left := (k + 1) ^^^ 2 ^ t) (k := k) (k' := (k + 1) ^^^ 2 ^ t) (by omega) (by omega) (by omega)]
/-- at most 99 miles a leg, at most as many legs as the set has -/
theorem On_b (hN : N ≤ 10) (hW : ∀ a b, 0 ≤ W a b ∧ W a b ≤ 99) : ∀ (m left : Nat), left ≤ m → left < 1024 → left < 2 ^ N → ∀ s, 0 ≤ On W fr N left s ∧ On W fr N left s ≤ 99 * (1 + left)
  | 0, left, h, _, _, s => by
    have e : left = 0 := by omega
    subst e
    rw [On_0]
    have := hW s fr
    omega
  | m + 1, left, h, hl, hp, s => by
    by_cases e : left = 0
    · subst e
      rw [On_0]
      have := hW s fr
      omega
    · rw [On_s W fr N hN s hl e]
      obtain ⟨t0, ht0, hb0⟩ : ∃ t, t < N ∧ Nat.testBit left t = true := by
        obtain ⟨t, ht⟩ := Nat.exists_testBit_of_ne_zero e
        refine ⟨t, ?_, ht⟩
        by_cases hn : t < N
        · exact hn
        · rw [Nat.testBit_lt_two_pow (Nat.lt_of_lt_of_le hp (Nat.pow_le_pow_right (by decide) (by omega)))] at ht
          cases ht
      have st : ∀ t, t < N → Nat.testBit left t = true → 0 ≤ On W fr N (left ^^^ 2 ^ t) t ∧ On W fr N (left ^^^ 2 ^ t) t ≤ 99 * (left : Int) := fun t ht hb => by
        have z := x2p left hl t (by omega) hb
        have z2 : 0 < 2 ^ t := Nat.two_pow_pos t
        have ih := On_b hN hW m (left ^^^ 2 ^ t) (by omega) (by omega) (by omega) t
        omega
      have l := mnB_le (B := 1000000000) (P := fun t => Nat.testBit left t) (f := fun t => W s t + On W fr N (left ^^^ 2 ^ t) t) ht0 hb0
      have s0 := st t0 ht0 hb0
      have w0 := hW s t0
      rcases mnB_at (B := 1000000000) (P := fun t => Nat.testBit left t) (f := fun t => W s t + On W fr N (left ^^^ 2 ^ t) t) N with q | ⟨i, b1, b2, b3⟩
      · omega
      · have si := st i b1 b2
        have wi := hW s i
        omega
end ON
section IMG
variable (st : Nat → Nat)
/-- a set of stops as a set of spots -/
def img : Nat → Nat → Nat
  | 0, _ => 0
  | k + 1, b => img k b ||| (if Nat.testBit b k then 2 ^ st k else 0)
theorem img_t : ∀ (k b t : Nat), Nat.testBit (img st k b) t = true ↔ ∃ i, i < k ∧ Nat.testBit b i = true ∧ st i = t
  | 0, b, t => by
    show Nat.testBit 0 t = true ↔ _
    rw [Nat.zero_testBit]
    exact ⟨fun z => (by cases z), fun ⟨i, h, _⟩ => absurd h (Nat.not_lt_zero _)⟩
  | k + 1, b, t => by
    show Nat.testBit (img st k b ||| (if Nat.testBit b k then 2 ^ st k else 0)) t = true ↔ _
    rw [Nat.testBit_or, Bool.or_eq_true, img_t k b t]
    constructor
    · rintro (⟨i, h1, h2, h3⟩ | h)
      · exact ⟨i, by omega, h2, h3⟩
      · by_cases e : Nat.testBit b k = true
        · rw [if_pos e, Nat.testBit_two_pow] at h
          exact ⟨k, by omega, e, of_decide_eq_true h⟩
        · rw [if_neg e, Nat.zero_testBit] at h
          cases h
    · rintro ⟨i, h1, h2, h3⟩
      by_cases e : i = k
      · subst e
        refine Or.inr ?_
        rw [if_pos h2, Nat.testBit_two_pow, h3]
        exact decide_eq_true rfl
      · exact Or.inl ⟨i, by omega, h2, h3⟩
theorem tb_x {b i j : Nat} (h : Nat.testBit b i = true) : Nat.testBit (b ^^^ 2 ^ i) j = true ↔ Nat.testBit b j = true ∧ j ≠ i := by
  rw [Nat.testBit_xor, Nat.testBit_two_pow]
  by_cases e : i = j
  · subst e
    rw [h]
    simp
  · rw [decide_eq_false e]
    simp
    intro _ z
    exact e z.symm
theorem img_x {n b i : Nat} (inj : ∀ i j, i < n → j < n → st i = st j → i = j) (hi : i < n) (h : Nat.testBit b i = true) : img st n (b ^^^ 2 ^ i) = img st n b ^^^ 2 ^ st i := by
  have hb : Nat.testBit (img st n b) (st i) = true := (img_t st n b (st i)).mpr ⟨i, hi, h, rfl⟩
  refine Nat.eq_of_testBit_eq (fun t => ?_)
  refine Bool.eq_iff_iff.mpr ?_
  rw [img_t, tb_x hb, img_t]
  constructor
  · rintro ⟨j, h1, h2, rfl⟩
    have h3 := (tb_x h).mp h2
    exact ⟨⟨j, h1, h3.1, rfl⟩, fun z => h3.2 (inj j i h1 hi z)⟩
  · rintro ⟨⟨j, h1, h2, rfl⟩, h3⟩
    exact ⟨j, h1, (tb_x h).mpr ⟨h2, fun z => h3 (by rw [z])⟩, rfl⟩
theorem img_lt {n b N : Nat} (hs : ∀ i, i < n → st i < N) : img st n b < 2 ^ N := by
  refine Nat.lt_pow_two_of_testBit _ (fun t ht => ?_)
  cases e : Nat.testBit (img st n b) t with
  | false => rfl
  | true =>
    obtain ⟨i, h1, h2, h3⟩ := (img_t st n b t).mp e
    have := hs i h1
    omega
/-- the class's least for a last stop is the model's way on from it -/
theorem stepF {W : Nat → Nat → Int} {fr N n : Nat} {b s : Nat} {B : Int} {f : Nat → Int} (hN : N ≤ 10) (hW : ∀ a b, 0 ≤ W a b ∧ W a b ≤ 99) (inj : ∀ i j, i < n → j < n → st i = st j → i = j) (hs : ∀ i, i < n → st i < N) (hB : 200000 ≤ B) (hb : b ≠ 0) (hbn : b < 2 ^ n) (hf : ∀ i, i < n → Nat.testBit b i = true → f i = On W fr N (img st n (b ^^^ 2 ^ i)) (st i) + W s (st i)) : mnB B (fun i => Nat.testBit b i) f n = On W fr N (img st n b) s := by
  have i1 : img st n b < 2 ^ N := img_lt st hs
  have p10 : 2 ^ N ≤ 1024 := Nat.pow_le_pow_right (by decide) hN
  obtain ⟨i0, hi0, hb0⟩ : ∃ i, i < n ∧ Nat.testBit b i = true := by
    obtain ⟨t, ht⟩ := Nat.exists_testBit_of_ne_zero hb
    refine ⟨t, ?_, ht⟩
    by_cases hn : t < n
    · exact hn
    · rw [Nat.testBit_lt_two_pow (Nat.lt_of_lt_of_le hbn (Nat.pow_le_pow_right (by decide) (by omega)))] at ht
      cases ht
  have ne : img st n b ≠ 0 := fun z => by
    have := (img_t st n b (st i0)).mpr ⟨i0, hi0, hb0, rfl⟩
    rw [z, Nat.zero_testBit] at this
    cases this
  rw [On_s W fr N hN s (by omega) ne]
  refine mnB_co ⟨i0, hi0, hb0⟩ (fun i h1 h2 => ?_) (fun i h1 h2 => ?_) (fun t h1 h2 => ?_)
  · have h2 : Nat.testBit b i = true := h2
    have b1 := On_b W fr N hN hW 1024 (img st n (b ^^^ 2 ^ i)) (by have := img_lt (n := n) (b := b ^^^ 2 ^ i) st hs; omega) (by have := img_lt (n := n) (b := b ^^^ 2 ^ i) st hs; omega) (img_lt st hs) (st i)
    have b2 := hW s (st i)
    have b3 : img st n (b ^^^ 2 ^ i) < 2 ^ N := img_lt st hs
    rw [hf i h1 h2]
    omega
  · have h2 : Nat.testBit b i = true := h2
    refine ⟨st i, hs i h1, (img_t st n b (st i)).mpr ⟨i, h1, h2, rfl⟩, ?_⟩
    rw [hf i h1 h2, img_x st inj h1 h2]
    omega
  · have h2 : Nat.testBit (img st n b) t = true := h2
    obtain ⟨i, e1, e2, rfl⟩ := (img_t st n b t).mp h2
    refine ⟨i, e1, e2, ?_⟩
    rw [hf i e1 e2, img_x st inj e1 e2]
    omega
end IMG
