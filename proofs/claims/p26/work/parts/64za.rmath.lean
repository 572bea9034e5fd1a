/-! rounds: paths of debts, the first of the shortest rounds -/
section RND
variable {E : Nat → Prop} {D C : Nat → Nat}
/-- k debts lead from a to b -/
def pth (E : Nat → Prop) (D C : Nat → Nat) : Nat → Nat → Nat → Prop
  | 0, a, b => a = b
  | k + 1, a, b => ∃ d, E d ∧ D d = a ∧ pth E D C k (C d) b
theorem pth.app : ∀ {j k a b c : Nat}, pth E D C j a b → pth E D C k b c → pth E D C (j + k) a c
  | 0, k, a, b, c, h, h2 => by
    have h : a = b := h
    rw [Nat.zero_add, h]
    exact h2
  | j + 1, k, a, b, c, h, h2 => by
    obtain ⟨d, e1, e2, h⟩ := h
    rw [show j + 1 + k = (j + k) + 1 by omega]
    exact ⟨d, e1, e2, pth.app h h2⟩
theorem pth.one {d : Nat} (h : E d) : pth E D C 1 (D d) (C d) := ⟨d, h, rfl, rfl⟩
/-- no fewer than k -/
abbrev dst (E : Nat → Prop) (D C : Nat → Nat) (k a b : Nat) : Prop := pth E D C k a b ∧ ∀ j, j < k → ¬ pth E D C j a b
theorem dst.un {j k a b : Nat} (h : dst E D C j a b) (h2 : dst E D C k a b) : j = k := by
  rcases Nat.lt_trichotomy j k with x | x | x
  · exact absurd h.1 (h2.2 j x)
  · exact x
  · exact absurd h2.1 (h.2 k x)
/-- d can be the i-th of a round of n behind those of r -/
def cbn (E : Nat → Prop) (D C : Nat → Nat) (r : Nat → Nat) (n i d : Nat) : Prop := E d ∧ (i = 0 ∨ (r 0 < d ∧ D d = C (r (i - 1)) ∧ (i = n - 1 → C d = D (r 0)) ∧ (i ≠ n - 1 → ∀ j, j < i → C d ≠ D (r j))))
theorem cbn.congr {r r' : Nat → Nat} {n i d : Nat} (h : ∀ j, j < i → r j = r' j) (c : cbn E D C r n i d) : cbn E D C r' n i d := by
  refine ⟨c.1, ?_⟩
  rcases Nat.eq_zero_or_pos i with z | z
  · exact Or.inl z
  · rcases c.2 with x | ⟨a, b, e, f⟩
    · exact Or.inl x
    · rw [h 0 z] at a e
      rw [h (i - 1) (by omega)] at b
      exact Or.inr ⟨a, b, e, fun w j hj => by
        rw [← h j hj]
        exact f w j hj⟩
/-- a round of n -/
abbrev rnd (E : Nat → Prop) (D C : Nat → Nat) (r : Nat → Nat) (n : Nat) : Prop := ∀ i, i < n → cbn E D C r n i (r i)
theorem rnd.path {r : Nat → Nat} {n : Nat} (hn : 2 ≤ n) (h : rnd E D C r n) : ∀ m i, i + m = n - 1 → pth E D C m (C (r i)) (D (r 0))
  | 0, i, hi => by
    rcases (h i (by omega)).2 with z | ⟨_, _, z, _⟩
    · omega
    · exact z (by omega)
  | m + 1, i, hi => by
    rcases (h (i + 1) (by omega)).2 with z | ⟨_, z, _, _⟩
    · omega
    · exact ⟨r (i + 1), (h (i + 1) (by omega)).1, z, rnd.path hn h m (i + 1) (by omega)⟩
/-- the first debt of a shortest round, and each next one the least that leads on -/
def trc (E : Nat → Prop) (D C : Nat → Nat) (R : Nat → Nat) (n : Nat) : Prop :=
  2 ≤ n ∧ n ≤ 10 ∧ E (R 0) ∧ dst E D C (n - 1) (C (R 0)) (D (R 0)) ∧ (∀ d, E d → ∀ j, j ≤ 9 → pth E D C j (C d) (D d) → n - 1 ≤ j) ∧ (∀ d, E d → d < R 0 → ¬ pth E D C (n - 1) (C d) (D d)) ∧
  ∀ i, 0 < i → i < n → E (R i) ∧ D (R i) = C (R (i - 1)) ∧ dst E D C (n - 1 - i) (C (R i)) (D (R 0)) ∧ ∀ d, E d → D d = C (R (i - 1)) → dst E D C (n - 1 - i) (C d) (D (R 0)) → R i ≤ d
section TRC
variable {R : Nat → Nat} {n : Nat}
theorem trc.ds (h : trc E D C R n) {i : Nat} (hi : i < n) : dst E D C (n - 1 - i) (C (R i)) (D (R 0)) := by
  obtain ⟨_, _, _, h4, _, _, h7⟩ := h
  rcases Nat.eq_zero_or_pos i with z | z
  · rw [z]
    exact h4
  · exact (h7 i z hi).2.2.1
/-- from the first one to the i-th -/
theorem trc.to (h : trc E D C R n) : ∀ i, i < n → pth E D C i (C (R 0)) (C (R i))
  | 0, _ => rfl
  | i + 1, hi => by
    have a := trc.to h i (by omega)
    have b := h.2.2.2.2.2.2 (i + 1) (by omega) hi
    have e : D (R (i + 1)) = C (R i) := b.2.1
    have c : pth E D C 1 (C (R i)) (C (R (i + 1))) := by
      rw [← e]
      exact pth.one b.1
    exact pth.app a c
theorem trc.rd (h : trc E D C R n) : rnd E D C R n := by
  intro i hi
  have hd : ∀ i, i < n → dst E D C (n - 1 - i) (C (R i)) (D (R 0)) := fun i hi => h.ds hi
  obtain ⟨h1, h2, h3, h4, h5, h6, h7⟩ := h
  rcases Nat.eq_zero_or_pos i with z | z
  · rw [z]
    exact ⟨h3, Or.inl rfl⟩
  · obtain ⟨a, b, c, _⟩ := h7 i z hi
    have t := trc.to ⟨h1, h2, h3, h4, h5, h6, h7⟩ (i - 1) (by omega)
    -- the i-th is on a round as short
    have cyc : pth E D C (n - 1) (C (R i)) (D (R i)) := by
      have p := pth.app (pth.app c.1 (pth.one h3)) t
      rw [show n - 1 - i + 1 + (i - 1) = n - 1 by omega, ← b] at p
      exact p
    have ne : R i ≠ R 0 := fun e => by
      have q := hd (i - 1) (by omega)
      rw [← b, e] at q
      exact q.2 0 (by omega) rfl
    have ge : ¬ R i < R 0 := fun w => h6 (R i) a w cyc
    refine ⟨a, Or.inr ⟨by omega, b, fun w => ?_, fun w j hj e => ?_⟩⟩
    · rw [w, show n - 1 - (n - 1) = 0 by omega] at c
      rw [w]
      exact c.1
    · rcases Nat.eq_zero_or_pos j with zj | zj
      · rw [zj] at e
        rw [e] at c
        exact c.2 0 (by omega) rfl
      · have q := hd (j - 1) (by omega)
        rw [← (h7 j zj (by omega)).2.1, ← e] at q
        have := q.un c
        omega
/-- none is shorter; of those as long it is the first -/
theorem trc.min (h : trc E D C R n) {r : Nat → Nat} {n' : Nat} (h2 : 2 ≤ n') (h3 : n' ≤ 10) (hr : rnd E D C r n') : n ≤ n' ∧ (n = n' → ∀ i, i < n → (∀ j, j < i → r j = R j) → R i ≤ r i) := by
  obtain ⟨a1, a2, a3, a4, a5, a6, a7⟩ := h
  have p0 := rnd.path h2 hr (n' - 1) 0 (by omega)
  have e0 := (hr 0 (by omega)).1
  have m := a5 (r 0) e0 (n' - 1) (by omega) p0
  refine ⟨by omega, fun e i hi hj => ?_⟩
  rw [← e] at hr p0
  rcases Nat.eq_zero_or_pos i with z | z
  · rw [z]
    rcases Nat.lt_or_ge (r 0) (R 0) with x | x
    · exact absurd p0 (a6 (r 0) e0 x)
    · exact x
  · obtain ⟨b1, b2, b3, b4⟩ := a7 i z hi
    have c := hr i hi
    rcases c.2 with w | ⟨_, w, _, _⟩
    · omega
    · rw [hj (i - 1) (by omega)] at w
      have p := rnd.path a1 hr (n - 1 - i) i (by omega)
      rw [hj 0 z] at p
      refine b4 (r i) c.1 w ⟨p, fun j hj2 q => ?_⟩
      -- a shorter way from there would be a shorter one from the last
      have s : pth E D C (j + 1) (C (R (i - 1))) (D (R 0)) := ⟨r i, c.1, w, q⟩
      have d := trc.ds ⟨a1, a2, a3, a4, a5, a6, a7⟩ (show i - 1 < n by omega)
      exact d.2 (j + 1) (by omega) s
/-- the first of the shortest is one -/
theorem trc.one (h : trc E D C R n) {r : Nat → Nat} (hr : rnd E D C r n) (hl : ∀ r', rnd E D C r' n → ∀ i, i < n → (∀ j, j < i → r' j = r j) → r i ≤ r' i) : ∀ i, i < n → r i = R i := by
  have key : ∀ m i, i < m → i < n → r i = R i := by
    intro m
    induction m with
    | zero => intro i hi; exact absurd hi (Nat.not_lt_zero _)
    | succ m ih =>
      intro i hi hn
      have eq : ∀ j, j < i → r j = R j := fun j hj => ih j (by omega) (by omega)
      have a := (h.min h.1 h.2.1 hr).2 rfl i hn eq
      have b := hl R h.rd i hn (fun j hj => (eq j hj).symm)
      omega
  exact fun i hi => key n i hi hi
/-- those who owe in it are unlike -/
theorem trc.inj (h : trc E D C R n) {i j : Nat} (hi : i < n) (hj : j < n) (e : D (R i) = D (R j)) : i = j := by
  have key : ∀ i, i < n → dst E D C (if i = 0 then 0 else n - i) (D (R i)) (D (R 0)) := by
    intro i hi
    rcases Nat.eq_zero_or_pos i with z | z
    · rw [z, if_pos rfl]
      exact ⟨rfl, fun j hj => absurd hj (Nat.not_lt_zero _)⟩
    · rw [if_neg (by omega)]
      have d := h.ds (show i - 1 < n by omega)
      rw [← (h.2.2.2.2.2.2 i z hi).2.1, show n - 1 - (i - 1) = n - i by omega] at d
      exact d
  have a := key i hi
  have b := key j hj
  rw [e] at a
  have u := a.un b
  by_cases z1 : i = 0
  · by_cases z2 : j = 0
    · omega
    · rw [if_pos z1, if_neg z2] at u
      omega
  · by_cases z2 : j = 0
    · rw [if_neg z1, if_pos z2] at u
      omega
    · rw [if_neg z1, if_neg z2] at u
      omega
end TRC
/-- where no way leads back there is no round -/
theorem rnd_none (h : ∀ d, E d → ∀ j, j ≤ 9 → ¬ pth E D C j (C d) (D d)) {r : Nat → Nat} {n : Nat} (h2 : 2 ≤ n) (h3 : n ≤ 10) : ¬ rnd E D C r n := fun hr =>
  h (r 0) (hr 0 (by omega)).1 (n - 1) (by omega) (rnd.path h2 hr (n - 1) 0 (by omega))
end RND
/-- numbers below P that are unlike are P at most -/
theorem php : ∀ (P n : Nat) (f : Nat → Nat), (∀ i, i < n → f i < P) → (∀ i j, i < n → j < n → f i = f j → i = j) → n ≤ P
  | 0, n, f, h, _ => by
    rcases Nat.eq_zero_or_pos n with z | z
    · omega
    · exact absurd (h 0 z) (Nat.not_lt_zero _)
  | P + 1, n, f, h, hi => by
    by_cases e : ∃ k, k < n ∧ f k = P
    · obtain ⟨k, hk, ek⟩ := e
      -- without the k-th
      have q := php P (n - 1) (fun i => f (if i < k then i else i + 1)) (fun i hn => by
        show f (if i < k then i else i + 1) < P
        by_cases c : i < k
        · rw [if_pos c]
          have a := h i (by omega)
          have b : f i ≠ P := fun z => by
            have := hi i k (by omega) hk (z.trans ek.symm)
            omega
          omega
        · rw [if_neg c]
          have a := h (i + 1) (by omega)
          have b : f (i + 1) ≠ P := fun z => by
            have := hi (i + 1) k (by omega) hk (z.trans ek.symm)
            omega
          omega) (fun i j h1 h2 z => by
        have z : f (if i < k then i else i + 1) = f (if j < k then j else j + 1) := z
        by_cases c : i < k
        · by_cases c2 : j < k
          · rw [if_pos c, if_pos c2] at z
            exact hi i j (by omega) (by omega) z
          · rw [if_pos c, if_neg c2] at z
            have := hi i (j + 1) (by omega) (by omega) z
            omega
        · by_cases c2 : j < k
          · rw [if_neg c, if_pos c2] at z
            have := hi (i + 1) j (by omega) (by omega) z
            omega
          · rw [if_neg c, if_neg c2] at z
            have := hi (i + 1) (j + 1) (by omega) (by omega) z
            omega)
      omega
    · have q := php P n f (fun i hn => by
        have a := h i hn
        have b : f i ≠ P := fun z => e ⟨i, hn, z⟩
        omega) hi
      omega
