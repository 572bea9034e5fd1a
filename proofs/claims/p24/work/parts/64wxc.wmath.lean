/-! wrong: its mathematics -/
def wr_s (F : Nat → Int) : Nat → Int
  | 0 => 0
  | n + 1 => wr_s F n + F n
theorem wr_s_le {F G : Nat → Int} : ∀ {n : Nat}, (∀ i, i < n → F i ≤ G i) → wr_s F n ≤ wr_s G n
  | 0, _ => Int.le_refl _
  | n + 1, h => by
    have a := wr_s_le (n := n) (fun i hi => h i (Nat.lt_succ_of_lt hi))
    have b := h n (Nat.lt_succ_self n)
    show wr_s F n + F n ≤ wr_s G n + G n
    omega
theorem wr_s_cg {F G : Nat → Int} : ∀ {n : Nat}, (∀ i, i < n → F i = G i) → wr_s F n = wr_s G n
  | 0, _ => rfl
  | n + 1, h => by
    show wr_s F n + F n = wr_s G n + G n
    rw [wr_s_cg (n := n) (fun i hi => h i (Nat.lt_succ_of_lt hi)), h n (Nat.lt_succ_self n)]
theorem wr_s_ad (F G : Nat → Int) : ∀ n, wr_s (fun i => F i + G i) n = wr_s F n + wr_s G n
  | 0 => rfl
  | n + 1 => by
    show wr_s (fun i => F i + G i) n + (F n + G n) = (wr_s F n + F n) + (wr_s G n + G n)
    rw [wr_s_ad F G n]
    omega
theorem wr_s_0 {F : Nat → Int} : ∀ {n : Nat}, (∀ i, i < n → 0 ≤ F i) → 0 ≤ wr_s F n
  | 0, _ => Int.le_refl _
  | n + 1, h => by
    have a := wr_s_0 (n := n) (fun i hi => h i (Nat.lt_succ_of_lt hi))
    have b := h n (Nat.lt_succ_self n)
    show 0 ≤ wr_s F n + F n
    omega
theorem wr_s_n {F : Nat → Int} : ∀ {n : Nat}, (∀ i, i < n → F i ≤ 1) → wr_s F n ≤ (n : Int)
  | 0, _ => Int.le_refl _
  | n + 1, h => by
    have a := wr_s_n (n := n) (fun i hi => h i (Nat.lt_succ_of_lt hi))
    have b := h n (Nat.lt_succ_self n)
    show wr_s F n + F n ≤ ((n + 1 : Nat) : Int)
    omega
theorem wr_s_z {F : Nat → Int} {n : Nat} (h : ∀ i, i < n → F i = 0) : wr_s F n = 0 := by
  rw [wr_s_cg (G := fun _ => 0) h]
  clear h
  induction n with
  | zero => rfl
  | succ n ih =>
    show wr_s (fun _ => 0) n + 0 = 0
    omega
def wr_b (b : Bool) : Int := match b with
  | true => 1
  | false => 0
theorem wr_b_r : ∀ b : Bool, 0 ≤ wr_b b ∧ wr_b b ≤ 1 := by decide +kernel
def wr_mx (f : Nat → Int) : Nat → Int
  | 0 => 0
  | k + 1 => max (wr_mx f k) (f k)
theorem wr_mx_ge {f : Nat → Int} : ∀ {k i : Nat}, i < k → f i ≤ wr_mx f k
  | 0, _, h => absurd h (Nat.not_lt_zero _)
  | k + 1, i, h => by
    show f i ≤ max (wr_mx f k) (f k)
    by_cases e : i = k
    · rw [e]
      omega
    · have := wr_mx_ge (f := f) (k := k) (i := i) (by omega)
      omega
theorem wr_mx_at {f : Nat → Int} : ∀ k : Nat, wr_mx f k = 0 ∨ ∃ i, i < k ∧ wr_mx f k = f i
  | 0 => Or.inl rfl
  | k + 1 => by
    show max (wr_mx f k) (f k) = 0 ∨ ∃ i, i < k + 1 ∧ max (wr_mx f k) (f k) = f i
    by_cases e : wr_mx f k ≤ f k
    · exact Or.inr ⟨k, by omega, by omega⟩
    · rcases wr_mx_at (f := f) k with h | ⟨i, h1, h2⟩
      · exact Or.inl (by omega)
      · exact Or.inr ⟨i, by omega, by omega⟩
/-- a set by what is in it -/
def wr_k (P : Nat → Bool) : Nat → Nat
  | 0 => 0
  | k + 1 => wr_k P k ||| (if P k = true then 2 ^ k else 0)
theorem wr_k_t {P : Nat → Bool} : ∀ (k i : Nat), Nat.testBit (wr_k P k) i = (decide (i < k) && P i)
  | 0, i => by
    show Nat.testBit 0 i = _
    rw [Nat.zero_testBit]
    rfl
  | k + 1, i => by
    show Nat.testBit (wr_k P k ||| (if P k = true then 2 ^ k else 0)) i = _
    rw [Nat.testBit_or, wr_k_t k i]
    have e2 : Nat.testBit (if P k = true then 2 ^ k else 0) i = (P k && decide (k = i)) := by
      by_cases h : P k = true
      · rw [if_pos h, h, Nat.testBit_two_pow]
        rfl
      · rw [if_neg h, Nat.zero_testBit, Bool.eq_false_iff.mpr h]
        rfl
    rw [e2]
    by_cases c : k = i
    · subst c
      rw [decide_eq_false (Nat.lt_irrefl k), decide_eq_true (Nat.lt_succ_self k), decide_eq_true rfl]
      cases P k <;> rfl
    · rw [decide_eq_false c]
      by_cases d : i < k
      · rw [decide_eq_true d, decide_eq_true (Nat.lt_succ_of_lt d)]
        cases P k <;> cases P i <;> rfl
      · rw [decide_eq_false d, decide_eq_false (by omega)]
        cases P k <;> rfl
/-- the lowest of a set, and the others -/
theorem wr_lwb : ((List.range 32).all (fun s => Nat.beq s 0 || (List.range 5).any (fun b => Nat.testBit s b && ((List.range 5).all (fun t => (Nat.testBit (s &&& (s - 1)) t == (Nat.testBit s t && !Nat.beq t b)))) && Nat.blt (s &&& (s - 1)) s))) = true := by decide +kernel
theorem wr_lw (s : Nat) (hs : s < 32) (h0 : 0 < s) : ∃ b, b < 5 ∧ Nat.testBit s b = true ∧ (∀ t, t < 5 → Nat.testBit (s &&& (s - 1)) t = (Nat.testBit s t && !Nat.beq t b)) ∧ s &&& (s - 1) < s := by
  have h := List.all_eq_true.mp wr_lwb s (List.mem_range.mpr hs)
  rw [Bool.or_eq_true] at h
  rcases h with h | h
  · exact absurd (Nat.eq_of_beq_eq_true h) (by omega)
  · rw [List.any_eq_true] at h
    obtain ⟨b, hb, h⟩ := h
    rw [Bool.and_eq_true, Bool.and_eq_true] at h
    refine ⟨b, List.mem_range.mp hb, h.1.1, fun t ht => ?_, Nat.le_of_ble_eq_true h.2⟩
    exact eq_of_beq (List.all_eq_true.mp h.1.2 t (List.mem_range.mpr ht))
theorem wr_t5 {s i : Nat} (hs : s < 32) (h : Nat.testBit s i = true) : i < 5 := by
  by_cases c : i < 5
  · exact c
  · rw [Nat.testBit_lt_two_pow (Nat.lt_of_lt_of_le hs (show 2 ^ 5 ≤ 2 ^ i from Nat.pow_le_pow_right (by decide) (by omega)))] at h
    cases h
theorem wr_pA : ∀ a t c1 c2 c3 : Bool, (c1 = true → c2 = true → c3 = true) → (c1 = true → c3 = true → c2 = true) → wr_b (a && (t && c1)) + wr_b (a && (t && !c1) && !c2) ≤ wr_b (a && (t && c1) && c3) + wr_b (a && t && !c2) := by decide +kernel
theorem wr_pB : ∀ b t1 t2 c1 c2 c3 : Bool, (c1 = true → c2 = true → c3 = true) → (c1 = true → c3 = true → c2 = true) → (c2 = true → c3 = true → c1 = true) → wr_b (b && ((t1 && !c1) && (t2 && !c2)) && !c3) + wr_b (b && (((t1 && c1) && (t2 && !c2)) || ((t2 && c2) && (t1 && !c1)))) ≤ wr_b (b && (t1 && t2) && !c3) := by decide +kernel
theorem wr_pC : ∀ a g l d1 d2 d3 : Bool, (g && l) = false → (g = true → d1 = d2) → (g = false → d1 = d3) → wr_b (a && (g != l) && !d1) + wr_b (a && g && d2) ≤ wr_b (a && g) + wr_b (a && l && !d3) := by decide +kernel
theorem wr_pD : ∀ b g1 l1 g2 l2 e1 e2 : Bool, (g1 && l1) = false → (g2 && l2) = false → ((g1 && g2) = true → e1 = true) → ((l1 && l2) = true → e1 = e2) → wr_b (b && ((g1 != l1) && (g2 != l2)) && !e1) ≤ wr_b (b && (l1 && l2) && !e2) + wr_b (b && ((g1 && l2) || (g2 && l1))) := by decide +kernel
section WR
variable (A B : Nat → Bool) (w o q : Nat → Nat) (n : Nat)
def wr_al (s : Nat) : Int := wr_s (fun l => wr_b (A l && Nat.testBit s (w l))) n
def wr_ty (s c : Nat) : Int := wr_s (fun l => wr_b (A l && Nat.testBit s (w l) && Nat.beq (q l) c)) n
/-- a group's wrong lines -/
def wr_W (s : Nat) : Int := wr_al A w n s - wr_mx (wr_ty A w q n s) 10
/-- those who meet across two groups -/
def wr_M (g h : Nat) : Int := wr_s (fun l => wr_b (B l && ((Nat.testBit g (w l) && Nat.testBit h (o l)) || (Nat.testBit g (o l) && Nat.testBit h (w l))))) n
/-- the wrong lines of a set with all at given spots -/
def wr_c (f : Nat → Nat) (s : Nat) : Int := wr_s (fun l => wr_b (A l && Nat.testBit s (w l) && !Nat.beq (f (w l)) (q l)) + wr_b (B l && (Nat.testBit s (w l) && Nat.testBit s (o l)) && !Nat.beq (f (w l)) (f (o l)))) n
def wr_X (V : Nat → Int) (s left : Nat) : Int := wr_W A w q n (s ^^^ left) + V left + wr_M B w o n (s ^^^ left) left
def wr_ok (V : Nat → Int) (full : Nat) : Prop := ∀ s, 0 < s → s ≤ full → (∀ left, sbs left (s &&& (s - 1)) → V s ≤ wr_X A B w o q n V s left) ∧ ∃ left, sbs left (s &&& (s - 1)) ∧ V s = wr_X A B w o q n V s left
end WR
section WR2
variable {A B : Nat → Bool} {w o q : Nat → Nat} {n : Nat}
theorem wr_c_0 (f : Nat → Nat) (s : Nat) : 0 ≤ wr_c A B w o q n f s := wr_s_0 (fun i _ => by
  have a := wr_b_r (A i && Nat.testBit s (w i) && !Nat.beq (f (w i)) (q i))
  have b := wr_b_r (B i && (Nat.testBit s (w i) && Nat.testBit s (o i)) && !Nat.beq (f (w i)) (f (o i)))
  omega)
theorem wr_c_z (f : Nat → Nat) : wr_c A B w o q n f 0 = 0 := wr_s_z (fun i _ => by
  rw [Nat.zero_testBit, Nat.zero_testBit]
  cases A i <;> cases B i <;> rfl)
theorem wr_ty_0 (s c : Nat) : 0 ≤ wr_ty A w q n s c := wr_s_0 (fun i _ => (wr_b_r _).1)
theorem wr_lo {V : Nat → Int} {full : Nat} (h32 : full < 32) (hok : wr_ok A B w o q n V full) (h0 : V 0 = 0) (f : Nat → Nat) (hf : ∀ i, f i < 10) : ∀ k s, s ≤ k → s ≤ full → V s ≤ wr_c A B w o q n f s := by
  intro k
  induction k with
  | zero =>
    intro s hs _
    have e : s = 0 := by omega
    subst e
    rw [h0]
    exact wr_c_0 f 0
  | succ k ih =>
    intro s hs hfull
    by_cases z : s = 0
    · subst z
      rw [h0]
      exact wr_c_0 f 0
    obtain ⟨b, hb5, hb, hrest, hlt⟩ := wr_lw s (by omega) (by omega)
    have tG : ∀ i, Nat.testBit (wr_k (fun i => Nat.testBit s i && Nat.beq (f i) (f b)) 5) i = (Nat.testBit s i && Nat.beq (f i) (f b)) := fun i => by
      rw [wr_k_t]
      by_cases c : i < 5
      · rw [decide_eq_true c]
        rfl
      · rw [decide_eq_false c, Bool.eq_false_iff.mpr (fun h => c (wr_t5 (s := s) (by omega) h))]
        rfl
    have tL : ∀ i, Nat.testBit (wr_k (fun i => Nat.testBit s i && !Nat.beq (f i) (f b)) 5) i = (Nat.testBit s i && !Nat.beq (f i) (f b)) := fun i => by
      rw [wr_k_t]
      by_cases c : i < 5
      · rw [decide_eq_true c]
        rfl
      · rw [decide_eq_false c, Bool.eq_false_iff.mpr (fun h => c (wr_t5 (s := s) (by omega) h))]
        rfl
    generalize wr_k (fun i => Nat.testBit s i && Nat.beq (f i) (f b)) 5 = G at tG
    generalize wr_k (fun i => Nat.testBit s i && !Nat.beq (f i) (f b)) 5 = L at tL
    have sub : sbs L (s &&& (s - 1)) := fun t ht => by
      rw [tL, Bool.and_eq_true, Bool.not_eq_true'] at ht
      rw [hrest t (wr_t5 (s := s) (by omega) ht.1), ht.1]
      cases e : Nat.beq t b with
      | false => rfl
      | true =>
        have e2 := Nat.eq_of_beq_eq_true e
        rw [e2, Nat.beq_refl] at ht
        exact absurd ht.2 (by decide)
    have xG : s ^^^ L = G := Nat.eq_of_testBit_eq (fun i => by
      rw [Nat.testBit_xor, tL, tG]
      cases Nat.testBit s i <;> cases Nat.beq (f i) (f b) <;> rfl)
    have lt : L < s := by
      have e := sbs_and sub
      have l2 : L &&& (s &&& (s - 1)) ≤ s &&& (s - 1) := Nat.and_le_right
      omega
    have h1 := (hok s (by omega) hfull).1 L sub
    unfold wr_X at h1
    rw [xG] at h1
    have h2 := ih L (by omega) (by omega)
    have h3 : wr_ty A w q n G (f b) ≤ wr_mx (wr_ty A w q n G) 10 := wr_mx_ge (hf b)
    have h4 : wr_al A w n G + wr_c A B w o q n f L + wr_M B w o n G L ≤ wr_ty A w q n G (f b) + wr_c A B w o q n f s := by
      unfold wr_al wr_c wr_M wr_ty
      rw [← wr_s_ad, ← wr_s_ad, ← wr_s_ad]
      refine wr_s_le (fun l _ => ?_)
      rw [tG, tG, tL, tL]
      have pa := wr_pA (A l) (Nat.testBit s (w l)) (Nat.beq (f (w l)) (f b)) (Nat.beq (f (w l)) (q l)) (Nat.beq (q l) (f b)) (fun x y => by
        rw [← Nat.eq_of_beq_eq_true y]
        exact x) (fun x y => by
        rw [Nat.eq_of_beq_eq_true y]
        exact x)
      have pb := wr_pB (B l) (Nat.testBit s (w l)) (Nat.testBit s (o l)) (Nat.beq (f (w l)) (f b)) (Nat.beq (f (o l)) (f b)) (Nat.beq (f (w l)) (f (o l))) (fun x y => by
        rw [Nat.eq_of_beq_eq_true y]
        exact x) (fun x y => by
        rw [← Nat.eq_of_beq_eq_true y]
        exact x) (fun x y => by
        rw [Nat.eq_of_beq_eq_true y]
        exact x)
      omega
    unfold wr_W at h1
    omega
theorem wr_hi {V : Nat → Int} {full S : Nat} (h32 : full < 32) (hS : 0 < S) (hq : ∀ l, l < n → A l = true → q l < S) (hok : wr_ok A B w o q n V full) (h0 : V 0 = 0) : ∀ k s, s ≤ k → s ≤ full → ∃ f : Nat → Nat, (∀ i, f i < S) ∧ wr_c A B w o q n f s ≤ V s := by
  intro k
  induction k with
  | zero =>
    intro s hs _
    have e : s = 0 := by omega
    subst e
    exact ⟨fun _ => 0, fun _ => hS, by rw [wr_c_z, h0]; exact Int.le_refl _⟩
  | succ k ih =>
    intro s hs hfull
    by_cases z : s = 0
    · subst z
      exact ⟨fun _ => 0, fun _ => hS, by rw [wr_c_z, h0]; exact Int.le_refl _⟩
    obtain ⟨b, hb5, hb, hrest, hlt⟩ := wr_lw s (by omega) (by omega)
    obtain ⟨L, sub, hV⟩ := (hok s (by omega) hfull).2
    have lt : L < s := by
      have e := sbs_and sub
      have l2 : L &&& (s &&& (s - 1)) ≤ s &&& (s - 1) := Nat.and_le_right
      omega
    obtain ⟨f', hf', hc'⟩ := ih L (by omega) (by omega)
    unfold wr_X at hV
    have ts : ∀ i, Nat.testBit s i = (Nat.testBit (s ^^^ L) i != Nat.testBit L i) := fun i => by
      rw [Nat.testBit_xor]
      cases Nat.testBit s i <;> cases Nat.testBit L i <;> rfl
    have tn : ∀ i, (Nat.testBit (s ^^^ L) i && Nat.testBit L i) = false := fun i => by
      rw [Nat.testBit_xor]
      cases e : Nat.testBit L i with
      | false => cases Nat.testBit s i <;> rfl
      | true =>
        have h := sub i e
        rw [Nat.testBit_and, Bool.and_eq_true] at h
        rw [h.1]
        rfl
    generalize s ^^^ L = G at hV ts tn
    have hc : ∃ c, c < S ∧ wr_mx (wr_ty A w q n G) 10 ≤ wr_ty A w q n G c := by
      rcases wr_mx_at (f := wr_ty A w q n G) 10 with e | ⟨i, hi, e⟩
      · exact ⟨0, hS, by rw [e]; exact wr_ty_0 G 0⟩
      · by_cases c : i < S
        · exact ⟨i, c, by rw [e]; exact Int.le_refl _⟩
        · have e2 : wr_ty A w q n G i = 0 := wr_s_z (fun l hl => by
            cases ha : A l with
            | false => rfl
            | true =>
              have := hq l hl ha
              have e3 : Nat.beq (q l) i = false := Bool.eq_false_iff.mpr (fun x => by
                have := Nat.eq_of_beq_eq_true x
                omega)
              rw [e3]
              cases Nat.testBit G (w l) <;> rfl)
          exact ⟨0, hS, by rw [e, e2]; exact wr_ty_0 G 0⟩
    obtain ⟨c, hcS, hc⟩ := hc
    refine ⟨fun i => if Nat.testBit G i = true then c else f' i, fun i => ?_, ?_⟩
    · dsimp only
      split
      · exact hcS
      · exact hf' i
    · have h4 : wr_c A B w o q n (fun i => if Nat.testBit G i = true then c else f' i) s + wr_ty A w q n G c ≤ wr_al A w n G + wr_c A B w o q n f' L + wr_M B w o n G L := by
        unfold wr_al wr_c wr_M wr_ty
        rw [← wr_s_ad, ← wr_s_ad, ← wr_s_ad]
        refine wr_s_le (fun l _ => ?_)
        dsimp only
        rw [ts (w l), ts (o l)]
        have fg : ∀ i, Nat.testBit G i = true → (if Nat.testBit G i = true then c else f' i) = c := fun i h => if_pos h
        have fl : ∀ i, Nat.testBit G i = false → (if Nat.testBit G i = true then c else f' i) = f' i := fun i h => if_neg (by rw [h]; decide)
        have pc := wr_pC (A l) (Nat.testBit G (w l)) (Nat.testBit L (w l)) (Nat.beq (if Nat.testBit G (w l) = true then c else f' (w l)) (q l)) (Nat.beq (q l) c) (Nat.beq (f' (w l)) (q l)) (tn _) (fun h => by
          rw [fg _ h]
          rcases Nat.decEq c (q l) with e | e
          · rw [Bool.eq_false_iff.mpr (fun x => e (Nat.eq_of_beq_eq_true x)), Bool.eq_false_iff.mpr (fun x => e (Nat.eq_of_beq_eq_true x).symm)]
          · rw [e]) (fun h => by rw [fl _ h])
        have pd := wr_pD (B l) (Nat.testBit G (w l)) (Nat.testBit L (w l)) (Nat.testBit G (o l)) (Nat.testBit L (o l)) (Nat.beq (if Nat.testBit G (w l) = true then c else f' (w l)) (if Nat.testBit G (o l) = true then c else f' (o l))) (Nat.beq (f' (w l)) (f' (o l))) (tn _) (tn _) (fun h => by
          rw [Bool.and_eq_true] at h
          rw [fg _ h.1, fg _ h.2, Nat.beq_refl]) (fun h => by
          rw [Bool.and_eq_true] at h
          have n1 := tn (w l)
          have n2 := tn (o l)
          rw [h.1, Bool.and_true] at n1
          rw [h.2, Bool.and_true] at n2
          rw [fl _ n1, fl _ n2])
        omega
      unfold wr_W at hV
      omega
/-- the least over all spots of all people is the least over all ways to part them -/
theorem wr_main {V : Nat → Int} {full S : Nat} {m : Int} (h32 : full < 32) (hS : 0 < S) (hq : ∀ l, l < n → A l = true → q l < S) (hok : wr_ok A B w o q n V full) (h0 : V 0 = 0) (h1 : ∀ f : Nat → Nat, (∀ i, f i < S) → m ≤ wr_c A B w o q n f full) (h2 : ∃ f : Nat → Nat, (∀ i, f i < 10) ∧ m = wr_c A B w o q n f full) : m = V full := by
  obtain ⟨f, hf, hc⟩ := wr_hi h32 hS hq hok h0 full full (Nat.le_refl _) (Nat.le_refl _)
  obtain ⟨f2, hf2, e⟩ := h2
  have a := h1 f hf
  have b := wr_lo h32 hok h0 f2 hf2 full full (Nat.le_refl _) (Nat.le_refl _)
  omega
end WR2
