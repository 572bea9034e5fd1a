/-! cleared: the fewest Sundays for sets -/
theorem xor_div2 (a b : Nat) : (a ^^^ b) / 2 = a / 2 ^^^ b / 2 := Nat.eq_of_testBit_eq (fun t => by
  rw [Nat.testBit_div_two, Nat.testBit_xor, Nat.testBit_xor, Nat.testBit_div_two, Nat.testBit_div_two])
theorem xor_mod2 (a b : Nat) : (a ^^^ b) % 2 = (a % 2 + b % 2) % 2 := by
  have h : Nat.testBit (a ^^^ b) 0 = (Nat.testBit a 0 ^^ Nat.testBit b 0) := Nat.testBit_xor _ _ _
  rw [Nat.testBit_zero, Nat.testBit_zero, Nat.testBit_zero] at h
  rcases Nat.mod_two_eq_zero_or_one a with ha | ha <;> rcases Nat.mod_two_eq_zero_or_one b with hb | hb <;> rw [ha, hb] at h ⊢ <;> rcases Nat.mod_two_eq_zero_or_one (a ^^^ b) with hc | hc <;> rw [hc] at h ⊢ <;> first | rfl | (exfalso; revert h; decide)
theorem xsub : ∀ (n p s : Nat), s ≤ n → sbs p s → (s ^^^ p) + p = s
  | 0, p, s, hn, h => by
    have e : s = 0 := by omega
    subst e
    have e : p = 0 := Nat.eq_of_testBit_eq (fun t => by
      cases c : Nat.testBit p t with
      | false => rw [Nat.zero_testBit]
      | true => exact absurd (h t c) (by rw [Nat.zero_testBit]; decide))
    rw [e]
    rfl
  | n + 1, p, s, hn, h => by
    by_cases z : s = 0
    · exact xsub 0 p s (by omega) h
    · have ih := xsub n (p / 2) (s / 2) (by omega) (sbs_half h)
      have d := xor_div2 s p
      have r := xor_mod2 s p
      have l := sbs_low h
      rw [← d] at ih
      have := Nat.div_add_mod (s ^^^ p) 2
      omega
theorem xlt {p s : Nat} (h : sbs p s) (h0 : p ≠ 0) : s ^^^ p < s := by
  have := xsub s p s (Nat.le_refl _) h
  omega
theorem xsbs {p s : Nat} : sbs p s → sbs (s ^^^ p) s := fun h t ht => by
  rw [Nat.testBit_xor] at ht
  cases c : Nat.testBit s t with
  | true => rfl
  | false =>
    cases d : Nat.testBit p t with
    | false => rw [c, d] at ht; cases ht
    | true => exact absurd (h t d) (by rw [c]; decide)
theorem xx (p s : Nat) : s ^^^ (s ^^^ p) = p := by rw [← Nat.xor_assoc, Nat.xor_self, Nat.zero_xor]
theorem xtb {p s t : Nat} (h : sbs p s) : Nat.testBit (s ^^^ p) t = (Nat.testBit s t && !Nat.testBit p t) := by
  rw [Nat.testBit_xor]
  cases d : Nat.testBit p t with
  | false => cases Nat.testBit s t <;> rfl
  | true => rw [h t d]; rfl
theorem sbs_le {p s : Nat} (h : sbs p s) : p ≤ s := by
  have := xsub s p s (Nat.le_refl _) h
  omega
theorem sbs_tr {a b c : Nat} (h : sbs a b) (h' : sbs b c) : sbs a c := fun t ht => h' t (h t ht)
theorem sbs_rf (a : Nat) : sbs a a := fun _ h => h
theorem sbs_one {s b : Nat} (h : Nat.testBit s b = true) : sbs (2 ^ b) s := fun t ht => by
  rw [Nat.testBit_two_pow] at ht
  rw [← of_decide_eq_true ht]
  exact h
theorem x_ne {p s : Nat} (h : p ≠ s) : s ^^^ p ≠ 0 := fun z => h (by
  have := xx p s
  rw [z, Nat.xor_zero] at this
  exact this.symm)
/-- the least of some, never more than B -/
def cMin (B : Int) (Q : Nat → Prop) (f : Nat → Int) (v : Int) : Prop := v ≤ B ∧ (∀ P, Q P → v ≤ f P) ∧ (v = B ∨ ∃ P, Q P ∧ v = f P)
theorem cMin_u {B : Int} {Q : Nat → Prop} {f : Nat → Int} {v w : Int} (h : cMin B Q f v) (h' : cMin B Q f w) : v = w := by
  obtain ⟨a1, a2, a3⟩ := h
  obtain ⟨b1, b2, b3⟩ := h'
  rcases a3 with a3 | ⟨P, a3, a4⟩ <;> rcases b3 with b3 | ⟨R, b3, b4⟩
  · omega
  · have := a2 R b3
    omega
  · have := b2 P a3
    omega
  · have := a2 R b3
    have := b2 P a3
    omega
theorem cMin_cg {B : Int} {Q Q' : Nat → Prop} {f f' : Nat → Int} {v : Int} (hQ : ∀ P, Q P ↔ Q' P) (hf : ∀ P, Q P → f P = f' P) (h : cMin B Q f v) : cMin B Q' f' v := by
  obtain ⟨a1, a2, a3⟩ := h
  refine ⟨a1, fun P hP => ?_, ?_⟩
  · rw [← hf P ((hQ P).mpr hP)]
    exact a2 P ((hQ P).mpr hP)
  · rcases a3 with a3 | ⟨P, a3, a4⟩
    · exact Or.inl a3
    · exact Or.inr ⟨P, (hQ P).mp a3, by rw [← hf P a3]; exact a4⟩
theorem cMin_y {B : Int} {Q Q' : Nat → Prop} {f : Nat → Int} {v : Int} {p : Nat} (hQ : ∀ P, Q' P ↔ (Q P ∨ P = p)) (h : cMin B Q f v) : cMin B Q' f (min v (f p)) := by
  obtain ⟨a1, a2, a3⟩ := h
  refine ⟨by omega, fun P hP => ?_, ?_⟩
  · rcases (hQ P).mp hP with c | c
    · have := a2 P c
      omega
    · rw [c]
      omega
  · by_cases c : f p ≤ v
    · exact Or.inr ⟨p, (hQ p).mpr (Or.inr rfl), by omega⟩
    · rw [show min v (f p) = v by omega]
      rcases a3 with a3 | ⟨P, a3, a4⟩
      · exact Or.inl a3
      · exact Or.inr ⟨P, (hQ P).mpr (Or.inl a3), a4⟩
/-- no two of a set that clash -/
def cP (X : Nat → Nat → Bool) (S : Nat) : Prop := ∀ i j, Nat.testBit S i = true → Nat.testBit S j = true → X i j = false
def cB (m : Nat) (X : Nat → Nat → Bool) (S : Nat) : Bool := (List.range m).all (fun i => (List.range m).all (fun j => !(Nat.testBit S i && Nat.testBit S j && X i j)))
theorem tb_lt {m S i : Nat} (hS : S < 2 ^ m) (h : Nat.testBit S i = true) : i < m := by
  by_cases c : i < m
  · exact c
  · rw [Nat.testBit_lt_two_pow (Nat.lt_of_lt_of_le hS (Nat.pow_le_pow_right (by decide) (by omega)))] at h
    cases h
theorem cB_iff {m : Nat} {X : Nat → Nat → Bool} {S : Nat} (hS : S < 2 ^ m) : cB m X S = true ↔ cP X S := by
  unfold cB
  constructor
  · intro h i j hi hj
    have h1 := List.all_eq_true.mp h i (List.mem_range.mpr (tb_lt hS hi))
    have h2 := List.all_eq_true.mp h1 j (List.mem_range.mpr (tb_lt hS hj))
    rw [hi, hj] at h2
    cases e : X i j with
    | false => rfl
    | true => rw [e] at h2; cases h2
  · intro h
    refine List.all_eq_true.mpr (fun i hi => List.all_eq_true.mpr (fun j hj => ?_))
    cases a : Nat.testBit S i with
    | false => rfl
    | true =>
      cases b : Nat.testBit S j with
      | false => rfl
      | true => rw [h i j a b]; rfl
section CM
variable {m : Nat} {C : Nat → Bool}
/-- what is asked of the sets that can be -/
def cOk (m : Nat) (C : Nat → Bool) : Prop := m ≤ 10 ∧ (∀ a b, sbs a b → b < 2 ^ m → C b = true → C a = true) ∧ ∀ i, i < m → C (2 ^ i) = true
theorem cB_ok {X : Nat → Nat → Bool} (hm : m ≤ 10) (hX : ∀ i, X i i = false) : cOk m (cB m X) := by
  refine ⟨hm, fun a b h hb hc => ?_, fun i hi => ?_⟩
  · have h2 := (cB_iff hb).mp hc
    exact (cB_iff (Nat.lt_of_le_of_lt (sbs_le h) hb)).mpr (fun i j hi hj => h2 i j (h i hi) (h j hj))
  · refine (cB_iff (Nat.pow_lt_pow_right (by decide) hi)).mpr (fun a b ha hb => ?_)
    rw [Nat.testBit_two_pow] at ha hb
    rw [← of_decide_eq_true ha, ← of_decide_eq_true hb]
    exact hX i
abbrev qS (C : Nat → Bool) (S : Nat) : Nat → Prop := fun P => P ≠ 0 ∧ sbs P S ∧ C P = true
/-- the fewest for the sets below T -/
def fT (T : Nat) (C : Nat → Bool) (r : Nat → Int) : Prop := r 0 = 0 ∧ ∀ S, S ≠ 0 → S < T → cMin 1000000000 (qS C S) (fun P => r (S ^^^ P) + 1) (r S)
theorem bit0 {S : Nat} (h : S ≠ 0) : ∃ b, Nat.testBit S b = true := Nat.exists_testBit_of_ne_zero h
theorem p1024 (hm : m ≤ 10) : 2 ^ m ≤ 1024 := Nat.pow_le_pow_right (by decide) hm
theorem fT_b (hC : cOk m C) {T : Nat} (hT : T ≤ 2 ^ m) {r : Nat → Int} (h : fT T C r) : ∀ (n S : Nat), S ≤ n → S < T → 0 ≤ r S ∧ r S ≤ ((pcn 10 S : Nat) : Int)
  | n, S, hn, hS => by
    have h1 := p1024 hC.1
    by_cases z : S = 0
    · rw [z, h.1]
      exact ⟨Int.le_refl _, by decide⟩
    · obtain ⟨k, rfl⟩ : ∃ k, n = k + 1 := ⟨n - 1, by omega⟩
      obtain ⟨a1, a2, a3⟩ := h.2 S z hS
      obtain ⟨b, hb⟩ := bit0 z
      have bm := tb_lt (m := m) (by omega) hb
      have p0 : (2 : Nat) ^ b ≠ 0 := Nat.ne_of_gt (Nat.two_pow_pos b)
      have lt := xlt (sbs_one hb) p0
      have ih := fT_b hC hT h k (S ^^^ 2 ^ b) (by omega) (by omega)
      have px := pcn_x S (by omega) b (by have := hC.1; omega) hb
      have := a2 (2 ^ b) ⟨p0, sbs_one hb, hC.2.2 b bm⟩
      refine ⟨?_, by dsimp only at this; omega⟩
      rcases a3 with e | ⟨P, c1, c2⟩
      · omega
      · have lt2 := xlt c1.2.1 c1.1
        have ih2 := fT_b hC hT h k (S ^^^ P) (by omega) (by omega)
        dsimp only at c2
        omega
  termination_by n => n
theorem fT_u (hC : cOk m C) {T : Nat} {r q : Nat → Int} (h : fT T C r) (h' : fT T C q) : ∀ (n S : Nat), S ≤ n → S < T → r S = q S
  | n, S, hn, hS => by
    by_cases z : S = 0
    · rw [z, h.1, h'.1]
    · obtain ⟨k, rfl⟩ : ∃ k, n = k + 1 := ⟨n - 1, by omega⟩
      refine cMin_u (h.2 S z hS) (cMin_cg (fun P => Iff.rfl) (fun P hP => ?_) (h'.2 S z hS))
      have lt := xlt hP.2.1 hP.1
      show q (S ^^^ P) + 1 = r (S ^^^ P) + 1
      rw [fT_u hC h h' k (S ^^^ P) (by omega) (by omega)]
  termination_by n => n
/-- some Sunday has the lowest -/
def gT (T : Nat) (C : Nat → Bool) (r : Nat → Int) : Prop := r 0 = 0 ∧ ∀ S, S ≠ 0 → S < T → ∃ b, Nat.testBit S b = true ∧ (∀ t, t < b → Nat.testBit S t = false) ∧ (C S = true → r S = 1) ∧ (C S = false → cMin 10 (fun u => u ≠ 0 ∧ sbs u (S ^^^ 2 ^ b) ∧ C (S ^^^ u) = true) (fun u => 1 + r u) (r S))
theorem gT_b (hC : cOk m C) {T : Nat} (hT : T ≤ 2 ^ m) {r : Nat → Int} (h : gT T C r) : ∀ (n S : Nat), S ≤ n → S < T → 0 ≤ r S ∧ r S ≤ ((pcn 10 S : Nat) : Int)
  | n, S, hn, hS => by
    have h1 := p1024 hC.1
    by_cases z : S = 0
    · rw [z, h.1]
      exact ⟨Int.le_refl _, by decide⟩
    · obtain ⟨k, rfl⟩ : ∃ k, n = k + 1 := ⟨n - 1, by omega⟩
      obtain ⟨b, hb, _, a1, a2⟩ := h.2 S z hS
      have bm := tb_lt (m := m) (by omega) hb
      have p0 : (2 : Nat) ^ b ≠ 0 := Nat.ne_of_gt (Nat.two_pow_pos b)
      have lt := xlt (sbs_one hb) p0
      have px := pcn_x S (by omega) b (by have := hC.1; omega) hb
      cases c : C S with
      | true =>
        rw [a1 c]
        omega
      | false =>
        obtain ⟨d1, d2, d3⟩ := a2 c
        have ih := gT_b hC hT h k (S ^^^ 2 ^ b) (by omega) (by omega)
        have r0 : S ^^^ 2 ^ b ≠ 0 := fun e => by
          have e2 := xx (2 ^ b) S
          rw [e, Nat.xor_zero] at e2
          rw [e2, hC.2.2 b bm] at c
          cases c
        have := d2 (S ^^^ 2 ^ b) ⟨r0, sbs_rf _, by rw [xx]; exact hC.2.2 b bm⟩
        dsimp only at this
        refine ⟨?_, by omega⟩
        rcases d3 with e | ⟨u, c1, c2⟩
        · omega
        · have l := sbs_le c1.2.1
          have ih2 := gT_b hC hT h k u (by omega) (by omega)
          dsimp only at c2
          omega
  termination_by n => n
/-- one with the lowest is there -/
theorem gT_e (hC : cOk m C) {T : Nat} (hT : T ≤ 2 ^ m) {r : Nat → Int} (h : gT T C r) {S : Nat} (h0 : S ≠ 0) (hS : S < T) : ∃ b P, Nat.testBit S b = true ∧ (∀ t, t < b → Nat.testBit S t = false) ∧ Nat.testBit P b = true ∧ sbs P S ∧ C P = true ∧ r S = r (S ^^^ P) + 1 := by
  have h1 := p1024 hC.1
  obtain ⟨b, hb, hl, a1, a2⟩ := h.2 S h0 hS
  have bm := tb_lt (m := m) (by omega) hb
  have p0 : (2 : Nat) ^ b ≠ 0 := Nat.ne_of_gt (Nat.two_pow_pos b)
  cases c : C S with
  | true =>
    refine ⟨b, S, hb, hl, hb, sbs_rf S, c, ?_⟩
    rw [Nat.xor_self, h.1, a1 c]
    rfl
  | false =>
    have lt := xlt (sbs_one hb) p0
    have bt : Nat.testBit (2 ^ b) b = true := by rw [Nat.testBit_two_pow]; exact decide_eq_true rfl
    have r0 : S ^^^ 2 ^ b ≠ 0 := fun e => by
      have e2 := xx (2 ^ b) S
      rw [e, Nat.xor_zero] at e2
      rw [e2, hC.2.2 b bm] at c
      cases c
    obtain ⟨d1, d2, d3⟩ := a2 c
    rcases d3 with e | ⟨u, c1, c2⟩
    · have g := gT_b hC hT h (S ^^^ 2 ^ b) (S ^^^ 2 ^ b) (Nat.le_refl _) (by omega)
      have px := pcn_x S (by omega) b (by have := hC.1; omega) hb
      have p10 := pcn_10 S (by omega)
      have := d2 (S ^^^ 2 ^ b) ⟨r0, sbs_rf _, by rw [xx]; exact hC.2.2 b bm⟩
      dsimp only at this
      exact ⟨b, 2 ^ b, hb, hl, bt, sbs_one hb, hC.2.2 b bm, by omega⟩
    · have su : sbs u S := sbs_tr c1.2.1 (xsbs (sbs_one hb))
      have ub : Nat.testBit u b = false := by
        cases q : Nat.testBit u b with
        | false => rfl
        | true =>
          have := c1.2.1 b q
          rw [xtb (sbs_one hb), bt, hb] at this
          cases this
      refine ⟨b, S ^^^ u, hb, hl, ?_, xsbs su, c1.2.2, ?_⟩
      · rw [xtb su, hb, ub]
        rfl
      · rw [xx, c2]
        dsimp only
        omega
theorem gT_l (hC : cOk m C) {T : Nat} (hT : T ≤ 2 ^ m) {r : Nat → Int} (h : gT T C r) : ∀ (n S P : Nat), S ≤ n → S < T → P ≠ 0 → sbs P S → C P = true → r S ≤ r (S ^^^ P) + 1
  | n, S, P, hn, hS, hp0, hps, hc => by
    have z : S ≠ 0 := fun e => by
      rw [e] at hps
      have := sbs_le hps
      omega
    obtain ⟨k, rfl⟩ : ∃ k, n = k + 1 := ⟨n - 1, by omega⟩
    obtain ⟨b, hb, hl, a1, a2⟩ := h.2 S z hS
    have lt := xlt hps hp0
    -- one that has the lowest
    have withb : ∀ R, sbs R S → Nat.testBit R b = true → C R = true → r S ≤ r (S ^^^ R) + 1 := fun R h1 h2 h3 => by
      have R0 : R ≠ 0 := fun e => by rw [e, Nat.zero_testBit] at h2; cases h2
      have lt2 := xlt h1 R0
      have g := gT_b hC hT h (S ^^^ R) (S ^^^ R) (Nat.le_refl _) (by omega)
      cases c : C S with
      | true =>
        rw [a1 c]
        omega
      | false =>
        have ne : S ^^^ R ≠ 0 := x_ne (fun e => by rw [e, c] at h3; cases h3)
        have d := (a2 c).2.1 (S ^^^ R) ⟨ne, fun t ht => ?_, by rw [xx]; exact h3⟩
        · dsimp only at d
          omega
        · rw [xtb h1, Bool.and_eq_true] at ht
          rw [xtb (sbs_one hb), ht.1, Nat.testBit_two_pow, Bool.true_and]
          have nb : t ≠ b := fun e => by
            rw [e, h2] at ht
            exact absurd ht.2 (by decide)
          rw [decide_eq_false (fun e => nb e.symm)]
          rfl
    cases cb : Nat.testBit P b with
    | true => exact withb P hps cb hc
    | false =>
      have tb : Nat.testBit (S ^^^ P) b = true := by rw [xtb hps, hb, cb]; rfl
      have t0 : S ^^^ P ≠ 0 := fun e => by rw [e, Nat.zero_testBit] at tb; cases tb
      obtain ⟨b', R, e1, e2, e3, e4, e5, e6⟩ := gT_e hC hT h t0 (by omega)
      have eb : b' = b := by
        rcases Nat.lt_trichotomy b' b with q | q | q
        · have := hl b' q
          rw [xsbs hps b' e1] at this
          cases this
        · exact q
        · have := e2 b q
          rw [tb] at this
          cases this
      rw [eb] at e3
      have sR : sbs R S := sbs_tr e4 (xsbs hps)
      have w := withb R sR e3 e5
      have R0 : R ≠ 0 := fun e => by rw [e, Nat.zero_testBit] at e3; cases e3
      have lt3 := xlt sR R0
      have sP : sbs P (S ^^^ R) := fun t ht => by
        rw [xtb sR, hps t ht]
        cases q : Nat.testBit R t with
        | false => rfl
        | true =>
          have := e4 t q
          rw [xtb hps, ht] at this
          rw [Bool.not_true, Bool.and_false] at this
          cases this
      have ih := gT_l hC hT h k (S ^^^ R) P (by omega) (by omega) hp0 sP hc
      have ex : (S ^^^ R) ^^^ P = (S ^^^ P) ^^^ R := by rw [Nat.xor_assoc, Nat.xor_comm R P, ← Nat.xor_assoc]
      rw [ex] at ih
      omega
  termination_by n => n
theorem gT_f (hC : cOk m C) {T : Nat} (hT : T ≤ 2 ^ m) {r : Nat → Int} (h : gT T C r) : fT T C r := by
  have h1 := p1024 hC.1
  refine ⟨h.1, fun S h0 hS => ?_⟩
  have g := gT_b hC hT h S S (Nat.le_refl _) hS
  have p10 := pcn_10 S (by omega)
  obtain ⟨b, P, _, _, e3, e4, e5, e6⟩ := gT_e hC hT h h0 hS
  refine ⟨by omega, fun R hR => gT_l hC hT h S S R (Nat.le_refl _) hS hR.1 hR.2.1 hR.2.2, Or.inr ⟨P, ⟨fun e => ?_, e4, e5⟩, e6⟩⟩
  rw [e, Nat.zero_testBit] at e3
  cases e3
end CM
/-- downwards over the parts of o: the first that does, or nothing -/
def dnF (Q : Nat → Bool) (o : Nat) : Nat → Nat → Nat
  | 0, _ => 0
  | f + 1, p => if p = 0 then 0 else if Q p = true then p else dnF Q o f ((p - 1) &&& o)
theorem dnF_s {Q : Nat → Bool} {o : Nat} : ∀ (f p : Nat), sbs p o → sbs (dnF Q o f p) o
  | 0, p, h => sbs_0
  | f + 1, p, h => by
    unfold dnF
    split
    · exact sbs_0
    · split
      · exact h
      · exact dnF_s f _ and_sbs
abbrev gqQ (C : Nat → Bool) (F : Nat → Int) (o : Nat) : Nat → Bool := fun P => C P && decide (F (o ^^^ P) = F o - 1)
/-- the greatest set for a Sunday -/
def grS (C : Nat → Bool) (F : Nat → Int) (o : Nat) : Nat := dnF (gqQ C F o) o 1023 o
def lfS (m : Nat) (C : Nat → Bool) (F : Nat → Int) : Nat → Nat
  | 0 => 2 ^ m - 1
  | k + 1 => lfS m C F k ^^^ grS C F (lfS m C F k)
theorem lfS_lt {m : Nat} {C : Nat → Bool} {F : Nat → Int} : ∀ k, lfS m C F k < 2 ^ m
  | 0 => Nat.sub_lt (Nat.two_pow_pos m) (by decide)
  | k + 1 => Nat.lt_of_le_of_lt (sbs_le (xsbs (dnF_s (Q := gqQ C F (lfS m C F k)) 1023 _ (sbs_rf _)))) (lfS_lt k)
def clV (m : Nat) (C : Nat → Bool) (F : Nat → Int) (what : Int) : Int := if what = 0 then F (2 ^ m - 1) else if 10 ≤ what ∧ what - 10 < F (2 ^ m - 1) then ((grS C F (lfS m C F (what - 10).toNat) : Nat) : Int) else -1
