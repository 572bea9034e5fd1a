/-! shares: sets below a set, downwards; sums over them -/
def sbs (a o : Nat) : Prop := ∀ t, Nat.testBit a t = true → Nat.testBit o t = true
theorem sbs_and {a o : Nat} (h : sbs a o) : a &&& o = a := Nat.eq_of_testBit_eq (fun t => by
  rw [Nat.testBit_and]
  cases e : Nat.testBit a t with
  | false => rfl
  | true => rw [h t e]; rfl)
theorem sbs_0 {o : Nat} : sbs 0 o := fun t h => by rw [Nat.zero_testBit] at h; cases h
theorem and_sbs {a o : Nat} : sbs (a &&& o) o := fun t h => by
  rw [Nat.testBit_and, Bool.and_eq_true] at h
  exact h.2
theorem sbs_half {a o : Nat} (h : sbs a o) : sbs (a / 2) (o / 2) := fun t ht => by
  rw [Nat.testBit_div_two] at ht ⊢
  exact h (t + 1) ht
theorem sbs_low {a o : Nat} (h : sbs a o) : a % 2 ≤ o % 2 := by
  have h0 := h 0
  rw [Nat.testBit_zero, Nat.testBit_zero] at h0
  by_cases e : a % 2 = 1
  · have := of_decide_eq_true (h0 (decide_eq_true e))
    omega
  · omega
theorem and_div2 (a b : Nat) : (a &&& b) / 2 = a / 2 &&& b / 2 := Nat.eq_of_testBit_eq (fun t => by
  rw [Nat.testBit_div_two, Nat.testBit_and, Nat.testBit_and, Nat.testBit_div_two, Nat.testBit_div_two])
theorem and_mod2 (a b : Nat) : (a &&& b) % 2 = (a % 2) * (b % 2) := by
  have h : Nat.testBit (a &&& b) 0 = (Nat.testBit a 0 && Nat.testBit b 0) := Nat.testBit_and _ _ _
  rw [Nat.testBit_zero, Nat.testBit_zero, Nat.testBit_zero] at h
  rcases Nat.mod_two_eq_zero_or_one a with ha | ha <;> rcases Nat.mod_two_eq_zero_or_one b with hb | hb <;> rw [ha, hb] at h ⊢ <;> rcases Nat.mod_two_eq_zero_or_one (a &&& b) with hc | hc <;> rw [hc] at h ⊢ <;> first | rfl | (exfalso; revert h; decide)
/-- (p - 1) & o is the greatest part of o below p -/
theorem down1 : ∀ (m p o j : Nat), p ≤ m → sbs p o → sbs j o → j < p → j ≤ (p - 1) &&& o
  | 0, p, o, j, hm, _, _, hj => by omega
  | m + 1, p, o, j, hm, hp, hjo, hj => by
    have d := and_div2 (p - 1) o
    have r := and_mod2 (p - 1) o
    have lj := sbs_low hjo
    have lp := sbs_low hp
    rcases Nat.mod_two_eq_zero_or_one p with e | e
    · have e1 : (p - 1) / 2 = p / 2 - 1 := by omega
      have e2 : (p - 1) % 2 = 1 := by omega
      rw [e1] at d
      rw [e2] at r
      have ih := down1 m (p / 2) (o / 2) (j / 2) (by omega) (sbs_half hp) (sbs_half hjo) (by omega)
      omega
    · have e1 : (p - 1) / 2 = p / 2 := by omega
      rw [e1, sbs_and (sbs_half hp)] at d
      omega
def sbsD (a o : Nat) : Decidable (sbs a o) := if h : a &&& o = a then .isTrue (fun t ht => by
    have := congrArg (fun x => Nat.testBit x t) h
    simp only [Nat.testBit_and, ht, Bool.true_and] at this
    exact this) else .isFalse (fun z => h (sbs_and z))
/-- the sum over all parts of o from k down to nothing -/
def sFrom (f : Int → Nat → Int) (o : Nat) : Nat → Int → Int
  | 0, s => f s 0
  | k + 1, s => sFrom f o k (@ite Int (sbs (k + 1) o) (sbsD (k + 1) o) (f s (k + 1)) s)
theorem sFrom_dn {f : Int → Nat → Int} {o : Nat} {s : Int} {b : Nat} : ∀ k, b ≤ k → (∀ j, b < j → j ≤ k → ¬ sbs j o) → sFrom f o k s = sFrom f o b s
  | 0, hb, _ => by
    have e : b = 0 := by omega
    rw [e]
  | k + 1, hb, h => by
    by_cases e : b = k + 1
    · rw [e]
    · show sFrom f o k (@ite Int (sbs (k + 1) o) (sbsD (k + 1) o) (f s (k + 1)) s) = _
      rw [if_neg (h (k + 1) (by omega) (Nat.le_refl _))]
      exact sFrom_dn k (by omega) (fun j h1 h2 => h j h1 (by omega))
/-- the next part downwards -/
theorem sFrom_nx {f : Int → Nat → Int} {o p : Nat} {s : Int} (hp : sbs p o) (h0 : 0 < p) : sFrom f o p s = sFrom f o ((p - 1) &&& o) (f s p) := by
  obtain ⟨k, rfl⟩ : ∃ k, p = k + 1 := ⟨p - 1, by omega⟩
  show sFrom f o k (@ite Int (sbs (k + 1) o) (sbsD (k + 1) o) (f s (k + 1)) s) = _
  rw [if_pos hp]
  refine sFrom_dn k Nat.and_le_left (fun j h1 h2 hj => ?_)
  have := down1 (k + 1) (k + 1) o j (Nat.le_refl _) hp hj (by omega)
  simp only [Nat.add_sub_cancel] at this h1
  omega
theorem bt6 : ∀ t, t < 10 → ∀ m, m < 1024 → (an_f 4 (Int32.ofInt (m : Nat)) (Int32.ofInt ((2 ^ t : Nat) : Int))).toInt = ((m ||| 2 ^ t : Nat) : Int) := by decide +kernel
theorem orJ {x i y1 y2 : Int} (hi : 0 ≤ i ∧ i ≤ 9) (hx : 0 ≤ x ∧ x ≤ 1023) (d1 : (an_f 6 (Int32.ofInt 1) (Int32.ofInt i)).toInt = y1) (d2 : (an_f 4 (Int32.ofInt x) (Int32.ofInt y1)).toInt = y2) : y2 = ((x.toNat ||| 2 ^ i.toNat : Nat) : Int) := by
  have h := bt6 i.toNat (by omega) x.toNat (by omega)
  rw [nOf hx.1] at h
  rw [← d2, shlI ⟨hi.1, by omega⟩ d1]
  exact h
