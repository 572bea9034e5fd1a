/-! sets below a set (pieces of 64wh, 64wl, 64wd) -/
def sbs (a o : Nat) : Prop := ∀ t, Nat.testBit a t = true → Nat.testBit o t = true
theorem sbs_and {a o : Nat} (h : sbs a o) : a &&& o = a := Nat.eq_of_testBit_eq (fun t => by
  rw [Nat.testBit_and]
  cases e : Nat.testBit a t with
  | false => rfl
  | true => rw [h t e]; rfl)
theorem sbs_0 {o : Nat} : sbs 0 o := fun t h => by rw [Nat.zero_testBit] at h; cases h
theorem and_sbs {a o : Nat} : sbs (a &&& o) o := fun t h => by
  rw [Nat.testBit_and, Bool.and_eq_true] at h
  exact h.2
theorem sbs_half {a o : Nat} (h : sbs a o) : sbs (a / 2) (o / 2) := fun t ht => by
  rw [Nat.testBit_div_two] at ht ⊢
  exact h (t + 1) ht
theorem sbs_low {a o : Nat} (h : sbs a o) : a % 2 ≤ o % 2 := by
  have h0 := h 0
  rw [Nat.testBit_zero, Nat.testBit_zero] at h0
  by_cases e : a % 2 = 1
  · have := of_decide_eq_true (h0 (decide_eq_true e))
    omega
  · omega
theorem and_div2 (a b : Nat) : (a &&& b) / 2 = a / 2 &&& b / 2 := Nat.eq_of_testBit_eq (fun t => by
  rw [Nat.testBit_div_two, Nat.testBit_and, Nat.testBit_and, Nat.testBit_div_two, Nat.testBit_div_two])
theorem and_mod2 (a b : Nat) : (a &&& b) % 2 = (a % 2) * (b % 2) := by
  have h : Nat.testBit (a &&& b) 0 = (Nat.testBit a 0 && Nat.testBit b 0) := Nat.testBit_and _ _ _
  rw [Nat.testBit_zero, Nat.testBit_zero, Nat.testBit_zero] at h
  rcases Nat.mod_two_eq_zero_or_one a with ha | ha <;> rcases Nat.mod_two_eq_zero_or_one b with hb | hb <;> rw [ha, hb] at h ⊢ <;> rcases Nat.mod_two_eq_zero_or_one (a &&& b) with hc | hc <;> rw [hc] at h ⊢ <;> first | rfl | (exfalso; revert h; decide)
theorem down1 : ∀ (m p o j : Nat), p ≤ m → sbs p o → sbs j o → j < p → j ≤ (p - 1) &&& o
  | 0, p, o, j, hm, _, _, hj => by omega
  | m + 1, p, o, j, hm, hp, hjo, hj => by
    have d := and_div2 (p - 1) o
    have r := and_mod2 (p - 1) o
    have lj := sbs_low hjo
    have lp := sbs_low hp
    rcases Nat.mod_two_eq_zero_or_one p with e | e
    · have e1 : (p - 1) / 2 = p / 2 - 1 := by omega
      have e2 : (p - 1) % 2 = 1 := by omega
      rw [e1] at d
      rw [e2] at r
      have ih := down1 m (p / 2) (o / 2) (j / 2) (by omega) (sbs_half hp) (sbs_half hjo) (by omega)
      omega
    · have e1 : (p - 1) / 2 = p / 2 := by omega
      rw [e1, sbs_and (sbs_half hp)] at d
      omega
theorem andN {a b : Nat} (ha : a < 1024) (hb : b < 1024) : (an_f 3 (Int32.ofInt (a : Int)) (Int32.ofInt (b : Int))).toInt = ((a &&& b : Nat) : Int) := by
  have e : Int32.ofInt (a : Int) &&& Int32.ofInt (b : Int) = Int32.ofInt ((a &&& b : Nat) : Int) := by
    refine Int32.toBitVec_inj.mp ?_
    rw [Int32.toBitVec_and, Int32.toBitVec_ofInt, Int32.toBitVec_ofInt, Int32.toBitVec_ofInt, BitVec.ofInt_natCast, BitVec.ofInt_natCast, BitVec.ofInt_natCast]
    refine BitVec.eq_of_getLsbD_eq (fun t ht => ?_)
    simp only [BitVec.getLsbD_and, BitVec.getLsbD_ofNat, ht, decide_true, Bool.true_and, Nat.testBit_and]
  show (Int32.ofInt (a : Int) &&& Int32.ofInt (b : Int)).toInt = _
  rw [e]
  have l : a &&& b ≤ a := Nat.and_le_left
  exact ti_of (by omega) (by omega)
