/-! shares: the sum stays small -/
theorem mul_i {a b : Int} (ha : (-2147483648) ≤ a ∧ a ≤ 2147483647) (hb : (-2147483648) ≤ b ∧ b ≤ 2147483647) (h : (-2147483648) ≤ a * b ∧ a * b ≤ 2147483647) : (an_f 2 (Int32.ofInt a) (Int32.ofInt b)).toInt = a * b := by
  show (Int32.ofInt a * Int32.ofInt b).toInt = _
  have e1 := ti_of (z := a) ha.1 ha.2
  have e2 := ti_of (z := b) hb.1 hb.2
  rw [ai_mul] <;> rw [e1, e2]
  · exact h.1
  · exact h.2
theorem wgt_b {x r : Int} (hx : 0 ≤ x) (hr : 0 ≤ r) (h : x + r ≤ 5) : 0 ≤ fctI x * fctI r ∧ fctI x * fctI r ≤ 120 := by
  have t : ∀ a : Nat, a < 6 → ∀ b : Nat, b < 6 → a + b ≤ 5 → 0 ≤ fctI (a : Int) * fctI (b : Int) ∧ fctI (a : Int) * fctI (b : Int) ≤ 120 := by decide +kernel
  have q := t x.toNat (by omega) r.toNat (by omega) (by omega)
  rw [nOf hx, nOf hr] at q
  exact q
theorem prod_b {w d : Int} (hw : 0 ≤ w ∧ w ≤ 120) (hd : (-1089) ≤ d ∧ d ≤ 1089) : (-130680) ≤ w * d ∧ w * d ≤ 130680 := by
  have t1 : w * d ≤ w * 1089 := Int.mul_le_mul_of_nonneg_left hd.2 hw.1
  have t2 : w * (-1089) ≤ w * d := Int.mul_le_mul_of_nonneg_left hd.1 hw.1
  omega
theorem trm_b {c : Nat → Int} {cnt s : Int} {p a : Nat} (hc : ∀ a, 0 ≤ c a ∧ c a ≤ 1089) (hb : 0 ≤ bcI a ∧ bcI a ≤ cnt - 1) (hcnt : cnt ≤ 6) (hs : (-2000000000) ≤ s ∧ s ≤ 2000000000) : s - 130680 ≤ trm c cnt p s a ∧ trm c cnt p s a ≤ s + 130680 := by
  have w := wgt_b (x := bcI a) (r := cnt + (-1) - bcI a) hb.1 (by omega) (by omega)
  have f1 := fctI_b (bcI a)
  have f2 := fctI_b (cnt + (-1) - bcI a)
  have c1 := hc (a ||| 2 ^ p)
  have c2 := hc a
  unfold trm
  have e1 : (an_f 2 (Int32.ofInt (fctI (bcI a))) (Int32.ofInt (fctI (cnt + (-1) - bcI a)))).toInt = fctI (bcI a) * fctI (cnt + (-1) - bcI a) := mul_i (by omega) (by omega) (by omega)
  have e2 : (an_f 1 (Int32.ofInt (c (a ||| 2 ^ p))) (Int32.ofInt (c a))).toInt = c (a ||| 2 ^ p) - c a := subC (by omega) (by omega) rfl
  rw [← oI (an_f 2 (Int32.ofInt (fctI (bcI a))) (Int32.ofInt (fctI (cnt + (-1) - bcI a)))), e1, ← oI (an_f 1 (Int32.ofInt (c (a ||| 2 ^ p))) (Int32.ofInt (c a))), e2]
  have db : (-1089) ≤ c (a ||| 2 ^ p) - c a ∧ c (a ||| 2 ^ p) - c a ≤ 1089 := by omega
  have pb := prod_b w db
  generalize fctI (bcI a) * fctI (cnt + (-1) - bcI a) = ww at w pb
  generalize c (a ||| 2 ^ p) - c a = dd at pb db
  have e3 : (an_f 2 (Int32.ofInt ww) (Int32.ofInt dd)).toInt = ww * dd := mul_i (by omega) (by omega) (by omega)
  rw [← oI (an_f 2 (Int32.ofInt ww) (Int32.ofInt dd)), e3, sum0 (by omega) (by omega) (by omega) (by omega) (by omega) (by omega)]
  omega
theorem sFrom_b {c : Nat → Int} {cnt : Int} {p o : Nat} (hc : ∀ a, 0 ≤ c a ∧ c a ≤ 1089) (hb : ∀ a, sbs a o → 0 ≤ bcI a ∧ bcI a ≤ cnt - 1) (hcnt : cnt ≤ 6) : ∀ (k : Nat) (s B : Int), 0 ≤ B → (-B) ≤ s ∧ s ≤ B → B + 130680 * (k + 1) ≤ 2000000000 → (-(B + 130680 * (k + 1))) ≤ sFrom (trm c cnt p) o k s ∧ sFrom (trm c cnt p) o k s ≤ B + 130680 * (k + 1)
  | 0, s, B, h0, h1, h2 => by
    have t := trm_b (c := c) (cnt := cnt) (s := s) (p := p) (a := 0) hc (hb 0 sbs_0) hcnt (by omega)
    show _ ≤ trm c cnt p s 0 ∧ trm c cnt p s 0 ≤ _
    omega
  | k + 1, s, B, h0, h1, h2 => by
    show _ ≤ sFrom (trm c cnt p) o k (@ite Int (sbs (k + 1) o) (sbsD (k + 1) o) (trm c cnt p s (k + 1)) s) ∧ sFrom (trm c cnt p) o k (@ite Int (sbs (k + 1) o) (sbsD (k + 1) o) (trm c cnt p s (k + 1)) s) ≤ _
    by_cases e : sbs (k + 1) o
    · rw [if_pos e]
      have t := trm_b (c := c) (cnt := cnt) (s := s) (p := p) (a := k + 1) hc (hb _ e) hcnt (by omega)
      have ih := sFrom_b (p := p) hc hb hcnt k (trm c cnt p s (k + 1)) (B + 130680) (by omega) (by omega) (by omega)
      omega
    · rw [if_neg e]
      have ih := sFrom_b (p := p) hc hb hcnt k s B h0 h1 (by omega)
      omega
