/-! feed, exactly, on both sides -/
theorem by_eq (v : Int32) (k : Nat) (hk : k = 0 ∨ k = 8 ∨ k = 16 ∨ k = 24) : an_f 3 (an_f 8 v (Int32.ofInt k)) (Int32.ofInt 255) = an_f 3 (an_f 7 v (Int32.ofInt k)) (Int32.ofInt 255) := by
  have main : ∀ (x y : Int32) (s : Nat), s ≤ 24 → x.toBitVec = v.toBitVec >>> s → y.toBitVec = v.toBitVec.sshiftRight s → x &&& Int32.ofInt 255 = y &&& Int32.ofInt 255 := by
    intro x y s hs hx hy
    refine Int32.toBitVec_inj.mp ?_
    rw [Int32.toBitVec_and, Int32.toBitVec_and, hx, hy]
    have e255 : (Int32.ofInt 255).toBitVec = BitVec.ofNat 32 255 := rfl
    rw [e255]
    refine BitVec.eq_of_getLsbD_eq (fun i hi => ?_)
    rw [BitVec.getLsbD_and, BitVec.getLsbD_and, BitVec.getLsbD_ushiftRight, BitVec.getLsbD_sshiftRight, BitVec.getLsbD_ofNat]
    by_cases h : i < 8
    · have d1 : decide (32 ≤ i) = false := decide_eq_false (by omega)
      rw [d1, if_pos (by omega)]
      rfl
    · have t : Nat.testBit 255 i = false := Nat.testBit_lt_two_pow (Nat.lt_of_lt_of_le (show 255 < 2 ^ 8 by decide) (Nat.pow_le_pow_right (by decide) (by omega)))
      rw [t, Bool.and_false, Bool.and_false, Bool.and_false]
  rcases hk with rfl | rfl | rfl | rfl
  · exact main _ _ 0 (by decide) rfl rfl
  · exact main _ _ 8 (by decide) rfl rfl
  · exact main _ _ 16 (by decide) rfl rfl
  · exact main _ _ 24 (by decide) rfl rfl
/-- a number's byte -/
def bB (v : Int32) (s : Int) : Int32 := an_f 3 (an_f 8 v (Int32.ofInt s)) (Int32.ofInt 255)
/-- a number's four bytes behind the tape -/
def tw4 (r : Nat → Int32) (x : Nat) (v : Int32) : Nat → Int32 := fun j => if j = x then bB v 24 else if j = x + 1 then bB v 16 else if j = x + 2 then bB v 8 else if j = x + 3 then bB v 0 else r j
def tw20 (r : Nat → Int32) (x : Nat) (a b c d e : Int32) : Nat → Int32 := tw4 (tw4 (tw4 (tw4 (tw4 r x a) (x + 4) b) (x + 8) c) (x + 12) d) (x + 16) e
theorem tw4_e {r r' : Nat → Int32} {N : Nat} (h : ∀ j, j < N → r j = r' j) (x : Nat) (v : Int32) : ∀ j, j < N → tw4 r x v j = tw4 r' x v j := fun j hj => by
  unfold tw4
  rw [h j hj]
theorem tw20_e {r r' : Nat → Int32} {N : Nat} (h : ∀ j, j < N → r j = r' j) (x : Nat) (a b c d e : Int32) : ∀ j, j < N → tw20 r x a b c d e j = tw20 r' x a b c d e j := tw4_e (tw4_e (tw4_e (tw4_e (tw4_e h x a) (x + 4) b) (x + 8) c) (x + 12) d) (x + 16) e
set_option maxRecDepth 20000 in
theorem x_adc {σ : pm_S} (v : Int) (hv : (-2147483648) ≤ v ∧ v ≤ 2147483647) (x : Nat) (hx : x ≤ 396) (hB : an_GB pm_B σ) (e : sI σ 67 2 = (x : Int)) : Sp 25 4 [.ref 67, .int (Int32.ofInt v)] σ (fun r τ => r = none ∧ an_GB pm_B τ ∧ FQ [(67, 2), (68, 9999)] σ τ ∧ sI τ 67 2 = ((x + 4 : Nat) : Int) ∧ τ.1 68 = tw4 (σ.1 68) x (Int32.ofInt v)) := by
  refine Sp.at rfl rfl ?_
  refine pv_b0 v x _ rfl hB ⟨hv, by omega, trivial⟩ ⟨e, trivial⟩ ?_
  intro τ1 y1 hB1 F1 f1 _ d1 c1
  have fy1 : 0 ≤ y1 3 ∧ y1 3 ≤ 255 := f1.2.2.2.1
  refine Ok.ast (n := 400) rfl rfl rfl (by decide) (by omega) (by omega) ?_
  have v1 : Int32.ofInt (y1 3) = bB (Int32.ofInt v) 24 := by
    rw [← d1.2.1, oI, ← d1.1, oI]
    rfl
  have n1 : ((x : Int)).toNat = x := by omega
  have r1 : (bB (Int32.ofInt v) 24).toInt ≤ 255 ∧ 0 ≤ (bB (Int32.ofInt v) 24).toInt := by
    rw [← v1, ti_of (by omega) (by omega)]
    omega
  rw [v1, n1]
  have hB2 : an_GB pm_B (put τ1 68 x (bB (Int32.ofInt v) 24)) := put_GB hB1 (ai_rng _)
  refine pv_b1 v ((x : Int)) hB2 ⟨hv, by omega, trivial⟩ ⟨by rw [put_nr (by decide)]; exact c1.1, trivial⟩ ?_
  intro τ3 y3 hB3 F3 f3 _ d3 c3
  have fy3 : 0 ≤ y3 3 ∧ y3 3 ≤ 255 := f3.2.2.2.1
  refine Ok.ast (n := 400) rfl rfl rfl (by decide) (by omega) (by omega) ?_
  have v3 : Int32.ofInt (y3 3) = bB (Int32.ofInt v) 16 := by
    rw [← d3.2.1, oI, ← d3.1, oI]
    rfl
  have n3 : ((x : Int) + 1).toNat = x + 1 := by omega
  have r3 : (bB (Int32.ofInt v) 16).toInt ≤ 255 ∧ 0 ≤ (bB (Int32.ofInt v) 16).toInt := by
    rw [← v3, ti_of (by omega) (by omega)]
    omega
  rw [v3, n3]
  have hB4 : an_GB pm_B (put τ3 68 (x + 1) (bB (Int32.ofInt v) 16)) := put_GB hB3 (ai_rng _)
  refine pv_b2 v ((x : Int) + 1) hB4 ⟨hv, by omega, trivial⟩ ⟨by rw [put_nr (by decide)]; exact c3.1, trivial⟩ ?_
  intro τ5 y5 hB5 F5 f5 _ d5 c5
  have fy5 : 0 ≤ y5 3 ∧ y5 3 ≤ 255 := f5.2.2.2.1
  refine Ok.ast (n := 400) rfl rfl rfl (by decide) (by omega) (by omega) ?_
  have v5 : Int32.ofInt (y5 3) = bB (Int32.ofInt v) 8 := by
    rw [← d5.2.1, oI, ← d5.1, oI]
    rfl
  have n5 : ((x : Int) + 1 + 1).toNat = x + 2 := by omega
  have r5 : (bB (Int32.ofInt v) 8).toInt ≤ 255 ∧ 0 ≤ (bB (Int32.ofInt v) 8).toInt := by
    rw [← v5, ti_of (by omega) (by omega)]
    omega
  rw [v5, n5]
  have hB6 : an_GB pm_B (put τ5 68 (x + 2) (bB (Int32.ofInt v) 8)) := put_GB hB5 (ai_rng _)
  refine pv_b3 v ((x : Int) + 1 + 1) hB6 ⟨hv, by omega, trivial⟩ ⟨by rw [put_nr (by decide)]; exact c5.1, trivial⟩ ?_
  intro τ7 y7 hB7 F7 f7 _ d7 c7
  have fy7 : 0 ≤ y7 3 ∧ y7 3 ≤ 255 := f7.2.2.2.1
  refine Ok.ast (n := 400) rfl rfl rfl (by decide) (by omega) (by omega) ?_
  have v7 : Int32.ofInt (y7 3) = bB (Int32.ofInt v) 0 := by
    rw [← d7.2.1, oI, ← d7.1, oI]
    rfl
  have n7 : ((x : Int) + 1 + 1 + 1).toNat = x + 3 := by omega
  have r7 : (bB (Int32.ofInt v) 0).toInt ≤ 255 ∧ 0 ≤ (bB (Int32.ofInt v) 0).toInt := by
    rw [← v7, ti_of (by omega) (by omega)]
    omega
  rw [v7, n7]
  have hB8 : an_GB pm_B (put τ7 68 (x + 3) (bB (Int32.ofInt v) 0)) := put_GB hB7 (ai_rng _)
  refine pv_b4 v ((x : Int) + 1 + 1 + 1) hB8 ⟨hv, by omega, trivial⟩ ⟨by rw [put_nr (by decide)]; exact c7.1, trivial⟩ ?_
  intro τ9 y9 hB9 F9 _ _ _ c9
  refine ⟨rfl, hB9, FQ.tr (FQ.up (G := []) rfl F1) (FQ.tr (FQ.put rfl) (FQ.tr (FQ.up (G := [(67, 2)]) rfl F3) (FQ.tr (FQ.put rfl) (FQ.tr (FQ.up (G := [(67, 2)]) rfl F5) (FQ.tr (FQ.put rfl) (FQ.tr (FQ.up (G := [(67, 2)]) rfl F7) (FQ.tr (FQ.put rfl) (FQ.up (G := [(67, 2)]) rfl F9)))))))), ?_, ?_⟩
  · have e9 : sI τ9 67 2 = (x : Int) + 1 + 1 + 1 + 1 := c9.1
    rw [e9]
    omega
  · funext j
    rw [F9 68 j rfl, put_get, F7 68 j rfl, put_get, F5 68 j rfl, put_get, F3 68 j rfl, put_get, F1 68 j rfl]
    unfold tw4
    repeat' split
    all_goals first | rfl | (exfalso; omega)
