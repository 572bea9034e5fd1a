/-! shares: the sums on both sides -/
theorem andN {a b : Nat} (ha : a < 1024) (hb : b < 1024) : (an_f 3 (Int32.ofInt (a : Int)) (Int32.ofInt (b : Int))).toInt = ((a &&& b : Nat) : Int) := by
  have e : Int32.ofInt (a : Int) &&& Int32.ofInt (b : Int) = Int32.ofInt ((a &&& b : Nat) : Int) := by
    refine Int32.toBitVec_inj.mp ?_
    rw [Int32.toBitVec_and, Int32.toBitVec_ofInt, Int32.toBitVec_ofInt, Int32.toBitVec_ofInt, BitVec.ofInt_natCast, BitVec.ofInt_natCast, BitVec.ofInt_natCast]
    refine BitVec.eq_of_getLsbD_eq (fun t ht => ?_)
    simp only [BitVec.getLsbD_and, BitVec.getLsbD_ofNat, ht, decide_true, Bool.true_and, Nat.testBit_and]
  show (Int32.ofInt (a : Int) &&& Int32.ofInt (b : Int)).toInt = _
  rw [e]
  have l : a &&& b ≤ a := Nat.and_le_left
  exact ti_of (by omega) (by omega)
def bcI (a : Nat) : Int := (an_f 16 (Int32.ofInt (a : Int)) (Int32.ofInt 0)).toInt
def trm (c : Nat → Int) (cnt : Int) (p : Nat) (s : Int) (a : Nat) : Int := (an_f 0 (Int32.ofInt s) (an_f 2 (an_f 2 (Int32.ofInt (fctI (bcI a))) (Int32.ofInt (fctI (cnt + (-1) - bcI a)))) (an_f 1 (Int32.ofInt (c (a ||| 2 ^ p))) (Int32.ofInt (c a))))).toInt
theorem fctI_b (n : Int) : 0 ≤ fctI n ∧ fctI n ≤ 3628800 := by
  unfold fctI
  repeat' split
  all_goals decide
theorem subC {a b y : Int} (ha : (-1000000000) ≤ a ∧ a ≤ 1000000000) (hb : (-1000000000) ≤ b ∧ b ≤ 1000000000) (h : (an_f 1 (Int32.ofInt a) (Int32.ofInt b)).toInt = y) : y = a - b := by
  rw [← h]
  show (Int32.ofInt a - Int32.ofInt b).toInt = _
  have e1 := ti_of (z := a) (by omega) (by omega)
  have e2 := ti_of (z := b) (by omega) (by omega)
  rw [Int32.toInt_sub, e1, e2, Int.bmod_eq_of_le (by omega) (by omega)]
/-- one more term, as both sides reckon it -/
theorem trm_e {c : Nat → Int} {cnt s y9 y10 y11 f1 f2 c1 c2 dd : Int} {p a : Nat} (h1 : f1 = fctI (bcI a)) (h2 : f2 = fctI (cnt + (-1) - bcI a)) (h3 : c1 = c (a ||| 2 ^ p)) (h4 : c2 = c a) (d8 : (an_f 1 (Int32.ofInt c1) (Int32.ofInt c2)).toInt = dd) (d9 : (an_f 2 (Int32.ofInt f1) (Int32.ofInt f2)).toInt = y9) (d10 : (an_f 2 (Int32.ofInt y9) (Int32.ofInt dd)).toInt = y10) (d11 : (an_f 0 (Int32.ofInt s) (Int32.ofInt y10)).toInt = y11) : y11 = trm c cnt p s a := by
  unfold trm
  rw [← h1, ← h2, ← h3, ← h4, ← d11, ← d10, oI, ← d9, oI, ← d8, oI]
section SUMS
variable {c : Nat → Int}
set_option maxRecDepth 20000 in
theorem x_sumC {σ : pm_S} (o p cnt : Int) (hB : an_GB pm_B σ) (ho : 0 ≤ o ∧ o ≤ 1023) (hp : 0 ≤ p ∧ p ≤ 9) (hcnt : 0 ≤ cnt ∧ cnt ≤ 10) (hcb : ∀ a, 0 ≤ c a ∧ c a ≤ 110000)
    (hc : ∀ (τ : pm_S) (a : Nat), an_GB pm_B τ → FQ [] σ τ → sbs a o.toNat → Sp 111 23 [.ref 85, .int (Int32.ofInt (a : Int))] τ (fun r τ' => r = some (.int (Int32.ofInt (c a))) ∧ an_GB pm_B τ' ∧ FQ [] τ τ') ∧ Sp 111 23 [.ref 85, .int (Int32.ofInt ((a ||| 2 ^ p.toNat : Nat) : Int))] τ (fun r τ' => r = some (.int (Int32.ofInt (c (a ||| 2 ^ p.toNat)))) ∧ an_GB pm_B τ' ∧ FQ [] τ τ')) :
    Sp 110 25 [.ref 85, .int (Int32.ofInt o), .int (Int32.ofInt p), .int (Int32.ofInt cnt)] σ (fun r τ => r = some (.int (Int32.ofInt (sFrom (trm c cnt p.toNat) o.toNat o.toNat 0))) ∧ an_GB pm_B τ ∧ FQ [] σ τ) := by
  refine Sp.at rfl rfl ?_
  refine sy_c0 o p cnt _ _ _ _ rfl rfl rfl rfl hB ⟨ho, hp, hcnt, trivial⟩ ?_
  intro τ0 y0 v6 v7 h6 h7 hB0 F0 _ _ _ _
  refine Ok.loop (fun i L τ => 0 ≤ i ∧ i ≤ o + 1 ∧ (∃ (v6 v7 : Value) (s : Int), v6.category = 1 ∧ v7.category = 1 ∧ ((-2147483648) ≤ s ∧ s ≤ 2147483647) ∧ (i ≤ o → sFrom (trm c cnt p.toNat) o.toNat (o - i).toNat s = sFrom (trm c cnt p.toNat) o.toNat o.toNat 0) ∧ (i = o + 1 → s = sFrom (trm c cnt p.toNat) o.toNat o.toNat 0) ∧ L = [.ref 85, .int (Int32.ofInt o), .int (Int32.ofInt p), .int (Int32.ofInt cnt), .int (Int32.ofInt s), .int (Int32.ofInt (o - i)), v6, v7]) ∧ an_GB pm_B τ ∧ FQ [] σ τ) (o + 1) (fun i L τ h => h.2.1) ?_ 0 _ τ0 ⟨by decide, by omega, ⟨v6, v7, 0, h6, h7, by decide, fun _ => by rw [Int.sub_zero], fun z => by omega, by rw [Int.sub_zero]⟩, hB0, F0⟩
  rintro i L τ ⟨i0, i1, ⟨v6, v7, s, h6, h7, hs, e1, e2, rfl⟩, hB1, F1⟩ ih
  have nxt : ∀ (τ' : pm_S) (u6 u7 : Value) (s' : Int), u6.category = 1 → u7.category = 1 → ((-2147483648) ≤ s' ∧ s' ≤ 2147483647) → i ≤ o → an_GB pm_B τ' → FQ [] σ τ' → s' = (@ite Int (sbs (o - i).toNat o.toNat) (sbsD (o - i).toNat o.toNat) (trm c cnt p.toNat s (o - i).toNat) s) → Ok 110 25 41 [.ref 85, .int (Int32.ofInt o), .int (Int32.ofInt p), .int (Int32.ofInt cnt), .int (Int32.ofInt s'), .int (Int32.ofInt (o - i)), u6, u7] [] τ' (fun r τ => r = some (.int (Int32.ofInt (sFrom (trm c cnt p.toNat) o.toNat o.toNat 0))) ∧ an_GB pm_B τ ∧ FQ [] σ τ) := by
    intro τ' u6 u7 s' n6 n7 hs' hi hB' F' es
    refine sy_c41 o p cnt s' (o - i) u6 u7 n6 n7 hB' ⟨ho, hp, hcnt, hs', by omega, trivial⟩ ?_
    intro τ2 y2 w6 w7 k6 k7 hB2 F2 _ _ _ _
    have e0 := e1 hi
    refine ih _ τ2 ⟨by omega, by omega, ⟨w6, w7, s', k6, k7, hs', fun hi2 => ?_, fun hi2 => ?_, by rw [show o - i + (-1) = o - (i + 1) by omega]⟩, hB2, FQ.tr F' F2⟩
    · obtain ⟨k, hk⟩ : ∃ k, (o - i).toNat = k + 1 := ⟨(o - i).toNat - 1, by omega⟩
      have hk2 : (o - (i + 1)).toNat = k := by omega
      rw [hk2, es, hk]
      rw [hk] at e0
      exact e0
    · have hk : (o - i).toNat = 0 := by omega
      rw [hk] at e0 es
      rw [es, if_pos sbs_0]
      exact e0
  refine sy_c4 o p cnt s (o - i) v6 v7 h6 h7 hB1 ⟨ho, hp, hcnt, hs, by omega, trivial⟩ ?_ ?_ ?_
  · intro τ2 y2 w6 w7 k6 k7 hB2 F2 f _ _ _
    have f4 := f.2.2.2.2.1
    refine sy_c43 o p cnt s (o - i) w6 w7 k6 k7 hB2 ⟨ho, hp, hcnt, hs, by omega, trivial⟩ ?_
    intro τ3 y3 hB3 F3 _ _ _ _
    exact ⟨by rw [e2 (by omega)], hB3, FQ.tr (FQ.tr F1 F2) F3⟩
  · intro τ2 y2 w6 w7 k6 k7 hB2 F2 f _ d _
    have f4 := f.2.2.2.2.1
    have f6 := f.2.2.2.2.2.2.1
    have ns : ¬ sbs (o - i).toNat o.toNat := fun z => by
      have := (subI (by omega) ho d.1 d.2.1).mpr z
      omega
    exact nxt τ2 w6 w7 s k6 k7 hs (by omega) hB2 (FQ.tr F1 F2) (by rw [if_neg ns])
  · intro τ2 y2 w7 k7 hB2 F2 f _ d _
    have f4 := f.2.2.2.2.1
    have f6 := f.2.2.2.2.2.2.1
    have f7 := f.2.2.2.2.2.2.2.1
    have ss : sbs (o - i).toNat o.toNat := (subI (by omega) ho d.1 d.2.1).mp (by omega)
    have y7 : y2 7 = bcI (o - i).toNat := by
      rw [← d.2.2.1]
      unfold bcI
      rw [nOf (by omega)]
    have y9 := orJ hp (by omega) d.2.2.2.1 d.2.2.2.2.1
    have G2 : FQ [] σ τ2 := FQ.tr F1 F2
    rw [y9]
    refine Ok.cv rfl rfl rfl rfl rfl rfl rfl ?_
    refine (hc τ2 (o - i).toNat hB2 G2 ss).2.use (by decide) (fun r τ3 q => ?_)
    obtain ⟨rfl, hB3, F3⟩ := q
    have G3 : FQ [] σ τ3 := FQ.tr G2 F3
    refine sy_c22 o p cnt s (o - i) (y2 7) (c ((o - i).toNat ||| 2 ^ p.toNat)) w7 k7 hB3 ⟨ho, hp, hcnt, hs, by omega, by omega, hcb _, trivial⟩ ?_
    intro τ4 y4 w7' k7' hB4 F4 _ _ _ _
    have G4 : FQ [] σ τ4 := FQ.tr G3 F4
    refine Ok.cv rfl rfl rfl rfl rfl rfl rfl ?_
    have ca := (hc τ4 (o - i).toNat hB4 G4 ss).1
    rw [nOf (by omega)] at ca
    refine ca.use (by decide) (fun r τ5 q => ?_)
    obtain ⟨rfl, hB5, F5⟩ := q
    have G5 : FQ [] σ τ5 := FQ.tr G4 F5
    refine sy_c25 o p cnt s (o - i) (y2 7) (c ((o - i).toNat ||| 2 ^ p.toNat)) (c (o - i).toNat) w7' k7' hB5 ⟨ho, hp, hcnt, hs, by omega, by omega, hcb _, hcb _, trivial⟩ ?_
    intro τ6 y6 hB6 F6 f6' _ d6 _
    have f8 := f6'.2.2.2.2.2.2.2.2.1
    have G6 : FQ [] σ τ6 := FQ.tr G5 F6
    refine Ok.cs rfl rfl rfl rfl rfl rfl ?_
    refine (x_ord (y2 7) hB6 (by omega)).use (by decide) (fun r τ7 q => ?_)
    obtain ⟨rfl, hB7, F7⟩ := q
    refine sy_c30 o p cnt s (o - i) (y2 7) (y6 8) (fctI (y2 7)) hB7 ⟨ho, hp, hcnt, hs, by omega, by omega, f8, fctI_b _, trivial⟩ ?_
    intro τ8 y8 hB8 F8 f8' _ d8 _
    have G8 : FQ [] σ τ8 := FQ.tr (FQ.tr G6 F7) F8
    have x8 := subC (by omega) (by omega) d8.1
    have f9 := f8'.2.2.2.2.2.2.2.2.1
    refine Ok.cs rfl rfl rfl rfl rfl rfl ?_
    refine (x_ord (y8 8) hB8 (by omega)).use (by decide) (fun r τ9 q => ?_)
    obtain ⟨rfl, hB9, F9⟩ := q
    refine sy_c36 o p cnt s (o - i) (y2 7) (y6 8) (fctI (y2 7)) (fctI (y8 8)) hB9 ⟨ho, hp, hcnt, hs, by omega, by omega, f8, fctI_b _, fctI_b _, trivial⟩ ?_
    intro τa ya hBa Fa fa _ da _
    have ra := fa.2.2.2.2.2.2.2.2.2.2.2.1
    refine nxt τa _ _ (ya 11) rfl rfl ra (by omega) hBa (FQ.tr (FQ.tr G8 F9) Fa) ?_
    rw [if_pos ss]
    exact trm_e (by rw [y7]) (by rw [x8, y7]) rfl rfl d6.1 da.1 da.2.1 da.2.2.1
end SUMS
