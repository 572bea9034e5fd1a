/-! wrong: the class's side -/
theorem orN {a b : Nat} (ha : a < 1024) (hb : b < 1024) : (an_f 4 (Int32.ofInt (a : Int)) (Int32.ofInt (b : Int))).toInt = ((a ||| b : Nat) : Int) := by
  have e : Int32.ofInt (a : Int) ||| Int32.ofInt (b : Int) = Int32.ofInt ((a ||| b : Nat) : Int) := by
    refine Int32.toBitVec_inj.mp ?_
    rw [Int32.toBitVec_or, Int32.toBitVec_ofInt, Int32.toBitVec_ofInt, Int32.toBitVec_ofInt, BitVec.ofInt_natCast, BitVec.ofInt_natCast, BitVec.ofInt_natCast]
    refine BitVec.eq_of_getLsbD_eq (fun t ht => ?_)
    simp only [BitVec.getLsbD_or, BitVec.getLsbD_ofNat, ht, decide_true, Bool.true_and, Nat.testBit_or]
  show (Int32.ofInt (a : Int) ||| Int32.ofInt (b : Int)).toInt = _
  rw [e]
  have l : a ||| b < 2 ^ 10 := Nat.or_lt_two_pow ha hb
  exact ti_of (by omega) (by omega)
theorem maxC {a b y : Int} (ha : (-2147483648) ≤ a ∧ a ≤ 2147483647) (hb : (-2147483648) ≤ b ∧ b ≤ 2147483647) (h : (an_f 12 (Int32.ofInt a) (Int32.ofInt b)).toInt = y) : y = max a b := by
  rw [← h]
  show (pm_max (Int32.ofInt a) (Int32.ofInt b)).toInt = _
  unfold pm_max
  have e1 := ti_of ha.1 ha.2
  have e2 := ti_of hb.1 hb.2
  split
  · rename_i z
    rw [Int32.lt_iff_toInt_lt, e1, e2] at z
    omega
  · rename_i z
    rw [Int32.lt_iff_toInt_lt, e1, e2] at z
    omega
/-- those whom the lines of a day name -/
def wr_set (dy wh ot : Nat → Int) (D : Int) : Nat → Nat
  | 0 => 0
  | l + 1 => if dy l = D then (wr_set dy wh ot D l ||| 2 ^ (wh l).toNat) ||| (if ot l = -1 then 0 else 2 ^ (ot l).toNat) else wr_set dy wh ot D l
theorem wr_or {m p : Nat} (hm : m < 1024) (hp : p < 10) : m ||| 2 ^ p < 1024 := by
  have : 2 ^ p < 2 ^ 10 := Nat.pow_lt_pow_right (by decide) hp
  exact Nat.or_lt_two_pow (n := 10) hm this
theorem wr_tb {m p q : Nat} : Nat.testBit (m ||| 2 ^ p) q = (Nat.testBit m q || decide (p = q)) := by rw [Nat.testBit_or, Nat.testBit_two_pow]
theorem wr_pc {m p : Nat} (hm : m < 1024) (hp : p < 10) (h : Nat.testBit m p = false) : pcn 10 (m ||| 2 ^ p) = pcn 10 m + 1 := by
  have e := pcn_x (m ||| 2 ^ p) (wr_or hm hp) p hp (by rw [wr_tb, decide_eq_true rfl, Bool.or_true])
  have x : (m ||| 2 ^ p) ^^^ 2 ^ p = m := Nat.eq_of_testBit_eq (fun t => by
    rw [Nat.testBit_xor, wr_tb, Nat.testBit_two_pow]
    by_cases c : p = t
    · rw [← c, h, decide_eq_true rfl]
      rfl
    · rw [decide_eq_false c]
      cases Nat.testBit m t <;> rfl)
  rw [x] at e
  omega
theorem wr_same {m p : Nat} (h : Nat.testBit m p = true) : m ||| 2 ^ p = m := Nat.eq_of_testBit_eq (fun t => by
  rw [wr_tb]
  by_cases c : p = t
  · rw [← c, h]
    rfl
  · rw [decide_eq_false c, Bool.or_false])
/-- the seats: those of m have one each, 0 .. k - 1 -/
def wr_Q (st : Nat → Int) (m : Nat) (k : Int) : Prop := m < 1024 ∧ k = (pcn 10 m : Int) ∧ (∀ p, p < 10 → Nat.testBit m p = false → st p = -1) ∧ (∀ p, p < 10 → Nat.testBit m p = true → 0 ≤ st p ∧ st p < k) ∧ (∀ p q, p < 10 → q < 10 → Nat.testBit m p = true → Nat.testBit m q = true → st p = st q → p = q)
theorem wr_Q.cg {st st' : Nat → Int} {m : Nat} {k : Int} (h : wr_Q st m k) (e : ∀ p, p < 10 → st' p = st p) : wr_Q st' m k := by
  obtain ⟨h1, h2, h3, h4, h5⟩ := h
  refine ⟨h1, h2, fun p hp hb => by rw [e p hp]; exact h3 p hp hb, fun p hp hb => by rw [e p hp]; exact h4 p hp hb, fun p q hp hq hb hc he => ?_⟩
  rw [e p hp, e q hq] at he
  exact h5 p q hp hq hb hc he
theorem wr_Q.k10 {st : Nat → Int} {m : Nat} {k : Int} (h : wr_Q st m k) : 0 ≤ k ∧ k ≤ 10 := by
  have := pcn_10 m h.1
  have := h.2.1
  omega
abbrev sI (σ : pm_S) (p : Nat) : Nat → Int := fun j => (σ.1 p j).toInt
abbrev wr_bm (p : Int) : Nat := if p = -1 then 0 else 2 ^ p.toNat
set_option maxRecDepth 20000 in
theorem x_seat24 {σ : pm_S} (p k : Int) (m : Nat) (hB : an_GB pm_B σ) (hp : (-1) ≤ p ∧ p ≤ 9) (hQ : wr_Q (sI σ 27) m k) : Sp 54 9 [.ref 21, .int (Int32.ofInt p), .int (Int32.ofInt k)] σ (fun r τ => ∃ k' : Int, r = some (.int (Int32.ofInt k')) ∧ an_GB pm_B τ ∧ FQ [(27, 9999)] σ τ ∧ wr_Q (sI τ 27) (m ||| wr_bm p) k' ∧ ∀ q, q < 10 → Nat.testBit m q = true → sI τ 27 q = sI σ 27 q) := by
  have hk := hQ.k10
  have hQ0 := hQ
  obtain ⟨h1, h2, h3, h4, h5⟩ := hQ
  refine Sp.at rfl rfl ?_
  refine wzws_0 p k hB ⟨hp, hk, trivial⟩ ?_ ?_ ?_
  · intro τ y hB1 F1 f _ _ _
    have e : p = -1 := by omega
    refine ⟨k, rfl, hB1, FQ.up (G := []) rfl F1, ?_, fun q _ _ => congrArg Int32.toInt (F1 27 q rfl)⟩
    unfold wr_bm
    rw [if_pos e, Nat.or_zero]
    exact hQ0.cg (fun q _ => congrArg Int32.toInt (F1 27 q rfl))
  · intro τ y hB1 F1 f _ _ c
    have f1 := f.1
    have f3 := f.2.2.1
    have e0 : sI σ 27 p.toNat = -1 := by
      show (σ.1 27 p.toNat).toInt = -1
      rw [← F1 27 p.toNat rfl, c.1]
      omega
    have hpn : p.toNat < 10 := by omega
    have hb : Nat.testBit m p.toNat = false := Bool.eq_false_iff.mpr (fun z => by
      have := h4 p.toNat hpn z
      omega)
    refine Ok.ast (n := 10) rfl rfl rfl (by decide) (by omega) (by omega) ?_
    have hB2 : an_GB pm_B (put τ 27 p.toNat (Int32.ofInt k)) := put_GB hB1 (ai_rng _)
    refine wzws_18 p k hB2 ⟨by omega, hk, trivial⟩ ?_
    intro τ3 y3 hB3 F3 _ _ _ _
    have oa : (Int32.ofInt k).toInt = k := ti_of (by omega) (by omega)
    have g : ∀ q, sI τ3 27 q = if q = p.toNat then k else sI σ 27 q := fun q => by
      show (τ3.1 27 q).toInt = _
      rw [F3 27 q rfl, put_get, F1 27 q rfl]
      by_cases e : q = p.toNat
      · rw [if_pos ⟨rfl, e⟩, if_pos e, oa]
      · rw [if_neg (fun z => e z.2), if_neg e]
    have em : wr_bm p = 2 ^ p.toNat := if_neg (by omega)
    have ek : pcn 10 (m ||| 2 ^ p.toNat) = pcn 10 m + 1 := wr_pc h1 hpn hb
    refine ⟨k + 1, rfl, hB3, FQ.tr (FQ.up (G := []) rfl F1) (FQ.tr (FQ.put rfl) (FQ.up (G := []) rfl F3)), ?_, fun q hq hq2 => ?_⟩
    · rw [em]
      refine ⟨wr_or h1 hpn, by rw [ek]; omega, fun q hq hq2 => ?_, fun q hq hq2 => ?_, fun q q2 hq hq2 hb1 hb2 he => ?_⟩
      · rw [wr_tb, Bool.or_eq_false_iff] at hq2
        have ne : ¬ p.toNat = q := of_decide_eq_false hq2.2
        rw [g, if_neg (fun z => ne z.symm)]
        exact h3 q hq hq2.1
      · rw [g]
        by_cases e : q = p.toNat
        · rw [if_pos e]
          omega
        · rw [if_neg e]
          rw [wr_tb, decide_eq_false (fun z => e z.symm), Bool.or_false] at hq2
          have := h4 q hq hq2
          omega
      · rw [g, g] at he
        rw [wr_tb] at hb1 hb2
        by_cases e : q = p.toNat
        · by_cases e2 : q2 = p.toNat
          · rw [e, e2]
          · rw [if_pos e, if_neg e2] at he
            rw [decide_eq_false (fun z => e2 z.symm), Bool.or_false] at hb2
            have := h4 q2 hq2 hb2
            omega
        · rw [decide_eq_false (fun z => e z.symm), Bool.or_false] at hb1
          have := h4 q hq hb1
          by_cases e2 : q2 = p.toNat
          · rw [if_neg e, if_pos e2] at he
            omega
          · rw [if_neg e, if_neg e2] at he
            rw [decide_eq_false (fun z => e2 z.symm), Bool.or_false] at hb2
            exact h5 q q2 hq hq2 hb1 hb2 he
    · rw [g, if_neg (fun z => by rw [z, hb] at hq2; cases hq2)]
  · intro τ y hB1 F1 f rl _ c
    have f1 := f.1
    have r1 := rl.1
    have hpn : p.toNat < 10 := by omega
    have e0 : sI σ 27 p.toNat ≠ -1 := by
      show (σ.1 27 p.toNat).toInt ≠ -1
      rw [← F1 27 p.toNat rfl, c.1]
      exact r1
    have hb : Nat.testBit m p.toNat = true := by
      cases e : Nat.testBit m p.toNat with
      | true => rfl
      | false => exact absurd (h3 p.toNat hpn e) e0
    refine ⟨k, rfl, hB1, FQ.up (G := []) rfl F1, ?_, fun q _ _ => congrArg Int32.toInt (F1 27 q rfl)⟩
    have em : wr_bm p = 2 ^ p.toNat := if_neg (by omega)
    rw [em, wr_same hb]
    exact hQ0.cg (fun q _ => congrArg Int32.toInt (F1 27 q rfl))
/-- a seat's bit -/
abbrev wr_sb (st : Nat → Int) (p : Int) : Nat := if p = -1 then 0 else 2 ^ (st p.toNat).toNat
set_option maxRecDepth 20000 in
theorem x_bit24 {σ : pm_S} (p : Int) (hB : an_GB pm_B σ) (hp : (-1) ≤ p ∧ p ≤ 9) (hs : p ≠ -1 → 0 ≤ sI σ 27 p.toNat ∧ sI σ 27 p.toNat ≤ 9) : Sp 55 9 [.ref 21, .int (Int32.ofInt p)] σ (fun r τ => r = some (.int (Int32.ofInt ((wr_sb (sI σ 27) p : Nat) : Int))) ∧ an_GB pm_B τ ∧ FQ [] σ τ) := by
  refine Sp.at rfl rfl ?_
  refine wzwb_0 p hB ⟨hp, trivial⟩ ?_ ?_ ?_
  · intro τ y hB1 F1 f _ _ _
    have e : p = -1 := by omega
    refine ⟨?_, hB1, F1⟩
    unfold wr_sb
    rw [if_pos e]
    rfl
  · intro τ y hB1 F1 f rl d c
    have f1 := f.1
    have h := hs (by omega)
    have e1 : sI σ 27 p.toNat = y 1 := by
      show (σ.1 27 p.toNat).toInt = _
      rw [← F1 27 p.toNat rfl]
      exact c.1
    refine ⟨?_, hB1, F1⟩
    unfold wr_sb
    rw [if_neg (by omega), e1, ← shlI (by omega) d.1]
  · intro τ y hB1 F1 f _ _ c
    have f1 := f.1
    have f2 := f.2.1
    have h := hs (by omega)
    have e1 : sI σ 27 p.toNat = y 1 := by
      show (σ.1 27 p.toNat).toInt = _
      rw [← F1 27 p.toNat rfl]
      exact c.1
    omega
theorem wr_sb_lt {st : Nat → Int} {p : Int} {b : Nat} (h : p ≠ -1 → 0 ≤ st p.toNat ∧ st p.toNat < b) (hb : b ≤ 10) : wr_sb st p < 2 ^ b := by
  unfold wr_sb
  split
  · exact Nat.two_pow_pos b
  · rename_i e
    have := h e
    exact Nat.pow_lt_pow_right (by decide) (by omega)
section WRC
variable {dy wh ot pl : Nat → Int} {D : Int}
/-- what the lines say is of people and spots there -/
abbrev wr_L (dy wh ot pl : Nat → Int) (N : Nat) (S P : Int) : Prop := ∀ l, l < N → (0 ≤ wh l ∧ wh l < P) ∧ ((ot l = -1 ∧ 0 ≤ pl l ∧ pl l < S) ∨ (pl l = -1 ∧ 0 ≤ ot l ∧ ot l < P ∧ ot l ≠ wh l))
abbrev wr_R (σ : pm_S) (dy wh ot pl : Nat → Int) : Prop := ∀ l, l < 30 → sI σ 22 l = dy l ∧ sI σ 23 l = wh l ∧ sI σ 24 l = ot l ∧ sI σ 25 l = pl l
theorem wr_R.fq {σ τ : pm_S} (h : wr_R σ dy wh ot pl) {G : List (Nat × Nat)} (hG : (an_inP G 22 || an_inP G 23 || an_inP G 24 || an_inP G 25) = false) (F : FQ G σ τ) : wr_R τ dy wh ot pl := fun l hl => by
  rw [Bool.or_eq_false_iff, Bool.or_eq_false_iff, Bool.or_eq_false_iff] at hG
  obtain ⟨a, b, c, d⟩ := h l hl
  exact ⟨(congrArg Int32.toInt (F 22 l (an_inP_ok hG.1.1.1 l))).trans a, (congrArg Int32.toInt (F 23 l (an_inP_ok hG.1.1.2 l))).trans b, (congrArg Int32.toInt (F 24 l (an_inP_ok hG.1.2 l))).trans c, (congrArg Int32.toInt (F 25 l (an_inP_ok hG.2 l))).trans d⟩
theorem wr_set_lt {N : Nat} {S P : Int} (hL : wr_L dy wh ot pl N S P) (hP : P ≤ 10) : ∀ i, i ≤ N → wr_set dy wh ot D i < 1024
  | 0, _ => (show (0 : Nat) < 1024 by decide)
  | i + 1, h => by
    have ih := wr_set_lt hL hP i (by omega)
    have hl := hL i (by omega)
    unfold wr_set
    split
    · have a := wr_or (p := (wh i).toNat) ih (by omega)
      split
      · rw [Nat.or_zero]
        exact a
      · exact wr_or a (by omega)
    · exact ih
theorem wr_set_in {i l : Nat} (hl : l < i) (hd : dy l = D) : Nat.testBit (wr_set dy wh ot D i) (wh l).toNat = true ∧ (ot l ≠ -1 → Nat.testBit (wr_set dy wh ot D i) (ot l).toNat = true) := by
  induction i with
  | zero => exact absurd hl (Nat.not_lt_zero l)
  | succ i ih =>
    unfold wr_set
    by_cases e : l = i
    · subst e
      rw [if_pos hd]
      refine ⟨?_, fun ho => ?_⟩
      · rw [Nat.testBit_or, wr_tb, decide_eq_true rfl, Bool.or_true, Bool.true_or]
      · rw [if_neg ho, wr_tb, decide_eq_true rfl, Bool.or_true]
    · have h := ih (by omega)
      split
      · refine ⟨?_, fun ho => ?_⟩
        · rw [Nat.testBit_or, wr_tb, h.1, Bool.true_or, Bool.true_or]
        · rw [Nat.testBit_or, wr_tb, h.2 ho, Bool.true_or, Bool.true_or]
      · exact h
/-- the people of a line as bits of their seats -/
abbrev wr_nm (dy wh ot : Nat → Int) (D : Int) (st : Nat → Int) (l : Nat) : Nat := if dy l = D then wr_sb st (wh l) ||| wr_sb st (ot l) else 0
theorem wr_nm_cg {st st' : Nat → Int} {l : Nat} (h : dy l = D → st' (wh l).toNat = st (wh l).toNat ∧ (ot l ≠ -1 → st' (ot l).toNat = st (ot l).toNat)) : wr_nm dy wh ot D st' l = wr_nm dy wh ot D st l := by
  unfold wr_nm
  split
  · rename_i e
    obtain ⟨a, b⟩ := h e
    unfold wr_sb
    rw [a]
    by_cases c : ot l = -1
    · rw [if_pos c, if_pos c]
    · rw [if_neg c, if_neg c, b c]
  · rfl
set_option maxRecDepth 20000 in
theorem x_named24 {σ : pm_S} (N : Nat) (S P : Int) (hB : an_GB pm_B σ) (hD : 0 ≤ D ∧ D ≤ 9999) (hN : N ≤ 30) (hP : P ≤ 10) (hS : S ≤ 10) (eN : (σ.1 21 0).toInt = N) (hR : wr_R σ dy wh ot pl) (hL : wr_L dy wh ot pl N S P) : Sp 53 13 [.ref 21, .int (Int32.ofInt D)] σ (fun r τ => ∃ k : Int, r = some (.int (Int32.ofInt k)) ∧ an_GB pm_B τ ∧ FQ [(26, 9999), (27, 9999)] σ τ ∧ wr_Q (sI τ 27) (wr_set dy wh ot D N) k ∧ ∀ l, l < N → sI τ 26 l = ((wr_nm dy wh ot D (sI τ 27) l : Nat) : Int)) := by
  refine Sp.at rfl rfl ?_
  refine wzwn_0 D _ _ rfl rfl hB ⟨hD, trivial⟩ ?_
  intro τ0 y0 hB0 F0 _ _ _ c0
  have z0 : ∀ p, p < 10 → sI τ0 27 p = -1 := fun p hp => by
    obtain ⟨a0, a1, a2, a3, a4, a5, a6, a7, a8, a9, -⟩ := c0
    rcases (show p = 0 ∨ p = 1 ∨ p = 2 ∨ p = 3 ∨ p = 4 ∨ p = 5 ∨ p = 6 ∨ p = 7 ∨ p = 8 ∨ p = 9 by omega) with rfl | rfl | rfl | rfl | rfl | rfl | rfl | rfl | rfl | rfl <;> assumption
  have Q0 : wr_Q (sI τ0 27) 0 0 := ⟨by decide, rfl, fun p hp _ => z0 p hp, fun p _ h => (by rw [Nat.zero_testBit] at h; cases h), fun p q _ _ h => (by rw [Nat.zero_testBit] at h; cases h)⟩
  refine Ok.loop (fun i L τ => 0 ≤ i ∧ i ≤ N ∧ an_GB pm_B τ ∧ FQ [(26, 9999), (27, 9999)] σ τ ∧ ∃ k : Int, L = [.ref 21, .int (Int32.ofInt D), .int (Int32.ofInt k), .int (Int32.ofInt i)] ∧ wr_Q (sI τ 27) (wr_set dy wh ot D i.toNat) k ∧ ∀ l, l < i.toNat → sI τ 26 l = ((wr_nm dy wh ot D (sI τ 27) l : Nat) : Int)) N (fun i L τ h => h.2.1) ?_ 0 _ τ0 ⟨by decide, by omega, hB0, FQ.up (G := [(27, 9999)]) rfl F0, 0, rfl, Q0, fun l hl => absurd hl (Nat.not_lt_zero l)⟩
  rintro i L τ ⟨i0, i1, hB1, F1, k, rfl, hQ, hn⟩ ih
  have hk := hQ.k10
  refine wzwn_8 D k i N hB1 ⟨hD, hk, by omega, by omega, trivial⟩ ⟨(congrArg Int32.toInt (F1 21 0 rfl)).trans eN, trivial⟩ ?_
  intro τ2 y2 hB2 F2 _ _ _ _
  have G2 : FQ [(26, 9999), (27, 9999)] σ τ2 := FQ.tr F1 (FQ.up (G := []) rfl F2)
  have q2 : ∀ p, sI τ2 27 p = sI τ 27 p := fun p => congrArg Int32.toInt (F2 27 p rfl)
  have n2 : ∀ l, sI τ2 26 l = sI τ 26 l := fun l => congrArg Int32.toInt (F2 26 l rfl)
  refine Ok.ic rfl rfl (by omega) (by omega) (by omega) (by omega) (fun z => ?_) (fun z => ?_)
  · have z : (N : Int) ≤ i := z
    have e : i.toNat = N := by omega
    refine wzwn_58 D k i hB2 ⟨hD, hk, by omega, trivial⟩ ?_
    intro τ3 y3 hB3 F3 _ _ _ _
    have q3 : ∀ p, sI τ3 27 p = sI τ 27 p := fun p => (congrArg Int32.toInt (F3 27 p rfl)).trans (q2 p)
    have e3 : sI τ3 27 = sI τ 27 := funext q3
    rw [e] at hQ hn
    refine ⟨k, rfl, hB3, FQ.tr G2 (FQ.up (G := []) rfl F3), hQ.cg (fun p _ => q3 p), fun l hl => ?_⟩
    rw [e3, show sI τ3 26 l = sI τ2 26 l from congrArg Int32.toInt (F3 26 l rfl), n2]
    exact hn l hl
  · have z : i < N := z
    have hi30 : i.toNat < 30 := by omega
    have hiN : i.toNat < N := by omega
    have e1 : (i + 1).toNat = i.toNat + 1 := by omega
    have sN : wr_set dy wh ot D (i + 1).toNat = if dy i.toNat = D then (wr_set dy wh ot D i.toNat ||| 2 ^ (wh i.toNat).toNat) ||| (if ot i.toNat = -1 then 0 else 2 ^ (ot i.toNat).toNat) else wr_set dy wh ot D i.toNat := by rw [e1]; rfl
    have hl := hL i.toNat hiN
    refine wzwn_12 D k i hB2 ⟨hD, hk, by omega, trivial⟩ ?_
    intro τ3 y3 hB3 F3 _ _ _ _
    refine Ok.ast (n := 30) rfl rfl rfl (by decide) (by omega) (by omega) ?_
    have hB4 : an_GB pm_B (put τ3 26 i.toNat (Int32.ofInt 0)) := put_GB hB3 (ai_rng _)
    have G3 : FQ [(26, 9999), (27, 9999)] σ τ3 := FQ.tr G2 (FQ.up (G := []) rfl F3)
    have G4 : FQ [(26, 9999), (27, 9999)] σ (put τ3 26 i.toNat (Int32.ofInt 0)) := FQ.tr G3 (FQ.put rfl)
    have q4 : ∀ p, sI (put τ3 26 i.toNat (Int32.ofInt 0)) 27 p = sI τ 27 p := fun p => by
      show ((put τ3 26 i.toNat (Int32.ofInt 0)).1 27 p).toInt = _
      rw [put_nr (by decide)]
      exact (congrArg Int32.toInt (F3 27 p rfl)).trans (q2 p)
    have n4 : ∀ l, l ≠ i.toNat → sI (put τ3 26 i.toNat (Int32.ofInt 0)) 26 l = sI τ 26 l := fun l hne => by
      show ((put τ3 26 i.toNat (Int32.ofInt 0)).1 26 l).toInt = _
      rw [put_nj hne]
      exact (congrArg Int32.toInt (F3 26 l rfl)).trans (n2 l)
    have m4 : sI (put τ3 26 i.toNat (Int32.ofInt 0)) 26 i.toNat = 0 := by
      show ((put τ3 26 i.toNat (Int32.ofInt 0)).1 26 i.toNat).toInt = 0
      rw [put_eq]
      rfl
    generalize put τ3 26 i.toNat (Int32.ofInt 0) = τ4 at hB4 G4 q4 n4 m4
    have R4 := hR.fq (G := [(26, 9999), (27, 9999)]) rfl G4 i.toNat hi30
    refine wzwn_17 D k i hB4 ⟨hD, hk, by omega, trivial⟩ ?_
    intro τ5 y5 hB5 F5 f5 _ _ c5
    have g5 := f5.2.2.2.1
    have d5 : y5 3 = dy i.toNat := by
      rw [← c5.1, F5 22 _ rfl]
      exact R4.1
    have G5 : FQ [(26, 9999), (27, 9999)] σ τ5 := FQ.tr G4 (FQ.up (G := []) rfl F5)
    refine Ok.ic rfl rfl (by omega) (by omega) (by omega) (by omega) (fun z2 => ?_) (fun z2 => ?_)
    · have z2 : y5 3 ≠ D := z2
      refine wzwn_56 D k i hB5 ⟨hD, hk, by omega, trivial⟩ ?_
      intro τ6 y6 hB6 F6 _ _ _ _
      have q6 : ∀ p, sI τ6 27 p = sI τ 27 p := fun p => (congrArg Int32.toInt (F6 27 p rfl)).trans ((congrArg Int32.toInt (F5 27 p rfl)).trans (q4 p))
      have e6 : sI τ6 27 = sI τ 27 := funext q6
      have n6 : ∀ l, sI τ6 26 l = sI τ4 26 l := fun l => (congrArg Int32.toInt (F6 26 l rfl)).trans (congrArg Int32.toInt (F5 26 l rfl))
      refine ih _ τ6 ⟨by omega, by omega, hB6, FQ.tr G5 (FQ.up (G := []) rfl F6), k, rfl, ?_, fun l hl2 => ?_⟩
      · rw [sN, if_neg (by rw [← d5]; exact z2)]
        exact hQ.cg (fun p _ => q6 p)
      · rw [n6, e6]
        by_cases e : l = i.toNat
        · rw [e, m4]
          unfold wr_nm
          rw [if_neg (by rw [← d5]; exact z2)]
          rfl
        · rw [n4 l e]
          exact hn l (by omega)
    · have z2 : y5 3 = D := z2
      have dD : dy i.toNat = D := by rw [← d5]; exact z2
      rw [if_pos dD] at sN
      have Q5 : wr_Q (sI τ5 27) (wr_set dy wh ot D i.toNat) k := hQ.cg (fun p _ => (congrArg Int32.toInt (F5 27 p rfl)).trans (q4 p))
      refine wzwn_23 D k i hB5 ⟨hD, hk, by omega, trivial⟩ ?_
      intro τ6 y6 hB6 F6 f6 _ _ c6
      have w6 : y6 3 = wh i.toNat := by
        rw [← c6.1, F6 23 _ rfl, F5 23 _ rfl]
        exact R4.2.1
      have Q6 : wr_Q (sI τ6 27) (wr_set dy wh ot D i.toNat) k := Q5.cg (fun p _ => congrArg Int32.toInt (F6 27 p rfl))
      rw [w6]
      refine Ok.cv rfl rfl rfl rfl rfl rfl rfl ?_
      refine (x_seat24 (wh i.toNat) k _ hB6 (by omega) Q6).use (by decide) (fun r τ7 q => ?_)
      obtain ⟨k7, rfl, hB7, F7, Q7, s7⟩ := q
      have hk7 := Q7.k10
      have em : wr_bm (wh i.toNat) = 2 ^ (wh i.toNat).toNat := if_neg (by omega)
      rw [em] at Q7
      refine wzwn_30 D k i k7 hB7 ⟨hD, hk, by omega, hk7, trivial⟩ ?_
      intro τ8 y8 hB8 F8 f8 _ _ c8
      have w8 : y8 4 = ot i.toNat := by
        rw [← c8.1, F8 24 _ rfl, F7 24 _ rfl, F6 24 _ rfl, F5 24 _ rfl]
        exact R4.2.2.1
      have Q8 : wr_Q (sI τ8 27) (wr_set dy wh ot D i.toNat ||| 2 ^ (wh i.toNat).toNat) k7 := Q7.cg (fun p _ => congrArg Int32.toInt (F8 27 p rfl))
      rw [w8]
      refine Ok.cv rfl rfl rfl rfl rfl rfl rfl ?_
      refine (x_seat24 (ot i.toNat) k7 _ hB8 (by omega) Q8).use (by decide) (fun r τ9 q => ?_)
      obtain ⟨k9, rfl, hB9, F9, Q9, s9⟩ := q
      have hk9 := Q9.k10
      have sN2 : wr_set dy wh ot D i.toNat ||| 2 ^ (wh i.toNat).toNat ||| wr_bm (ot i.toNat) = wr_set dy wh ot D (i + 1).toNat := by rw [sN]
      rw [sN2] at Q9
      have inS := wr_set_in (dy := dy) (wh := wh) (ot := ot) (D := D) (i := (i + 1).toNat) (l := i.toNat) (by omega) dD
      refine wzwn_38 D k7 i k9 hB9 ⟨hD, hk7, by omega, hk9, trivial⟩ ?_
      intro τa ya hBa Fa fa _ _ ca
      have wa : ya 4 = wh i.toNat := by
        rw [← ca.1, Fa 23 _ rfl, F9 23 _ rfl, F8 23 _ rfl, F7 23 _ rfl, F6 23 _ rfl, F5 23 _ rfl]
        exact R4.2.1
      rw [wa]
      have sa : ∀ p, sI τa 27 p = sI τ9 27 p := fun p => congrArg Int32.toInt (Fa 27 p rfl)
      have bw := Q9.2.2.2.1 (wh i.toNat).toNat (by omega) inS.1
      refine Ok.cv rfl rfl rfl rfl rfl rfl rfl ?_
      refine (x_bit24 (wh i.toNat) hBa (by omega) (fun _ => by rw [sa]; omega)).use (by decide) (fun r τb q => ?_)
      obtain ⟨rfl, hBb, Fb⟩ := q
      have lt1 : wr_sb (sI τa 27) (wh i.toNat) < 2 ^ 10 := wr_sb_lt (fun _ => by rw [sa]; omega) (Nat.le_refl 10)
      refine wzwn_48 D k9 i ((wr_sb (sI τa 27) (wh i.toNat) : Nat) : Int) hBb ⟨hD, hk9, by omega, by omega, trivial⟩ ?_
      intro τc yc hBc Fc fc _ _ cc
      have wc : yc 4 = ot i.toNat := by
        rw [← cc.1, Fc 24 _ rfl, Fb 24 _ rfl, Fa 24 _ rfl, F9 24 _ rfl, F8 24 _ rfl, F7 24 _ rfl, F6 24 _ rfl, F5 24 _ rfl]
        exact R4.2.2.1
      rw [wc]
      have sc : ∀ p, sI τc 27 p = sI τ9 27 p := fun p => (congrArg Int32.toInt (Fc 27 p rfl)).trans ((congrArg Int32.toInt (Fb 27 p rfl)).trans (sa p))
      refine Ok.cv rfl rfl rfl rfl rfl rfl rfl ?_
      refine (x_bit24 (ot i.toNat) hBc (by omega) (fun ho => by
        have bo := Q9.2.2.2.1 (ot i.toNat).toNat (by omega) (inS.2 ho)
        rw [sc]
        omega)).use (by decide) (fun r τd q => ?_)
      obtain ⟨rfl, hBd, Fd⟩ := q
      have lt2 : wr_sb (sI τc 27) (ot i.toNat) < 2 ^ 10 := wr_sb_lt (fun ho => by
        have bo := Q9.2.2.2.1 (ot i.toNat).toNat (by omega) (inS.2 ho)
        rw [sc]
        omega) (Nat.le_refl 10)
      refine wzwn_54 D k9 i ((wr_sb (sI τa 27) (wh i.toNat) : Nat) : Int) ((wr_sb (sI τc 27) (ot i.toNat) : Nat) : Int) hBd ⟨hD, hk9, by omega, by omega, by omega, trivial⟩ ?_
      intro τe ye hBe Fe fe _ de _
      have oe := orN (a := wr_sb (sI τa 27) (wh i.toNat)) (b := wr_sb (sI τc 27) (ot i.toNat)) lt1 lt2
      rw [de.1] at oe
      rw [oe]
      have lt3 : wr_sb (sI τa 27) (wh i.toNat) ||| wr_sb (sI τc 27) (ot i.toNat) < 2 ^ 10 := Nat.or_lt_two_pow lt1 lt2
      refine Ok.ast (n := 30) rfl rfl rfl (by decide) (by omega) (by omega) ?_
      have hBf : an_GB pm_B (put τe 26 i.toNat (Int32.ofInt ((wr_sb (sI τa 27) (wh i.toNat) ||| wr_sb (sI τc 27) (ot i.toNat) : Nat) : Int))) := put_GB hBe (ai_rng _)
      refine wzwn_56 D k9 i hBf ⟨hD, hk9, by omega, trivial⟩ ?_
      intro τg yg hBg Fg _ _ _ _
      have Fx : FQ [(26, 9999), (27, 9999)] σ τe := FQ.tr G5 (FQ.tr (FQ.up (G := []) rfl F6) (FQ.tr (FQ.up (G := [(27, 9999)]) rfl F7) (FQ.tr (FQ.up (G := []) rfl F8) (FQ.tr (FQ.up (G := [(27, 9999)]) rfl F9) (FQ.up (G := []) rfl (FQ.tr Fa (FQ.tr Fb (FQ.tr Fc (FQ.tr Fd Fe)))))))))
      have sg : ∀ p, sI τg 27 p = sI τ9 27 p := fun p => by
        show (τg.1 27 p).toInt = _
        rw [Fg 27 p rfl, put_nr (by decide), Fe 27 p rfl, Fd 27 p rfl]
        exact sc p
      have eg : sI τg 27 = sI τ9 27 := funext sg
      have ea : sI τa 27 = sI τ9 27 := funext sa
      have ec : sI τc 27 = sI τ9 27 := funext sc
      refine ih _ τg ⟨by omega, by omega, hBg, FQ.tr Fx (FQ.tr (FQ.put rfl) (FQ.up (G := []) rfl Fg)), k9, rfl, Q9.cg (fun p _ => sg p), fun l hl2 => ?_⟩
      have g26 : sI τg 26 l = if l = i.toNat then ((wr_sb (sI τ9 27) (wh i.toNat) ||| wr_sb (sI τ9 27) (ot i.toNat) : Nat) : Int) else sI τ4 26 l := by
        show (τg.1 26 l).toInt = _
        rw [Fg 26 l rfl, put_get]
        by_cases e : l = i.toNat
        · rw [if_pos ⟨rfl, e⟩, if_pos e, ti_of (by omega) (by omega), ea, ec]
        · rw [if_neg (fun z => e z.2), if_neg e, Fe 26 l rfl, Fd 26 l rfl, Fc 26 l rfl, Fb 26 l rfl, Fa 26 l rfl, F9 26 l rfl, F8 26 l rfl, F7 26 l rfl, F6 26 l rfl, F5 26 l rfl]
      rw [g26, eg]
      by_cases e : l = i.toNat
      · rw [if_pos e, e]
        unfold wr_nm
        rw [if_pos dD]
      · rw [if_neg e, n4 l e, hn l (by omega)]
        have s46 : ∀ q, q < 10 → Nat.testBit (wr_set dy wh ot D i.toNat) q = true → sI τ9 27 q = sI τ 27 q := fun q hq hb => by
          have b2 : Nat.testBit (wr_set dy wh ot D i.toNat ||| 2 ^ (wh i.toNat).toNat) q = true := by rw [wr_tb, hb, Bool.true_or]
          rw [s9 q hq b2, show sI τ8 27 q = sI τ7 27 q from congrArg Int32.toInt (F8 27 q rfl), s7 q hq hb, show sI τ6 27 q = sI τ5 27 q from congrArg Int32.toInt (F6 27 q rfl), show sI τ5 27 q = sI τ4 27 q from congrArg Int32.toInt (F5 27 q rfl), q4]
        have hll := hL l (by omega)
        exact congrArg (fun x : Nat => (x : Int)) (wr_nm_cg (fun hd => by
          have hin := wr_set_in (dy := dy) (wh := wh) (ot := ot) (D := D) (i := i.toNat) (l := l) (by omega) hd
          exact ⟨s46 _ (by omega) hin.1, fun ho => s46 _ (by omega) (hin.2 ho)⟩)).symm
end WRC
