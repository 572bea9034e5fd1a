/-! the class's tour: prepare, fewestMiles, tour -/
section TOUR2
variable {W : Nat → Nat → Int}
set_option maxRecDepth 20000 in
theorem x_prep {σ : pm_S} (f m S : Int) (hB : an_GB pm_B σ) (hf : 0 ≤ f ∧ f < S) (hS : S ≤ 10) (hm : 0 ≤ m ∧ m ≤ 1023) (eS : (σ.1 3 0).toInt = S) (hW : ∀ a b, 0 ≤ W a b ∧ W a b ≤ 99) (hWs : ∀ a c, W a c = W c a) (hr : ∀ a c : Nat, (a : Int) < S → (c : Int) < S → a ≠ c → (σ.1 5 ((a : Int) * 10 + c).toNat).toInt = W a c) : Sp 105 21 [.ref 85, .int (Int32.ofInt f), .int (Int32.ofInt m)] σ (fun r τ => r = none ∧ an_GB pm_B τ ∧ FQ FPr σ τ ∧ SQ τ (stp (PS f.toNat m.toNat) S.toNat).length (fun i => (stp (PS f.toNat m.toNat) S.toNat).getD i 0) ∧ LFQ τ W f.toNat (stp (PS f.toNat m.toNat) S.toNat).length (fun i => (stp (PS f.toNat m.toNat) S.toNat).getD i 0) ∧ TBQ τ W f.toNat S.toNat (stp (PS f.toNat m.toNat) S.toNat).length (fun i => (stp (PS f.toNat m.toNat) S.toNat).getD i 0) (2 ^ (stp (PS f.toNat m.toNat) S.toNat).length)) := by
  have hP : PS f.toNat m.toNat f.toNat = false := PS_fr
  have hn : (stp (PS f.toNat m.toNat) S.toNat).length ≤ 9 := stp_9 hP (S := S.toNat) (by omega) (by omega) (Nat.le_refl _)
  have mem : ∀ i, i < (stp (PS f.toNat m.toNat) S.toNat).length → (stp (PS f.toNat m.toNat) S.toNat).getD i 0 < S.toNat ∧ PS f.toNat m.toNat ((stp (PS f.toNat m.toNat) S.toNat).getD i 0) = true := fun i hi => (stp_mem _).mp (stp_get hi)
  have inj : ∀ i j, i < (stp (PS f.toNat m.toNat) S.toNat).length → j < (stp (PS f.toNat m.toNat) S.toNat).length → (stp (PS f.toNat m.toNat) S.toNat).getD i 0 = (stp (PS f.toNat m.toNat) S.toNat).getD j 0 → i = j := fun i j hi hj e => stp_inj hi hj e
  refine Sp.at rfl rfl ?_
  refine su_p0 f m _ _ rfl rfl hB ⟨by omega, hm, trivial⟩ ?_
  intro τ y v hv hB1 F1 _ _ _ c1
  refine x_stops (σ := σ) f m S hf hS hm eS ?_ τ v hv hB1 (FQ.up (G := [(85, 1)]) rfl F1) c1.1
  intro τ2 v2 hv2 hB2 F2 s2
  refine su_p36 f m S v2 hv2 hB2 ⟨by omega, hm, by omega, trivial⟩ ?_
  intro τ3 y3 v3 hv3 hB3 F3 _ _ _ _
  have G3 : FQ FTs σ τ3 := FQ.tr F2 (FQ.up (G := []) rfl F3)
  have q3 : SQ τ3 (stp (PS f.toNat m.toNat) S.toNat).length (fun i => (stp (PS f.toNat m.toNat) S.toNat).getD i 0) := SQ.fr [] rfl rfl F3 s2
  refine Ok.cv rfl rfl rfl rfl rfl rfl rfl ?_
  refine (x_note f S _ _ hB3 hf hS hn (fun i hi => by have := (mem i hi).1; omega) ((congrArg Int32.toInt (G3 3 0 rfl)).trans eS) q3).use (by decide) (fun r τ4 q => ?_)
  obtain ⟨rfl, hB4, F4, g4⟩ := q
  refine su_p39 f m S v3 hv3 hB4 ⟨by omega, hm, by omega, trivial⟩ ?_
  intro τ5 y5 v5 hv5 hB5 F5 _ _ _ _
  have l5 : LFQ τ5 W f.toNat (stp (PS f.toNat m.toNat) S.toNat).length (fun i => (stp (PS f.toNat m.toNat) S.toNat).getD i 0) := fun i hi => by
    have a := LGQ.fr [] rfl rfl F5 g4 i hi
    have mi := mem i hi
    refine ⟨?_, fun j hj hne => ?_⟩
    · rw [a.1, G3 5 _ rfl]
      have ne : f.toNat ≠ (stp (PS f.toNat m.toNat) S.toNat).getD i 0 := fun z => by
        rw [← z, hP] at mi
        cases mi.2
      have h := hr f.toNat ((stp (PS f.toNat m.toNat) S.toNat).getD i 0) (by omega) (by omega) ne
      rw [show ((f.toNat : Nat) : Int) = f by omega] at h
      exact h
    · rw [a.2 j hj, G3 5 _ rfl]
      have mj := mem j hj
      exact hr _ _ (by omega) (by omega) (fun z => hne (inj i j hi hj z).symm)
  refine x_table (σ := σ) (W := W) (fr := f.toNat) (N := S.toNat) f m (by omega) hm (by omega) hW hWs inj (fun i hi => (mem i hi).1) hn ?_ τ5 v5 hv5 hB5 (FQ.tr (FQ.up (G := FTs) rfl G3) (FQ.tr (FQ.up (G := FLg) rfl F4) (FQ.up (G := []) rfl F5))) (SQ.fr [] rfl rfl F5 (SQ.fr FLg rfl rfl F4 q3)) l5
  intro τ6 hB6 F6 q6 l6 t6
  exact ⟨rfl, hB6, F6, q6, l6, t6⟩
set_option maxRecDepth 20000 in
/-- fewestMiles behind prepare -/
theorem x_fM {σ : pm_S} {fr N n : Nat} {st : Nat → Nat} (m : Int) (hB : an_GB pm_B σ) (hm : 0 ≤ m ∧ m ≤ 1023) (hN : N ≤ 10) (hW : ∀ a b, 0 ≤ W a b ∧ W a b ≤ 99) (hW0 : W fr fr = 0) (inj : ∀ i j, i < n → j < n → st i = st j → i = j) (hs : ∀ i, i < n → st i < N) (hn : n ≤ 9) (hq : SQ σ n st) (hl : LFQ σ W fr n st) (ht : TBQ σ W fr N n st (2 ^ n)) : Sp 108 21 [.ref 85, .int (Int32.ofInt m)] σ (fun r τ => an_GB pm_B τ ∧ FQ [] σ τ ∧ ∃ b, b < 2 ^ n ∧ (∀ i, i < n → (Nat.testBit b i = true ↔ Nat.testBit m.toNat (st i) = true)) ∧ r = some (.int (Int32.ofInt (On W fr N (img st n b) fr)))) := by
  have p9 : 2 ^ n ≤ 512 := Nat.pow_le_pow_right (by decide) hn
  refine Sp.at rfl rfl ?_
  refine su_m0 m _ _ _ rfl rfl rfl hB ⟨hm, trivial⟩ ?_
  intro τ0 y0 v0 hv0 hB0 F0 _ _ _ _
  refine Ok.loop (fun i L τ => 0 ≤ i ∧ i ≤ n ∧ (∃ (v : Value) (b : Nat), v.category = 1 ∧ b < 2 ^ i.toNat ∧ (∀ j, j < i.toNat → (Nat.testBit b j = true ↔ Nat.testBit m.toNat (st j) = true)) ∧ L = [.ref 85, .int (Int32.ofInt m), .int (Int32.ofInt b), .int (Int32.ofInt i), v]) ∧ an_GB pm_B τ ∧ FQ [] σ τ) n (fun i L τ h => h.2.1) ?_ 0 _ τ0 ⟨by decide, by omega, ⟨v0, 0, hv0, by decide, fun j hj => absurd hj (Nat.not_lt_zero _), rfl⟩, hB0, F0⟩
  rintro i L τ ⟨i0, i1, ⟨v, b, hv, hb, hbj, rfl⟩, hB1, F1⟩ ih
  have pi : 2 ^ i.toNat ≤ 2 ^ n := Nat.pow_le_pow_right (by decide) (by omega)
  have q1 := SQ.fr [] rfl rfl F1 hq
  refine su_m4 m b i n v hv hB1 ⟨hm, by omega, by omega, by omega, trivial⟩ ⟨q1.1, trivial⟩ ?_
  intro τ2 y2 v2 hv2 hB2 F2 _ _ _ _
  have G2 : FQ [] σ τ2 := FQ.tr F1 F2
  have e1 : (i + 1).toNat = i.toNat + 1 := by omega
  refine Ok.ic rfl rfl (by omega) (by omega) (by omega) (by omega) (fun z => ?_) (fun z => ?_)
  · have z : (n : Int) ≤ i := z
    have en : i.toNat = n := by omega
    rw [en] at hb hbj
    refine su_m25 m b i v2 hv2 hB2 ⟨hm, by omega, by omega, trivial⟩ ?_ ?_
    · intro τ3 y3 hB3 F3 f3 _ _ _
      have fb1 := f3.2.1
      have G3 : FQ [] σ τ3 := FQ.tr G2 F3
      have fb : ∀ i, i < n → Nat.testBit b i = true → (σ.1 89 (b * 9 + i)).toInt = On W fr N (img st n (b ^^^ 2 ^ i)) (st i) ∧ (σ.1 88 i).toInt = W fr (st i) ∧ 0 ≤ (σ.1 89 (b * 9 + i)).toInt ∧ (σ.1 89 (b * 9 + i)).toInt ≤ 110000 ∧ 0 ≤ (σ.1 88 i).toInt ∧ (σ.1 88 i).toInt ≤ 99 := fun i hi hbi => by
        have a := ht b (by omega) hb i hi hbi
        have c := (hl i hi).1
        have w := hW fr (st i)
        have d := On_img_b (fr := fr) hN hW hs (b ^^^ 2 ^ i) (st i)
        exact ⟨a, c, by omega, by omega, by omega, by omega⟩
      refine Ok.loop (fun i L τ => 0 ≤ i ∧ i ≤ n ∧ L = [.ref 85, .int (Int32.ofInt m), .int (Int32.ofInt b), .int (Int32.ofInt (mnB 1073741824 (fun i => Nat.testBit b i) (fun i => (σ.1 89 (b * 9 + i)).toInt + (σ.1 88 i).toInt) i.toNat)), .int (Int32.ofInt i)] ∧ an_GB pm_B τ ∧ FQ [] σ τ) n (fun i L τ h => h.2.1) ?_ 0 _ τ3 ⟨by decide, by omega, rfl, hB3, G3⟩
      rintro i L τ ⟨i0, i1, rfl, hB4, F4⟩ jh
      have mb := mnB_b (B := 1073741824) (P := fun i => Nat.testBit b i) (f := fun i => (σ.1 89 (b * 9 + i)).toInt + (σ.1 88 i).toInt) (by decide) i.toNat (fun j hj hbj => by have := fb j (by omega) hbj; omega)
      generalize hmn : mnB 1073741824 (fun i => Nat.testBit b i) (fun i => (σ.1 89 (b * 9 + i)).toInt + (σ.1 88 i).toInt) i.toNat = mn at mb
      refine su_m33 m b mn i n hB4 ⟨hm, by omega, by omega, by omega, by omega, trivial⟩ ⟨(SQ.fr [] rfl rfl F4 hq).1, trivial⟩ ?_
      intro τ5 y5 hB5 F5 _ _ _ _
      have G5 : FQ [] σ τ5 := FQ.tr F4 F5
      have e1 : (i + 1).toNat = i.toNat + 1 := by omega
      refine Ok.ic rfl rfl (by omega) (by omega) (by omega) (by omega) (fun w => ?_) (fun w => ?_)
      · have w : (n : Int) ≤ i := w
        refine su_m59 m b mn i hB5 ⟨hm, by omega, by omega, by omega, trivial⟩ ?_
        intro τ6 y6 hB6 F6 _ _ _ _
        refine ⟨hB6, FQ.tr G5 F6, b, hb, hbj, ?_⟩
        have e : i.toNat = n := by omega
        rw [← hmn, e, stepF st hN hW inj hs (by decide) (by omega) hb (fun j hj hbj => by rw [(fb j hj hbj).1, (fb j hj hbj).2.1])]
      · have w : i < (n : Int) := w
        refine su_m37 m b mn i hB5 ⟨hm, by omega, by omega, by omega, trivial⟩ ?_ ?_
        · intro τ6 y6 hB6 F6 f _ d _
          have bf := bitF (x := (b : Int)) (by omega) (by omega) d.1 d.2.1 f.2.2.2.2.2.1.2
          rw [Int.toNat_natCast] at bf
          refine jh _ τ6 ⟨by omega, by omega, ?_, hB6, FQ.tr G5 F6⟩
          rw [e1, mnB_f bf, hmn]
        · intro τ6 y6 hB6 F6 f _ d c
          have bt := bitT (x := (b : Int)) (by omega) (by omega) d.1 d.2.1 f.2.2.2.2.2.1.1
          rw [Int.toNat_natCast] at bt
          have fi := fb i.toNat (by omega) bt
          have a6 := mulC (by omega) (by omega) d.2.2.1
          have a7 := addC (by omega) (by omega) d.2.2.2.1
          have x7 : (y6 7).toNat = b * 9 + i.toNat := by omega
          have c9 := c.1
          have c8 := c.2.1
          rw [F6 88 _ rfl, G5 88 _ rfl] at c9
          rw [x7, F6 89 _ rfl, G5 89 _ rfl] at c8
          have a10 := addC (by omega) (by omega) d.2.2.2.2.1
          have a11 := minC (by omega) (by omega) d.2.2.2.2.2.1
          refine jh _ τ6 ⟨by omega, by omega, ?_, hB6, FQ.tr G5 F6⟩
          rw [e1, mnB_t bt, hmn, a11, a10, ← c8, ← c9]
    · intro τ3 y3 hB3 F3 f3 _ _ _
      have fb1 := f3.2.1
      have e0 : b = 0 := by omega
      refine ⟨hB3, FQ.tr G2 F3, b, hb, hbj, ?_⟩
      rw [e0, img_0, On_0, hW0]
  · have z : i < (n : Int) := z
    refine su_m8 m b i v2 hv2 hB2 ⟨hm, by omega, by omega, trivial⟩ ?_ ?_
    · intro τ3 y3 v3 hv3 hB3 F3 f _ d c
      have ci := c.1
      rw [F3 86 _ rfl, G2 86 _ rfl, hq.2 i.toNat (by omega)] at ci
      have si := hs i.toNat (by omega)
      have bf := bitF hm (by omega) d.1 d.2.1 f.2.2.2.2.2.1.2
      rw [← ci, Int.toNat_natCast] at bf
      have y6 : y3 6 = (b : Int) := by rw [← d.2.2.1]; exact bt5 b (by omega)
      rw [y6]
      refine ih _ τ3 ⟨by omega, by omega, ⟨v3, b, hv3, ?_, fun j hj => ?_, rfl⟩, hB3, FQ.tr G2 F3⟩
      · rw [e1, Nat.pow_succ]
        omega
      · by_cases e : j = i.toNat
        · rw [e, bf, Nat.testBit_lt_two_pow hb]
        · exact hbj j (by omega)
    · intro τ3 y3 v3 hv3 hB3 F3 f _ d c
      have ci := c.1
      rw [F3 86 _ rfl, G2 86 _ rfl, hq.2 i.toNat (by omega)] at ci
      have si := hs i.toNat (by omega)
      have bt := bitT hm (by omega) d.1 d.2.1 f.2.2.2.2.2.1.1
      rw [← ci, Int.toNat_natCast] at bt
      have y7 := orI (x := (b : Int)) (by omega) ⟨by omega, by rw [Int.toNat_natCast]; exact hb⟩ d.2.2.1 d.2.2.2.1
      rw [Int.toNat_natCast] at y7
      rw [y7]
      refine ih _ τ3 ⟨by omega, by omega, ⟨v3, b ||| 2 ^ i.toNat, hv3, ?_, fun j hj => ?_, rfl⟩, hB3, FQ.tr G2 F3⟩
      · rw [e1]
        refine Nat.or_lt_two_pow ?_ ?_
        · rw [Nat.pow_succ]
          omega
        · exact Nat.pow_lt_pow_right (by decide) (by omega)
      · rw [Nat.testBit_or, Bool.or_eq_true, Nat.testBit_two_pow]
        by_cases e : j = i.toNat
        · rw [e]
          exact ⟨fun _ => bt, fun _ => Or.inr (decide_eq_true rfl)⟩
        · rw [decide_eq_false (fun q => e q.symm)]
          constructor
          · rintro (h | h)
            · exact (hbj j (by omega)).mp h
            · cases h
          · exact fun h => Or.inl ((hbj j (by omega)).mpr h)
theorem x_so {σ : pm_S} (s S : Int) (hB : an_GB pm_B σ) (rs : (-2147483648) ≤ s ∧ s ≤ 2147483647) (hS : 0 ≤ S ∧ S ≤ 10) : Sp 155 9 [.int (Int32.ofInt s), .int (Int32.ofInt S)] σ (fun r τ => an_GB pm_B τ ∧ FQ [] σ τ ∧ ((¬ (0 ≤ s ∧ s < ((2 ^ S.toNat : Nat) : Int)) ∧ r = some (.int (Int32.ofInt 0))) ∨ ((0 ≤ s ∧ s < ((2 ^ S.toNat : Nat) : Int)) ∧ r = some (.int (Int32.ofInt 1))))) := by
  refine Sp.at rfl rfl ?_
  refine su_so0 s S hB ⟨rs, hS, trivial⟩ ?_ ?_
  · intro τ y hB1 F1 f _ _ _
    have f1 := f.1
    exact ⟨hB1, F1, Or.inl ⟨by omega, rfl⟩⟩
  · intro τ y hB1 F1 f _ d _
    have f1 := f.1
    have e := shlI hS d.1
    have f3 := f.2.2.1
    refine Ok.ic rfl rfl (by omega) (by omega) (by omega) (by omega) (fun z => ?_) (fun z => ?_)
    · have z : y 2 ≤ s := z
      refine su_so9 s S hB1 ⟨by omega, hS, trivial⟩ ?_
      intro τ2 y2 hB2 F2 _ _ _ _
      exact ⟨hB2, FQ.tr F1 F2, Or.inl ⟨by omega, rfl⟩⟩
    · have z : s < y 2 := z
      refine su_so7 s S hB1 ⟨by omega, hS, trivial⟩ ?_
      intro τ2 y2 hB2 F2 _ _ _ _
      exact ⟨hB2, FQ.tr F1 F2, Or.inr ⟨by omega, rfl⟩⟩
/-- a set without one of its own -/
def clrN (m t : Nat) : Nat := if Nat.testBit m t then m ^^^ 2 ^ t else m
theorem clrN_t {m t j : Nat} : Nat.testBit (clrN m t) j = true ↔ Nat.testBit m j = true ∧ j ≠ t := by
  unfold clrN
  by_cases h : Nat.testBit m t = true
  · rw [if_pos h]
    exact tb_x h
  · rw [if_neg h]
    constructor
    · exact fun z => ⟨z, fun e => h (by rw [← e]; exact z)⟩
    · exact fun z => z.1
set_option maxRecDepth 20000 in
theorem xc_tour {σ : pm_S} (f m S : Int) (hB : an_GB pm_B σ) (rf : (-2147483648) ≤ f ∧ f ≤ 2147483647) (rm : (-2147483648) ≤ m ∧ m ≤ 2147483647) (hS : 0 ≤ S ∧ S ≤ 10) (eS : (σ.1 3 0).toInt = S) (hW : ∀ a b, 0 ≤ W a b ∧ W a b ≤ 99) (hW0 : ∀ a, W a a = 0) (hWs : ∀ a c, W a c = W c a) (hr : ∀ a c : Nat, (a : Int) < S → (c : Int) < S → a ≠ c → (σ.1 5 ((a : Int) * 10 + c).toNat).toInt = W a c) : Sp 145 23 [.ref 0, .int (Int32.ofInt f), .int (Int32.ofInt m)] σ (fun r τ => an_GB pm_B τ ∧ FQ FPr σ τ ∧ ((¬ (0 ≤ f ∧ f < S ∧ 0 ≤ m ∧ m < ((2 ^ S.toNat : Nat) : Int)) ∧ r = some (.int (Int32.ofInt (-1)))) ∨ ((0 ≤ f ∧ f < S ∧ 0 ≤ m ∧ m < ((2 ^ S.toNat : Nat) : Int)) ∧ r = some (.int (Int32.ofInt (On W f.toNat S.toNat (clrN m.toNat f.toNat) f.toNat)))))) := by
  refine Sp.at rfl rfl ?_
  refine su_t0 f m hB ⟨rf, rm, trivial⟩ ?_
  intro τ y hB1 F1 _ _ _ _
  refine Ok.cv rfl rfl rfl rfl rfl rfl rfl ?_
  refine (x_h82 f S hB1 rf ((congrArg Int32.toInt (F1 3 0 rfl)).trans eS)).use (by decide) (fun r τ2 q => ?_)
  obtain ⟨hB2, F2, ⟨q, rfl, -⟩ | ⟨q, rfl, -⟩⟩ := q
  · refine su_t5n _ _ rfl rfl hB2 ?_
    intro τ3 y3 hB3 F3 _ _ _ _
    exact ⟨hB3, FQ.up (G := []) rfl (FQ.tr (FQ.tr F1 F2) F3), Or.inl ⟨by omega, rfl⟩⟩
  have G2 : FQ [] σ τ2 := FQ.tr F1 F2
  refine su_t5 f m S hB2 ⟨by omega, rm, hS, trivial⟩ ⟨(congrArg Int32.toInt (G2 3 0 rfl)).trans eS, trivial⟩ ?_
  intro τ3 y3 hB3 F3 _ _ _ _
  refine Ok.cs rfl rfl rfl rfl rfl rfl ?_
  refine (x_so m S hB3 rm hS).use (by decide) (fun r τ4 q2 => ?_)
  obtain ⟨hB4, F4, ⟨q2, rfl⟩ | ⟨q2, rfl⟩⟩ := q2
  · refine su_t12n _ _ rfl rfl hB4 ?_
    intro τ5 y5 hB5 F5 _ _ _ _
    exact ⟨hB5, FQ.up (G := []) rfl (FQ.tr (FQ.tr (FQ.tr G2 F3) F4) F5), Or.inl ⟨by omega, rfl⟩⟩
  have s10 : S.toNat ≤ 10 := by omega
  have p10 : 2 ^ S.toNat ≤ 1024 := Nat.pow_le_pow_right (by decide) s10
  refine su_t12 f m hB4 ⟨by omega, by omega, trivial⟩ ?_
  intro τ5 y5 hB5 F5 _ _ _ _
  have G5 : FQ [] σ τ5 := FQ.tr (FQ.tr (FQ.tr G2 F3) F4) F5
  refine Ok.cv rfl rfl rfl rfl rfl rfl rfl ?_
  refine (x_prep (W := W) f m S hB5 q hS.2 (by omega) ((congrArg Int32.toInt (G5 3 0 rfl)).trans eS) hW hWs (fun a c ha hc hne => by rw [G5 5 _ rfl]; exact hr a c ha hc hne)).use (by decide) (fun r τ6 p => ?_)
  obtain ⟨rfl, hB6, F6, q6, l6, t6⟩ := p
  refine su_t20 f m hB6 ⟨by omega, by omega, trivial⟩ ?_
  intro τ7 y7 hB7 F7 _ _ _ _
  refine Ok.cv rfl rfl rfl rfl rfl rfl rfl ?_
  have hP : PS f.toNat m.toNat f.toNat = false := PS_fr
  refine (x_fM (W := W) (fr := f.toNat) (N := S.toNat) m hB7 (by omega) (by omega) hW (hW0 _) (fun i j hi hj e => stp_inj hi hj e) (fun i hi => ((stp_mem _).mp (stp_get hi)).1) (stp_9 hP (S := S.toNat) (by omega) (by omega) (Nat.le_refl _)) (SQ.fr [] rfl rfl F7 q6) (LFQ.fm [] rfl rfl F7 l6) (TBQ.fm [] rfl F7 t6)).use (by decide) (fun r τ8 p => ?_)
  obtain ⟨hB8, F8, b, hb, hbi, rfl⟩ := p
  refine su_t24 f m _ hB8 ⟨by omega, by omega, ?_, trivial⟩ ?_
  · have := On_img_b (W := W) (fr := f.toNat) (n := (stp (PS f.toNat m.toNat) S.toNat).length) (st := fun i => (stp (PS f.toNat m.toNat) S.toNat).getD i 0) (show S.toNat ≤ 10 by omega) hW (fun i hi => ((stp_mem _).mp (stp_get hi)).1) b f.toNat
    omega
  · intro τ9 y9 hB9 F9 _ _ _ _
    refine ⟨hB9, FQ.tr (FQ.up (G := []) rfl G5) (FQ.tr F6 (FQ.up (G := []) rfl (FQ.tr (FQ.tr F7 F8) F9))), Or.inr ⟨by omega, ?_⟩⟩
    rw [img_set (P := PS f.toNat m.toNat) (S := S.toNat) (m := clrN m.toNat f.toNat) (b := b) (fun i hi => ?_) (fun t ht => ?_)]
    · rw [hbi i hi, clrN_t]
      have mi := ((stp_mem _).mp (stp_get hi)).2
      constructor
      · exact fun h => ⟨h, fun e => by rw [e, hP] at mi; cases mi⟩
      · exact fun h => h.1
    · have h := clrN_t.mp ht
      refine ⟨?_, by rw [PS_ne h.2]; exact h.1⟩
      by_cases lt : t < S.toNat
      · exact lt
      · have : m.toNat < 2 ^ t := Nat.lt_of_lt_of_le (show m.toNat < 2 ^ S.toNat by omega) (Nat.pow_le_pow_right (by decide) (by omega))
        rw [Nat.testBit_lt_two_pow this] at h
        cases h.1
end TOUR2
