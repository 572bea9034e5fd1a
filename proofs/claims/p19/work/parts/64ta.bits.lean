/-! bits of small sets; stops in a row -/
theorem bt1 : ∀ m, m < 1024 → ∀ t, t < 10 → (an_f 3 (an_f 7 (Int32.ofInt (m : Nat)) (Int32.ofInt (t : Nat))) (Int32.ofInt 1)).toInt = if Nat.testBit m t then 1 else 0 := by decide +kernel
theorem bt2 : ∀ m, m < 1024 → ∀ t, t < 10 → (an_f 3 (Int32.ofInt (m : Nat)) (an_f 5 (an_f 6 (Int32.ofInt 1) (Int32.ofInt (t : Nat))) (Int32.ofInt (-1)))).toInt = if Nat.testBit m t then ((m ^^^ 2 ^ t : Nat) : Int) else m := by decide +kernel
theorem bt3 : ∀ t, t < 11 → (an_f 6 (Int32.ofInt 1) (Int32.ofInt (t : Nat))).toInt = ((2 ^ t : Nat) : Int) := by decide +kernel
theorem bt4 : ∀ t, t < 10 → ∀ m, m < 2 ^ t → (an_f 4 (Int32.ofInt (m : Nat)) (Int32.ofInt ((2 ^ t : Nat) : Int))).toInt = ((m ||| 2 ^ t : Nat) : Int) := by decide +kernel
theorem nOf {x : Int} (h : 0 ≤ x) : ((x.toNat : Nat) : Int) = x := by omega
theorem bitI {x i y4 y5 : Int} (hx : 0 ≤ x ∧ x ≤ 1023) (hi : 0 ≤ i ∧ i ≤ 9) (d4 : (an_f 7 (Int32.ofInt x) (Int32.ofInt i)).toInt = y4) (d5 : (an_f 3 (Int32.ofInt y4) (Int32.ofInt 1)).toInt = y5) : y5 = if Nat.testBit x.toNat i.toNat then 1 else 0 := by
  have h := bt1 x.toNat (by omega) i.toNat (by omega)
  rw [nOf hx.1, nOf hi.1] at h
  rw [← d5, ← d4, oI]
  exact h
theorem bitT {x i y4 y5 : Int} (hx : 0 ≤ x ∧ x ≤ 1023) (hi : 0 ≤ i ∧ i ≤ 9) (d4 : (an_f 7 (Int32.ofInt x) (Int32.ofInt i)).toInt = y4) (d5 : (an_f 3 (Int32.ofInt y4) (Int32.ofInt 1)).toInt = y5) (h : 1 ≤ y5) : Nat.testBit x.toNat i.toNat = true := by
  have e := bitI hx hi d4 d5
  by_cases z : Nat.testBit x.toNat i.toNat = true
  · exact z
  · rw [if_neg z] at e
    omega
theorem bitF {x i y4 y5 : Int} (hx : 0 ≤ x ∧ x ≤ 1023) (hi : 0 ≤ i ∧ i ≤ 9) (d4 : (an_f 7 (Int32.ofInt x) (Int32.ofInt i)).toInt = y4) (d5 : (an_f 3 (Int32.ofInt y4) (Int32.ofInt 1)).toInt = y5) (h : y5 ≤ 0) : Nat.testBit x.toNat i.toNat = false := by
  have e := bitI hx hi d4 d5
  by_cases z : Nat.testBit x.toNat i.toNat = true
  · rw [if_pos z] at e
    omega
  · simpa using z
theorem clrI {x i y1 y2 y3 : Int} (hx : 0 ≤ x ∧ x ≤ 1023) (hi : 0 ≤ i ∧ i ≤ 9) (d1 : (an_f 6 (Int32.ofInt 1) (Int32.ofInt i)).toInt = y1) (d2 : (an_f 5 (Int32.ofInt y1) (Int32.ofInt (-1))).toInt = y2) (d3 : (an_f 3 (Int32.ofInt x) (Int32.ofInt y2)).toInt = y3) : y3 = if Nat.testBit x.toNat i.toNat then ((x.toNat ^^^ 2 ^ i.toNat : Nat) : Int) else x := by
  have h := bt2 x.toNat (by omega) i.toNat (by omega)
  rw [nOf hx.1, nOf hi.1] at h
  rw [← d3, ← d2, oI, ← d1, oI]
  exact h
theorem shlI {i y : Int} (hi : 0 ≤ i ∧ i ≤ 10) (d : (an_f 6 (Int32.ofInt 1) (Int32.ofInt i)).toInt = y) : y = ((2 ^ i.toNat : Nat) : Int) := by
  have h := bt3 i.toNat (by omega)
  rw [nOf hi.1] at h
  rw [← d]
  exact h
theorem orI {x i y1 y2 : Int} (hi : 0 ≤ i ∧ i ≤ 9) (hx : 0 ≤ x ∧ x.toNat < 2 ^ i.toNat) (d1 : (an_f 6 (Int32.ofInt 1) (Int32.ofInt i)).toInt = y1) (d2 : (an_f 4 (Int32.ofInt x) (Int32.ofInt y1)).toInt = y2) : y2 = ((x.toNat ||| 2 ^ i.toNat : Nat) : Int) := by
  have h := bt4 i.toNat (by omega) x.toNat hx.2
  rw [nOf hx.1] at h
  rw [← d2, shlI ⟨hi.1, by omega⟩ d1]
  exact h
theorem mulC {a c y : Int} (ha : 0 ≤ a ∧ a ≤ 1023) (hc : 0 ≤ c ∧ c ≤ 20) (h : (an_f 2 (Int32.ofInt a) (Int32.ofInt c)).toInt = y) : y = a * c := by
  have b : 0 ≤ a * c ∧ a * c ≤ 1023 * 20 := ⟨Int.mul_nonneg ha.1 hc.1, Int.mul_le_mul ha.2 hc.2 hc.1 (by omega)⟩
  rw [← h]
  show (Int32.ofInt a * Int32.ofInt c).toInt = _
  rw [ai_mul] <;> rw [ti_of (by omega) (by omega), ti_of (by omega) (by omega)] <;> omega
theorem mulD {a c y : Int} (ha : 0 ≤ a ∧ a ≤ 1023) (hc : 0 ≤ c ∧ c ≤ 20) (h : (an_f 2 (Int32.ofInt c) (Int32.ofInt a)).toInt = y) : y = a * c := by
  refine mulC ha hc ?_
  rw [← h]
  show (Int32.ofInt a * Int32.ofInt c).toInt = (Int32.ofInt c * Int32.ofInt a).toInt
  rw [Int32.mul_comm]
theorem addC {a b y : Int} (ha : (-1000000000) ≤ a ∧ a ≤ 1000000000) (hb : (-1000000000) ≤ b ∧ b ≤ 1000000000) (h : (an_f 0 (Int32.ofInt a) (Int32.ofInt b)).toInt = y) : y = a + b := by
  rw [← h, sum0 (by omega) (by omega) (by omega) (by omega) (by omega) (by omega)]
theorem minC {a b y : Int} (ha : (-2147483648) ≤ a ∧ a ≤ 2147483647) (hb : (-2147483648) ≤ b ∧ b ≤ 2147483647) (h : (an_f 11 (Int32.ofInt a) (Int32.ofInt b)).toInt = y) : y = min a b := by
  rw [← h]
  show (pm_min (Int32.ofInt a) (Int32.ofInt b)).toInt = _
  unfold pm_min
  have e1 := ti_of ha.1 ha.2
  have e2 := ti_of hb.1 hb.2
  split
  · rename_i z
    rw [Int32.lt_iff_toInt_lt, e1, e2] at z
    omega
  · rename_i z
    rw [Int32.lt_iff_toInt_lt, e1, e2] at z
    omega
/-- those of the first s of which P is so, in their order -/
def stp (P : Nat → Bool) : Nat → List Nat
  | 0 => []
  | s + 1 => if P s then stp P s ++ [s] else stp P s
theorem stp_mem {P : Nat → Bool} {t : Nat} : ∀ s, t ∈ stp P s ↔ t < s ∧ P t = true
  | 0 => ⟨fun h => absurd h List.not_mem_nil, fun h => absurd h.1 (Nat.not_lt_zero _)⟩
  | s + 1 => by
    unfold stp
    by_cases h : P s = true
    · rw [if_pos h, List.mem_append, stp_mem s, List.mem_singleton]
      constructor
      · rintro (⟨h1, h2⟩ | rfl)
        · exact ⟨by omega, h2⟩
        · exact ⟨by omega, h⟩
      · rintro ⟨h1, h2⟩
        by_cases e : t = s
        · exact Or.inr e
        · exact Or.inl ⟨by omega, h2⟩
    · rw [if_neg h, stp_mem s]
      constructor
      · rintro ⟨h1, h2⟩
        exact ⟨by omega, h2⟩
      · rintro ⟨h1, h2⟩
        by_cases e : t = s
        · rw [e] at h2
          exact absurd h2 h
        · exact ⟨by omega, h2⟩
theorem stp_len {P : Nat → Bool} : ∀ s, (stp P s).length ≤ s
  | 0 => Nat.le_refl _
  | s + 1 => by
    have ih := stp_len (P := P) s
    unfold stp
    split
    · rw [List.length_append, List.length_singleton]
      omega
    · omega
theorem stp_lf {P : Nat → Bool} {fr : Nat} (hf : P fr = false) : ∀ s, fr < s → (stp P s).length + 1 ≤ s
  | 0, h => absurd h (Nat.not_lt_zero _)
  | s + 1, h => by
    unfold stp
    by_cases e : fr = s
    · rw [← e, if_neg (by rw [hf]; decide), e]
      have := stp_len (P := P) s
      omega
    · have ih := stp_lf hf s (by omega)
      split
      · rw [List.length_append, List.length_singleton]
        omega
      · omega
theorem stp_le {P : Nat → Bool} {s : Nat} : (stp P s).length ≤ (stp P (s + 1)).length := by
  show _ ≤ (if P s then stp P s ++ [s] else stp P s).length
  split
  · rw [List.length_append]
    omega
  · exact Nat.le_refl _
theorem stp_pre {P : Nat → Bool} {s : Nat} : ∀ d i, i < (stp P s).length → (stp P (s + d)).getD i 0 = (stp P s).getD i 0 ∧ i < (stp P (s + d)).length
  | 0, i, h => ⟨rfl, h⟩
  | d + 1, i, h => by
    have ih := stp_pre (P := P) d i h
    refine ⟨?_, Nat.lt_of_lt_of_le ih.2 stp_le⟩
    rw [← ih.1]
    show (if P (s + d) then stp P (s + d) ++ [s + d] else stp P (s + d)).getD i 0 = _
    split
    · rw [List.getD_eq_getElem?_getD, List.getElem?_append_left ih.2, ← List.getD_eq_getElem?_getD]
    · rfl
theorem stp_get {P : Nat → Bool} {s i : Nat} (h : i < (stp P s).length) : (stp P s).getD i 0 ∈ stp P s := by
  rw [List.getD_eq_getElem?_getD, List.getElem?_eq_getElem h]
  exact List.getElem_mem h
theorem stp_inc {P : Nat → Bool} : ∀ s i j, i < j → j < (stp P s).length → (stp P s).getD i 0 < (stp P s).getD j 0
  | 0, i, j, _, h => absurd h (Nat.not_lt_zero _)
  | s + 1, i, j, hij, h => by
    by_cases hp : P s = true
    · have e : stp P (s + 1) = stp P s ++ [s] := if_pos hp
      rw [e] at h ⊢
      rw [List.length_append, List.length_singleton] at h
      by_cases hj : j < (stp P s).length
      · rw [List.getD_eq_getElem?_getD, List.getElem?_append_left (by omega), List.getD_eq_getElem?_getD, List.getElem?_append_left hj, ← List.getD_eq_getElem?_getD, ← List.getD_eq_getElem?_getD]
        exact stp_inc s i j hij hj
      · have ej : j = (stp P s).length := by omega
        have a : (stp P s ++ [s]).getD j 0 = s := by
          rw [List.getD_eq_getElem?_getD, ej, List.getElem?_append_right (Nat.le_refl _), Nat.sub_self]
          rfl
        have b : (stp P s ++ [s]).getD i 0 = (stp P s).getD i 0 := by
          rw [List.getD_eq_getElem?_getD, List.getElem?_append_left (by omega), ← List.getD_eq_getElem?_getD]
        rw [a, b]
        exact ((stp_mem s).mp (stp_get (by omega))).1
    · have e : stp P (s + 1) = stp P s := if_neg hp
      rw [e] at h ⊢
      exact stp_inc s i j hij h
theorem stp_inj {P : Nat → Bool} {s i j : Nat} (hi : i < (stp P s).length) (hj : j < (stp P s).length) (e : (stp P s).getD i 0 = (stp P s).getD j 0) : i = j := by
  rcases Nat.lt_trichotomy i j with h | h | h
  · have := stp_inc s i j h hj
    omega
  · exact h
  · have := stp_inc s j i h hi
    omega
theorem stp_at {P : Nat → Bool} {s t : Nat} (h : t ∈ stp P s) : ∃ i, i < (stp P s).length ∧ (stp P s).getD i 0 = t := by
  obtain ⟨i, hi, e⟩ := List.getElem_of_mem h
  exact ⟨i, hi, by rw [List.getD_eq_getElem?_getD, List.getElem?_eq_getElem hi]; exact e⟩
/-- the set of stops that are in a set, as spots: that set's part among the stops -/
theorem img_set {P : Nat → Bool} {S m b : Nat} (hb : ∀ i, i < (stp P S).length → (Nat.testBit b i = true ↔ Nat.testBit m ((stp P S).getD i 0) = true)) (hm : ∀ t, Nat.testBit m t = true → t < S ∧ P t = true) : img (fun i => (stp P S).getD i 0) (stp P S).length b = m := by
  refine Nat.eq_of_testBit_eq (fun t => Bool.eq_iff_iff.mpr ?_)
  rw [img_t]
  constructor
  · rintro ⟨i, h1, h2, rfl⟩
    exact (hb i h1).mp h2
  · intro h
    obtain ⟨i, h1, h2⟩ := stp_at ((stp_mem S).mpr (hm t h))
    exact ⟨i, h1, (hb i h1).mpr (by rw [h2]; exact h), h2⟩
