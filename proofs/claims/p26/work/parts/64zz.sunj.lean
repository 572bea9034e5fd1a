/-! a Sunday, both sides: phase by phase -/
abbrev RXh (t u : Nat → Nat → Int32) : Prop := t 1 0 = u 93 1 ∧ t 1 1 = u 93 19 ∧ t 1 2 = u 93 20 ∧ t 1 3 = u 93 21 ∧ ∀ j, j < 4 → t 2 j = u 108 j
abbrev RXs (S : Nat) (t u : Nat → Nat → Int32) : Prop := (∀ a, a < S → t 4 a = u 94 a) ∧ ∀ a b, a < S → b < S → a ≠ b → (t 5 (a * 10 + b)).toInt = 9 + (u 95 (a * 10 + b)).toInt
abbrev RXp (N : Nat) (t u : Nat → Nat → Int32) : Prop := ∀ p, p < N → t 8 p = u 96 p ∧ t 9 p = u 97 p ∧ t 10 p = u 98 p ∧ t 11 p = u 99 p ∧ (t 12 p).toInt + 1 = (u 100 p).toInt
abbrev RXd (D : Nat) (t u : Nat → Nat → Int32) : Prop := ∀ d, d < D → t 14 d = u 101 d ∧ t 15 d = u 102 d ∧ t 16 d = u 103 d ∧ t 17 d = u 104 d ∧ t 18 d = u 105 d ∧ t 19 d = u 106 d ∧ t 20 d = u 107 d
abbrev RXl (D N S : Nat) (t : Nat → Nat → Int32) : Prop := (∀ p, p < N → 0 ≤ (t 8 p).toInt ∧ (t 8 p).toInt < (S : Int) ∧ 0 ≤ (t 11 p).toInt ∧ (t 11 p).toInt < (S : Int)) ∧ ∀ d, d < D → nt (t 14) d < N ∧ nt (t 15) d < N ∧ nt (t 14) d ≠ nt (t 15) d ∧ 0 ≤ (t 17 d).toInt ∧ (t 17 d).toInt < (S : Int)
/-- the class's rows t, the model's rows u -/
def RX (D N S : Nat) (t u : Nat → Nat → Int32) : Prop := (D ≤ 30 ∧ N ≤ 10 ∧ S ≤ 10) ∧ RXh t u ∧ RXs S t u ∧ RXp N t u ∧ RXd D t u ∧ RXl D N S t
theorem add1 {w : Int32} (h : -1000 ≤ w.toInt ∧ w.toInt ≤ 1000) : (w + 1).toInt = w.toInt + 1 := by
  rw [← inc_i h, ti_of (by omega) (by omega)]
theorem mlS_c {m m' : Int32} {A A' : Nat → Bool} {w w' : Nat → Int32} (hm : m = m') : ∀ p, (∀ q, q < p → A q = A' q ∧ (A q = true → w q = w' q)) → mlS m A w p = mlS m' A' w' p
  | 0, _ => hm
  | p + 1, h => by
    have ih := mlS_c (w := w) (w' := w') hm p (fun q hq => h q (by omega))
    have z := h p (by omega)
    show (if A p = true then mlS m A w p + 2 * w p else mlS m A w p) = (if A' p = true then mlS m' A' w' p + 2 * w' p else mlS m' A' w' p)
    rw [← z.1, ih]
    by_cases c : A p = true
    · rw [if_pos c, if_pos c, z.2 c]
    · rw [if_neg c, if_neg c]
section SUNJ
variable {D N S : Nat} {ls : List (List Int)}
theorem rx_1 {σ τ σ' υ : pm_S} (h : RX D N S σ.1 σ'.1) (hs : soP σ τ N) (hm : goMP σ' υ N) : RX D N S τ.1 υ.1 := by
  obtain ⟨hb, ⟨h1, h2, h3, h4, h5⟩, hS, hp, hd, hl⟩ := h
  obtain ⟨F, s1, s2, s3, s4, s5⟩ := hs
  obtain ⟨G, m1, m2, _, m3, m4, m5⟩ := hm
  have e0 := h5 0 (by decide)
  rw [← e0, ← h1] at m1 m2 m3 m4 m5
  have eA : ∀ p, p < N → awC σ (fogB (σ.1 2 0) (σ.1 1 0)) p = awM σ' (fogB (σ.1 2 0) (σ.1 1 0)) p := fun p hp' => by
    obtain ⟨a, b, _, c, _⟩ := hp p hp'
    have l := hl.1 p hp'
    have pr := hS.1 (σ.1 11 p).toInt.toNat (by omega)
    show aw _ (σ.1 8) (σ.1 11) (σ.1 4) (σ.1 9) p = aw _ (σ'.1 96) (σ'.1 99) (σ'.1 94) (σ'.1 97) p
    unfold aw
    rw [← a, ← b, ← c, ← pr]
  refine ⟨hb, ⟨?_, ?_, ?_, ?_, fun j hj => ?_⟩, ⟨fun a ha => ?_, fun a b ha hb' hab => ?_⟩, fun p hp' => ?_, fun d hd' => ?_, fun p hp' => ?_, fun d hd' => ?_⟩
  · rw [s1, m1]
  · rw [F 1 1 rfl, G 93 19 rfl]
    exact h2
  · rw [s5, m5]
    refine mlS_c h3 N (fun q hq => ⟨eA q hq, fun c => ?_⟩)
    obtain ⟨a, b, _, e, _⟩ := hp q hq
    have l := hl.1 q hq
    have ne : ¬ σ.1 11 q = σ.1 8 q := fun z => by
      rw [show awC σ (fogB (σ.1 2 0) (σ.1 1 0)) q = aw _ (σ.1 8) (σ.1 11) (σ.1 4) (σ.1 9) q from rfl, aw_eq z] at c
      cases c
    have w := hS.2 (sI σ 8 q).toNat (sI σ 11 q).toNat (by show (σ.1 8 q).toInt.toNat < S; omega) (by show (σ.1 11 q).toInt.toNat < S; omega) (fun z => ne (Int32.toInt_inj.mp (by
      have z : (σ.1 8 q).toInt.toNat = (σ.1 11 q).toInt.toNat := z
      omega)))
    show σ.1 5 ((sI σ 8 q).toNat * 10 + (sI σ 11 q).toNat) = Int32.ofInt (mlF σ' (σ'.1 96 q).toInt (σ'.1 99 q).toInt)
    unfold mlF
    rw [← a, ← e, if_neg (fun z => ne (Int32.toInt_inj.mp z.symm)), show (10 * (σ.1 8 q).toInt + (σ.1 11 q).toInt).toNat = (sI σ 8 q).toNat * 10 + (sI σ 11 q).toNat by show _ = (σ.1 8 q).toInt.toNat * 10 + (σ.1 11 q).toInt.toNat; omega, ← w, oI]
  · refine Int32.toInt_inj.mp ?_
    exact s2.trans m2.symm
  · rw [row_fq F (P := 2) rfl, row_fq G (P := 108) rfl]
    exact h5 j hj
  · rw [row_fq F (P := 4) rfl, row_fq G (P := 94) rfl]
    exact hS.1 a ha
  · rw [row_fq F (P := 5) rfl, row_fq G (P := 95) rfl]
    exact hS.2 a b ha hb' hab
  · obtain ⟨a, b, c, e, f⟩ := hp p hp'
    have l := hl.1 p hp'
    have A := eA p hp'
    refine ⟨?_, ?_, ?_, ?_, ?_⟩
    · rw [row_fq F (P := 8) rfl, row_fq G (P := 96) rfl]
      exact a
    · rw [s3, m3]
      unfold cnS
      rw [← A, ← b, ← e, ← hS.1 (σ.1 11 p).toInt.toNat (by omega)]
    · rw [row_fq F (P := 10) rfl, row_fq G (P := 98) rfl]
      exact c
    · rw [row_fq F (P := 11) rfl, row_fq G (P := 99) rfl]
      exact e
    · rw [s4, m4]
      unfold stS
      rw [if_pos hp', if_pos hp', ← A]
      by_cases z : awC σ (fogB (σ.1 2 0) (σ.1 1 0)) p = true
      · rw [if_pos z, if_pos z]
        show (σ.1 11 p).toInt + 1 = (σ'.1 99 p + 1).toInt
        rw [← e, add1 (by omega)]
      · rw [if_neg z, if_neg z]
        show (σ.1 8 p).toInt + 1 = (σ'.1 96 p + 1).toInt
        rw [← a, add1 (by omega)]
  · rw [row_fq F (P := 14) rfl, row_fq F (P := 15) rfl, row_fq F (P := 16) rfl, row_fq F (P := 17) rfl, row_fq F (P := 18) rfl, row_fq F (P := 19) rfl, row_fq F (P := 20) rfl, row_fq G (P := 101) rfl, row_fq G (P := 102) rfl, row_fq G (P := 103) rfl, row_fq G (P := 104) rfl, row_fq G (P := 105) rfl, row_fq G (P := 106) rfl, row_fq G (P := 107) rfl]
    exact hd d hd'
  · rw [row_fq F (P := 8) rfl, row_fq F (P := 11) rfl]
    exact hl.1 p hp'
  · rw [row_fq F (P := 14) rfl, row_fq F (P := 15) rfl, row_fq F (P := 17) rfl]
    exact hl.2 d hd'
theorem rds_eq {c c' : cxt} (h : c.as c') (hP : N ≤ 10) (hdb : ∀ d, d < c.D → nt c.db d < N) : ∀ (s : Nat) (a b a' b' : P3), agr c.D a a' → rdsC c s a b → rdsM c' N s a' b' → agr c.D b b'
  | 0, a, b, a', b', g, hc, hm => by
    have hc : a = b := hc
    have hm : a' = b' := hm
    rw [← hc, ← hm]
    exact g
  | s + 1, a, b, a', b', g, hc, hm => by
    obtain ⟨m, k, hc1, hc2⟩ := hc
    obtain ⟨m', k', hm1, hm2⟩ := hm
    exact rd_eq h hP hdb k k' m b m' b' (rds_eq h hP hdb s a m a' m' g hc1 hm1) hc2 hm2
theorem bs_eq {σ σ' : pm_S} (h : RX D N S σ.1 σ'.1) {d : Nat} (hd : d < D) : bsC σ d = bsM σ' d := by
  obtain ⟨hb, _, hS, hp, hdd, hl⟩ := h
  obtain ⟨a, b, _, c, _⟩ := hdd d hd
  obtain ⟨l1, l2, _⟩ := hl.2 d hd
  have p1 := (hp _ l1).2.2.2.2
  have p2 := (hp _ l2).2.2.2.2
  have ea : nt (σ'.1 101) d = nt (σ.1 14) d := by
    show (σ'.1 101 d).toInt.toNat = (σ.1 14 d).toInt.toNat
    rw [a]
  have eb : nt (σ'.1 102) d = nt (σ.1 15) d := by
    show (σ'.1 102 d).toInt.toNat = (σ.1 15 d).toInt.toNat
    rw [b]
  show (decide ((σ.1 12 (nt (σ.1 14) d)).toInt = (σ.1 17 d).toInt) && decide ((σ.1 12 (nt (σ.1 15) d)).toInt = (σ.1 17 d).toInt)) = (decide ((σ'.1 100 (nt (σ'.1 101) d)).toInt = (σ'.1 104 d).toInt + 1) && decide ((σ'.1 100 (nt (σ'.1 102) d)).toInt = (σ'.1 104 d).toInt + 1))
  rw [ea, eb, ← c, ← p1, ← p2]
  have k : ∀ x y : Int, decide (x = y) = decide (x + 1 = y + 1) := fun x y => decide_eq_decide.mpr ⟨fun z => by omega, fun z => by omega⟩
  rw [← k, ← k]
theorem rx_2 {σ τ σ' υ : pm_S} {b b' : P3} (h : RX D N S σ.1 σ'.1) (hs : caP σ τ D S b) (hm : caMP σ' υ D N S b') : RX D N S τ.1 υ.1 ∧ b.2.2.2 = b'.2.2.2 := by
  have h0 := h
  obtain ⟨hb, ⟨h1, h2, h3, h4, h5⟩, hS, hp, hd, hl⟩ := h
  obtain ⟨F, ⟨r1, r2, r3⟩, sc⟩ := hs
  obtain ⟨G, ⟨q1, q2, q3, _⟩, mc⟩ := hm
  have as : (cC σ D).as (cM σ' D) := ⟨fun d hd' => ⟨bs_eq h0 hd', (hd d hd').2.2.2.1, (hd d hd').1, (hd d hd').2.1⟩, h2, rfl⟩
  have ag0 : agr D (tC σ) (tM σ') := ⟨fun d hd' => ⟨(hd d hd').2.2.1, (hd d hd').2.2.2.2.2.1, (hd d hd').2.2.2.2.2.2⟩, rfl⟩
  have e2 : sI σ 2 2 = sI σ' 108 2 := congrArg Int32.toInt (h5 2 (by decide))
  have ag : agr D b b' := by
    rcases sc with ⟨x, y⟩ | ⟨x, y⟩
    · rcases mc with ⟨z, w⟩ | ⟨z, w⟩
      · exact rds_eq (c := cC σ D) (c' := cM σ' D) as hb.2.1 (fun d hd' => (hl.2 d hd').1) S (tC σ) b (tM σ') b' ag0 y w
      · exfalso
        omega
    · rcases mc with ⟨z, w⟩ | ⟨z, w⟩
      · exfalso
        omega
      · rw [y, w]
        exact ag0
  refine ⟨⟨hb, ⟨?_, ?_, ?_, ?_, fun j hj => ?_⟩, ⟨fun a ha => ?_, fun a b ha hb' hab => ?_⟩, fun p hp' => ?_, fun d hd' => ?_, fun p hp' => ?_, fun d hd' => ?_⟩, ag.2⟩
  · rw [row_fq F (P := 1) rfl, G 93 1 rfl]
    exact h1
  · rw [row_fq F (P := 1) rfl, G 93 19 rfl]
    exact h2
  · rw [row_fq F (P := 1) rfl, G 93 20 rfl]
    exact h3
  · rw [row_fq F (P := 1) rfl, G 93 21 rfl]
    exact h4
  · rw [row_fq F (P := 2) rfl, row_fq G (P := 108) rfl]
    exact h5 j hj
  · rw [row_fq F (P := 4) rfl, row_fq G (P := 94) rfl]
    exact hS.1 a ha
  · rw [row_fq F (P := 5) rfl, row_fq G (P := 95) rfl]
    exact hS.2 a b ha hb' hab
  · rw [row_fq F (P := 8) rfl, row_fq F (P := 9) rfl, row_fq F (P := 10) rfl, row_fq F (P := 11) rfl, row_fq F (P := 12) rfl, row_fq G (P := 96) rfl, row_fq G (P := 97) rfl, row_fq G (P := 98) rfl, row_fq G (P := 99) rfl, row_fq G (P := 100) rfl]
    exact hp p hp'
  · rw [row_fq F (P := 14) rfl, row_fq F (P := 15) rfl, r1, row_fq F (P := 17) rfl, row_fq F (P := 18) rfl, r2, r3, row_fq G (P := 101) rfl, row_fq G (P := 102) rfl, q1, row_fq G (P := 104) rfl, row_fq G (P := 105) rfl, q2, q3]
    obtain ⟨a1, a2, _, a4, a5, _⟩ := hd d hd'
    obtain ⟨g1, g2, g3⟩ := ag.1 d hd'
    exact ⟨a1, a2, g1, a4, a5, g2, g3⟩
  · rw [row_fq F (P := 8) rfl, row_fq F (P := 11) rfl]
    exact hl.1 p hp'
  · rw [row_fq F (P := 14) rfl, row_fq F (P := 15) rfl, row_fq F (P := 17) rfl]
    exact hl.2 d hd'
/-- coins of people, and of the debts: alike below the counts, c more counted -/
def agq (D N c : Nat) (t t' : P3) : Prop := (∀ p, p < N → t.1 p = t'.1 p) ∧ (∀ d, d < D → t.2.1 d = t'.2.1 d ∧ t.2.2.1 d = t'.2.2.1 d) ∧ t'.2.2.2 = t.2.2.2 + c
theorem pyF_c {c : Nat} {bs bs' : Nat → Bool} {co co' db db' cr cr' : Nat → Int32} {lw lw' : (Nat → Int32) → Nat → Bool} {su su' : Int32} {s s' : P3} (hbs : ∀ d, d < D → bs d = bs' d) (hco : ∀ d, d < D → co d = co' d) (hdb : ∀ d, d < D → db d = db' d ∧ nt db d < N) (hcr : ∀ d, d < D → cr d = cr' d ∧ nt cr d < N) (hlw : ∀ d, d < D → ∀ pu pu' : Nat → Int32, (∀ p, p < N → pu p = pu' p) → lw pu d = lw' pu' d) (hsu : su = su') (h : agq D N c s s') : ∀ d, d ≤ D → agq D N c (pyF bs co db cr lw su s d) (pyF bs' co' db' cr' lw' su' s' d)
  | 0, _ => h
  | d + 1, hd => by
    have ih := pyF_c hbs hco hdb hcr hlw hsu h d (by omega)
    have hdD : d < D := by omega
    show agq D N c (pyS bs co db cr lw su (pyF bs co db cr lw su s d) d) (pyS bs' co' db' cr' lw' su' (pyF bs' co' db' cr' lw' su' s' d) d)
    generalize pyF bs co db cr lw su s d = t at ih ⊢
    generalize pyF bs' co' db' cr' lw' su' s' d = t' at ih ⊢
    obtain ⟨i1, i2, i3⟩ := ih
    have eC : pyC bs co db lw t d = pyC bs' co' db' lw' t' d := by
      unfold pyC
      rw [(i2 d hdD).2, hbs d hdD, hco d hdD, ← (hdb d hdD).1, i1 _ (hdb d hdD).2, hlw d hdD t.1 t'.1 i1]
    unfold pyS
    rw [eC]
    by_cases z : pyC bs' co' db' lw' t' d = true
    · rw [if_pos z, if_pos z]
      have ed := hdb d hdD
      have ec := hcr d hdD
      have u1 : ∀ p, p < N → rup t.1 (db d).toInt.toNat (t.1 (db d).toInt.toNat - co d) p = rup t'.1 (db' d).toInt.toNat (t'.1 (db' d).toInt.toNat - co' d) p := fun p hp => by
        rw [← ed.1, ← hco d hdD, ← i1 _ ed.2]
        exact rup_c i1 rfl hp
      refine ⟨fun p hp => ?_, fun e he => ⟨rup_c (fun q hq => (i2 q hq).1) hsu he, rup_c (fun q hq => (i2 q hq).2) rfl he⟩, ?_⟩
      · show rup (rup t.1 (db d).toInt.toNat (t.1 (db d).toInt.toNat - co d)) (cr d).toInt.toNat (rup t.1 (db d).toInt.toNat (t.1 (db d).toInt.toNat - co d) (cr d).toInt.toNat + co d) p = rup (rup t'.1 (db' d).toInt.toNat (t'.1 (db' d).toInt.toNat - co' d)) (cr' d).toInt.toNat (rup t'.1 (db' d).toInt.toNat (t'.1 (db' d).toInt.toNat - co' d) (cr' d).toInt.toNat + co' d) p
        rw [← ec.1]
        exact rup_c u1 (by rw [u1 _ ec.2, hco d hdD]) hp
      · show t'.2.2.2 + 1 = t.2.2.2 + 1 + c
        omega
    · rw [if_neg z, if_neg z]
      exact ⟨i1, i2, i3⟩
theorem rx_3 {σ τ σ' υ : pm_S} {n : Nat} (h : RX D N S σ.1 σ'.1) (eN : sI σ 7 0 = (N : Int)) (eN' : sI σ' 93 5 = (N : Int)) (hs : paP σ τ D ls) (hm : paMP σ' υ D ls n) : RX D N S τ.1 υ.1 ∧ (pyL σ' ls n D).2.2.2 = (pyK σ ls D).2.2.2 + n := by
  have h0 := h
  obtain ⟨hb, ⟨h1, h2, h3, h4, h5⟩, hS, hp, hd, hl⟩ := h
  obtain ⟨F, r1, r2, r3⟩ := hs
  obtain ⟨G, q1, q2, q3, _⟩ := hm
  have ag : agq D N n (pyK σ ls D) (pyL σ' ls n D) := by
    refine pyF_c (fun d hd' => bs_eq h0 hd') (fun d hd' => (hd d hd').2.2.1) (fun d hd' => ⟨(hd d hd').1, (hl.2 d hd').1⟩) (fun d hd' => ⟨(hd d hd').2.1, (hl.2 d hd').2.1⟩) (fun d hd' pu pu' e => ?_) h2 ⟨fun p hp' => (hp p hp').2.1, fun d hd' => ⟨(hd d hd').2.2.2.2.2.1, (hd d hd').2.2.2.2.2.2⟩, (Nat.zero_add n).symm⟩ D (Nat.le_refl _)
    obtain ⟨a1, a2, a3, a4, a5, _⟩ := hd d hd'
    obtain ⟨l1, _⟩ := hl.2 d hd'
    have en : nhC σ d = nhM σ' d := by
      show Int32.ofInt ((cntP (hrc σ (sI σ 17 d)) (sI σ 7 0).toNat : Nat) : Int) = Int32.ofInt ((cntP (hrm σ' (sI σ' 104 d)) (sI σ' 93 5).toNat : Nat) : Int)
      rw [eN, eN', Int.toNat_natCast]
      refine congrArg (fun k : Nat => Int32.ofInt (k : Int)) (cntP_e N (fun p hp' => ?_))
      show decide ((σ.1 12 p).toInt = (σ.1 17 d).toInt) = decide ((σ'.1 100 p).toInt = (σ'.1 104 d).toInt + 1)
      rw [← a4, ← (hp p hp').2.2.2.2]
      exact decide_eq_decide.mpr ⟨fun z => by omega, fun z => by omega⟩
    have e4 : (σ'.1 101 d).toInt.toNat = (σ.1 14 d).toInt.toNat := by rw [a1]
    have ef : fcG (σ.1 16) (σ.1 18) (σ.1 14) (σ.1 17) (σ.1 15) (σ.1 10) (nhC σ) (σ.1 1 1) pu d = fcG (σ'.1 103) (σ'.1 105) (σ'.1 101) (σ'.1 104) (σ'.1 102) (σ'.1 98) (nhM σ') (σ'.1 93 19) pu' d := funext fun j => by
      match j with
      | 0 => exact a3
      | 1 =>
        show σ.1 1 1 - σ.1 18 d = σ'.1 93 19 - σ'.1 105 d
        rw [h2, a5]
      | 2 =>
        show pu (σ.1 14 d).toInt.toNat = pu' (σ'.1 101 d).toInt.toNat
        rw [e4]
        exact e _ l1
      | 3 => exact a4
      | 4 =>
        show σ.1 10 (σ.1 14 d).toInt.toNat = σ'.1 98 (σ'.1 101 d).toInt.toNat
        rw [e4]
        exact (hp _ l1).2.2.1
      | 5 => exact en
      | 6 => exact a1
      | 7 => exact a2
      | j + 8 => exact h2
    show LW (fcG (σ.1 16) (σ.1 18) (σ.1 14) (σ.1 17) (σ.1 15) (σ.1 10) (nhC σ) (σ.1 1 1) pu d) ls = LW (fcG (σ'.1 103) (σ'.1 105) (σ'.1 101) (σ'.1 104) (σ'.1 102) (σ'.1 98) (nhM σ') (σ'.1 93 19) pu' d) ls
    rw [ef]
  obtain ⟨g1, g2, g3⟩ := ag
  refine ⟨⟨hb, ⟨?_, ?_, ?_, ?_, fun j hj => ?_⟩, ⟨fun a ha => ?_, fun a b ha hb' hab => ?_⟩, fun p hp' => ?_, fun d hd' => ?_, fun p hp' => ?_, fun d hd' => ?_⟩, g3⟩
  · rw [row_fq F (P := 1) rfl, G 93 1 rfl]
    exact h1
  · rw [row_fq F (P := 1) rfl, G 93 19 rfl]
    exact h2
  · rw [row_fq F (P := 1) rfl, G 93 20 rfl]
    exact h3
  · rw [row_fq F (P := 1) rfl, G 93 21 rfl]
    exact h4
  · rw [row_fq F (P := 2) rfl, row_fq G (P := 108) rfl]
    exact h5 j hj
  · rw [row_fq F (P := 4) rfl, row_fq G (P := 94) rfl]
    exact hS.1 a ha
  · rw [row_fq F (P := 5) rfl, row_fq G (P := 95) rfl]
    exact hS.2 a b ha hb' hab
  · rw [row_fq F (P := 8) rfl, r1, row_fq F (P := 10) rfl, row_fq F (P := 11) rfl, row_fq F (P := 12) rfl, row_fq G (P := 96) rfl, q1, row_fq G (P := 98) rfl, row_fq G (P := 99) rfl, row_fq G (P := 100) rfl]
    obtain ⟨a1, _, a3, a4, a5⟩ := hp p hp'
    exact ⟨a1, g1 p hp', a3, a4, a5⟩
  · rw [row_fq F (P := 14) rfl, row_fq F (P := 15) rfl, row_fq F (P := 16) rfl, row_fq F (P := 17) rfl, row_fq F (P := 18) rfl, r2, r3, row_fq G (P := 101) rfl, row_fq G (P := 102) rfl, row_fq G (P := 103) rfl, row_fq G (P := 104) rfl, row_fq G (P := 105) rfl, q2, q3]
    obtain ⟨a1, a2, a3, a4, a5, _⟩ := hd d hd'
    exact ⟨a1, a2, a3, a4, a5, (g2 d hd').1, (g2 d hd').2⟩
  · rw [row_fq F (P := 8) rfl, row_fq F (P := 11) rfl]
    exact hl.1 p hp'
  · rw [row_fq F (P := 14) rfl, row_fq F (P := 15) rfl, row_fq F (P := 17) rfl]
    exact hl.2 d hd'
theorem rx_4 {σ τ σ' υ : pm_S} (h : RX D N S σ.1 σ'.1) (hs : inP σ τ D) (hm : inMP σ' υ D N) : RX D N S τ.1 υ.1 := by
  obtain ⟨hb, ⟨h1, h2, h3, h4, h5⟩, hS, hp, hd, hl⟩ := h
  obtain ⟨F, s1, s2, s3⟩ := hs
  obtain ⟨G, m1, m2, m3⟩ := hm
  have e2 : sI σ 1 1 = sI σ' 93 19 := congrArg Int32.toInt h2
  have goal : ∀ p, p < N → τ.1 11 p = σ.1 8 p := fun p hp' => s3 p (by have := hb.2.1; omega)
  refine ⟨hb, ⟨?_, ?_, ?_, ?_, fun j hj => ?_⟩, ⟨fun a ha => ?_, fun a b ha hb' hab => ?_⟩, fun p hp' => ?_, fun d hd' => ?_, fun p hp' => ?_, fun d hd' => ?_⟩
  · rw [F 1 0 rfl, G 93 1 rfl]
    exact h1
  · refine Int32.toInt_inj.mp ?_
    show sI τ 1 1 = sI υ 93 19
    rw [s1, m1, e2]
  · rw [F 1 2 rfl, G 93 20 rfl]
    exact h3
  · rw [F 1 3 rfl, G 93 21 rfl]
    exact h4
  · rw [row_fq F (P := 2) rfl, row_fq G (P := 108) rfl]
    exact h5 j hj
  · rw [row_fq F (P := 4) rfl, row_fq G (P := 94) rfl]
    exact hS.1 a ha
  · rw [row_fq F (P := 5) rfl, row_fq G (P := 95) rfl]
    exact hS.2 a b ha hb' hab
  · rw [goal p hp', m3 p hp', row_fq F (P := 8) rfl, row_fq F (P := 9) rfl, row_fq F (P := 10) rfl, row_fq F (P := 12) rfl, row_fq G (P := 96) rfl, row_fq G (P := 97) rfl, row_fq G (P := 98) rfl, row_fq G (P := 100) rfl]
    obtain ⟨a1, a2, a3, _, a5⟩ := hp p hp'
    exact ⟨a1, a2, a3, a1, a5⟩
  · obtain ⟨a1, a2, a3, a4, a5, a6, a7⟩ := hd d hd'
    refine ⟨?_, ?_, ?_, ?_, ?_, ?_, ?_⟩
    · rw [row_fq F (P := 14) rfl, row_fq G (P := 101) rfl]
      exact a1
    · rw [row_fq F (P := 15) rfl, row_fq G (P := 102) rfl]
      exact a2
    · rw [s2, m2]
      show (if d < D then _ else _) = (if d < D then _ else _)
      rw [if_pos hd', if_pos hd']
      unfold inC
      rw [a7, a5, a3, e2, h5 3 (by decide), h5 1 (by decide)]
    · rw [row_fq F (P := 17) rfl, row_fq G (P := 104) rfl]
      exact a4
    · rw [row_fq F (P := 18) rfl, row_fq G (P := 105) rfl]
      exact a5
    · rw [row_fq F (P := 19) rfl, row_fq G (P := 106) rfl]
      exact a6
    · rw [row_fq F (P := 20) rfl, row_fq G (P := 107) rfl]
      exact a7
  · have l := hl.1 p hp'
    rw [goal p hp', row_fq F (P := 8) rfl]
    exact ⟨l.1, l.2.1, l.1, l.2.1⟩
  · rw [row_fq F (P := 14) rfl, row_fq F (P := 15) rfl, row_fq F (P := 17) rfl]
    exact hl.2 d hd'
end SUNJ
