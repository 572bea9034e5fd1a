/-! a Sunday: what is paid, the model -/
/-- both stand on its spot -/
abbrev bsM (σ : pm_S) : Nat → Bool := fun d => decide (sI σ 100 (sI σ 101 d).toNat = sI σ 104 d + 1) && decide (sI σ 100 (sI σ 102 d).toNat = sI σ 104 d + 1)
set_option maxRecDepth 20000 in
theorem x_aba {σ : pm_S} (d : Nat) (s : Int) (hd : d < 30) (hs : 0 ≤ s ∧ s ≤ 9) (hB : an_GB pm_B σ) : Sp 203 2 [.ref 93, .int (Int32.ofInt (d : Int)), .int (Int32.ofInt s)] σ (fun r τ => r = some (b01 (decide (sI σ 104 d = s) && (decide (sI σ 100 (sI σ 101 d).toNat = s + 1) && decide (sI σ 100 (sI σ 102 d).toNat = s + 1)))) ∧ an_GB pm_B τ ∧ FQ [] σ τ) := by
  have ed : ((d : Int)).toNat = d := by omega
  have b104 : 0 ≤ sI σ 104 d ∧ sI σ 104 d ≤ 9 := hB 104 d (show d < 30 from hd)
  have b101 : 0 ≤ sI σ 101 d ∧ sI σ 101 d ≤ 9 := hB 101 d (show d < 30 from hd)
  have b102 : 0 ≤ sI σ 102 d ∧ sI σ 102 d ≤ 9 := hB 102 d (show d < 30 from hd)
  have b100 : ∀ p : Nat, p < 10 → 0 ≤ sI σ 100 p ∧ sI σ 100 p ≤ 10 := fun p hp => hB 100 p (show p < 10 from hp)
  have c1 := b100 (sI σ 101 d).toNat (by omega)
  have c2 := b100 (sI σ 102 d).toNat (by omega)
  refine Sp.at rfl rfl ?_
  refine qf_a0 d s (sI σ 104 d) hB ⟨by omega, hs, b104, trivial⟩ ⟨by rw [ed], trivial⟩ ?_
  intro τ1 y1 hB1 F1 _ _ _ _
  have no : ∀ τ : pm_S, an_GB pm_B τ → FQ [] σ τ → (decide (sI σ 104 d = s) && (decide (sI σ 100 (sI σ 101 d).toNat = s + 1) && decide (sI σ 100 (sI σ 102 d).toNat = s + 1))) = false → Ok 203 2 30 [.ref 93, .int (Int32.ofInt (d : Int)), .int (Int32.ofInt s)] [] τ (fun r τ => r = some (b01 (decide (sI σ 104 d = s) && (decide (sI σ 100 (sI σ 101 d).toNat = s + 1) && decide (sI σ 100 (sI σ 102 d).toNat = s + 1)))) ∧ an_GB pm_B τ ∧ FQ [] σ τ) := fun τ hB' F' e => by
    refine qf_a30 d s hB' ⟨by omega, hs, trivial⟩ ?_
    intro τ2 y2 hB2 F2 _ _ _ _
    rw [e]
    exact ⟨rfl, hB2, FQ.tr F' F2⟩
  refine Ok.ic rfl rfl (by omega) (by omega) (by omega) (by omega) (fun g => ?_) (fun g => ?_)
  · have g : sI σ 104 d ≠ s := g
    refine no τ1 hB1 F1 ?_
    rw [decide_eq_false g, Bool.false_and]
  have g : sI σ 104 d = s := g
  refine qf_a6 d s (sI σ 101 d) (sI σ 100 (sI σ 101 d).toNat) hB1 ⟨by omega, hs, b101, c1, trivial⟩ ⟨by rw [ed]; exact congrArg Int32.toInt (F1 101 d rfl), congrArg Int32.toInt (F1 100 _ rfl), trivial⟩ ?_
  intro τ2 y2 hB2 F2 _ _ _ _
  have G2 : FQ [] σ τ2 := FQ.tr F1 F2
  refine Ok.ic rfl rfl (by omega) (by omega) (by omega) (by omega) (fun w => ?_) (fun w => ?_)
  · have w : sI σ 100 (sI σ 101 d).toNat ≠ s + 1 := w
    refine no τ2 hB2 G2 ?_
    rw [decide_eq_false w, Bool.false_and, Bool.and_false]
  have w : sI σ 100 (sI σ 101 d).toNat = s + 1 := w
  refine qf_a17 d s (sI σ 102 d) (sI σ 100 (sI σ 102 d).toNat) hB2 ⟨by omega, hs, b102, c2, trivial⟩ ⟨by rw [ed]; exact congrArg Int32.toInt (G2 102 d rfl), congrArg Int32.toInt (G2 100 _ rfl), trivial⟩ ?_
  intro τ3 y3 hB3 F3 _ _ _ _
  have G3 : FQ [] σ τ3 := FQ.tr G2 F3
  refine Ok.ic rfl rfl (by omega) (by omega) (by omega) (by omega) (fun v => ?_) (fun v => ?_)
  · have v : sI σ 100 (sI σ 102 d).toNat ≠ s + 1 := v
    refine no τ3 hB3 G3 ?_
    rw [decide_eq_false v, Bool.and_false, Bool.and_false]
  have v : sI σ 100 (sI σ 102 d).toNat = s + 1 := v
  refine qf_a28 d s hB3 ⟨by omega, hs, trivial⟩ ?_
  intro τ4 y4 hB4 F4 _ _ _ _
  rw [decide_eq_true g, decide_eq_true w, decide_eq_true v]
  exact ⟨rfl, hB4, FQ.tr G3 F4⟩
set_option maxRecDepth 20000 in
theorem x_isp {σ : pm_S} (d : Nat) (by_ n : Int) (hd : d < 30) (hb : 1 ≤ by_ ∧ by_ ≤ 2) (hn : 0 ≤ n ∧ n ≤ 1000) (en : cI σ 53 = n) (hB : an_GB pm_B σ) : Sp 206 2 [.ref 93, .int (Int32.ofInt (d : Int)), .int (Int32.ofInt by_)] σ (fun r τ => r = none ∧ an_GB pm_B τ ∧ FQ [(93, 53), (106, 9999), (107, 9999)] σ τ ∧ τ.1 106 = rup (σ.1 106) d (σ.1 93 19) ∧ τ.1 107 = rup (σ.1 107) d (Int32.ofInt by_) ∧ cI τ 53 = n + 1) := by
  have ed : ((d : Int)).toNat = d := by omega
  refine Sp.at rfl rfl ?_
  refine qf_i0 d by_ hB ⟨by omega, hb, trivial⟩ ?_
  intro τ1 y1 hB1 F1 _ _ _ _
  refine Ok.ast (n := 30) rfl rfl rfl (by decide) (by omega) (by omega) ?_
  rw [ed]
  have hB2 : an_GB pm_B (put τ1 107 d (Int32.ofInt by_)) := put_GB hB1 (ai_rng _)
  have P2 : FQ [(107, 9999)] τ1 (put τ1 107 d (Int32.ofInt by_)) := FQ.put rfl
  have R2 : (put τ1 107 d (Int32.ofInt by_)).1 107 = rup (σ.1 107) d (Int32.ofInt by_) := by rw [row_put, row_fq F1 rfl]
  generalize put τ1 107 d (Int32.ofInt by_) = τ2 at hB2 P2 R2 ⊢
  have G2 : FQ [(107, 9999)] σ τ2 := FQ.tr (FQ.up (G := []) rfl F1) P2
  refine qf_i5 d by_ (sI σ 93 19) hB2 ⟨by omega, hb, ai_rng _, trivial⟩ ⟨congrArg Int32.toInt (G2 93 19 rfl), trivial⟩ ?_
  intro τ3 y3 hB3 F3 _ _ _ _
  refine Ok.ast (n := 30) rfl rfl rfl (by decide) (by omega) (by omega) ?_
  rw [ed, oI]
  have hB4 : an_GB pm_B (put τ3 106 d (σ.1 93 19)) := put_GB hB3 (ai_rng _)
  have G3 : FQ [(107, 9999)] σ τ3 := FQ.tr G2 (FQ.up (G := []) rfl F3)
  have P4 : FQ [(106, 9999)] τ3 (put τ3 106 d (σ.1 93 19)) := FQ.put rfl
  have R4 : (put τ3 106 d (σ.1 93 19)).1 106 = rup (σ.1 106) d (σ.1 93 19) := by rw [row_put, row_fq G3 rfl]
  generalize put τ3 106 d (σ.1 93 19) = τ4 at hB4 P4 R4 ⊢
  have G4 : FQ [(106, 9999), (107, 9999)] σ τ4 := FQ.tr (FQ.up (G := [(107, 9999)]) rfl G3) (FQ.up (G := [(106, 9999)]) rfl P4)
  refine qf_i11 d by_ n hB4 ⟨by omega, hb, hn, trivial⟩ ⟨(congrArg Int32.toInt (G4 93 53 rfl)).trans en, trivial⟩ ?_
  intro τ5 y5 hB5 F5 _ _ _ c5
  refine ⟨rfl, hB5, FQ.tr (FQ.up (G := [(106, 9999), (107, 9999)]) rfl G4) (FQ.up (G := [(93, 53)]) rfl F5), (row_fq F5 rfl).trans R4, ?_, c5.1⟩
  rw [row_fq F5 rfl, row_fq P4 rfl, row_fq F3 rfl, R2]
/-- how many stand on a debt's spot -/
abbrev nhM (σ : pm_S) : Nat → Int32 := fun d => Int32.ofInt ((cntP (hrm σ (sI σ 104 d)) (sI σ 93 5).toNat : Nat) : Int)
abbrev lwM (σ : pm_S) (ls : List (List Int)) : (Nat → Int32) → Nat → Bool := fun pu d => LW (fcG (σ.1 103) (σ.1 105) (σ.1 101) (σ.1 104) (σ.1 102) (σ.1 98) (nhM σ) (σ.1 93 19) pu d) ls
theorem fcm_G (σ : pm_S) (d : Nat) : fcm σ d = fcG (σ.1 103) (σ.1 105) (σ.1 101) (σ.1 104) (σ.1 102) (σ.1 98) (nhM σ) (σ.1 93 19) (σ.1 97) d := by
  funext j
  match j with
  | 0 => rfl
  | 1 => rfl
  | 2 => rfl
  | 3 => rfl
  | 4 => rfl
  | 5 => rfl
  | 6 => rfl
  | 7 => rfl
  | j + 8 => rfl
abbrev FPm : List (Nat × Nat) := [(93, 53), (97, 9999), (106, 9999), (107, 9999), (122, 9999), (123, 9999)]
/-- one debt: s: coins, paid on, how, how many -/
abbrev pyM (σ : pm_S) (ls : List (List Int)) (s : P3) (d : Nat) : P3 := pyS (bsM σ) (σ.1 103) (σ.1 101) (σ.1 102) (lwM σ ls) (σ.1 93 19) s d
set_option maxRecDepth 20000 in
theorem x_pym {σ : pm_S} {ls : List (List Int)} (hw : ∀ l ∈ ls, lnW l) (d n : Nat) (hd : d < 30) (hn : n ≤ 900) (hL : mLaw σ ls) (en : cI σ 53 = (n : Int)) (hB : an_GB pm_B σ) : Sp 209 12 [.ref 93, .int (Int32.ofInt (d : Int))] σ (fun r τ => r = none ∧ an_GB pm_B τ ∧ FQ FPm σ τ ∧ τ.1 97 = (pyM σ ls (σ.1 97, σ.1 106, σ.1 107, n) d).1 ∧ τ.1 106 = (pyM σ ls (σ.1 97, σ.1 106, σ.1 107, n) d).2.1 ∧ τ.1 107 = (pyM σ ls (σ.1 97, σ.1 106, σ.1 107, n) d).2.2.1 ∧ cI τ 53 = (((pyM σ ls (σ.1 97, σ.1 106, σ.1 107, n) d).2.2.2 : Nat) : Int)) := by
  have ed : ((d : Int)).toNat = d := by omega
  have b104 : 0 ≤ sI σ 104 d ∧ sI σ 104 d ≤ 9 := hB 104 d (show d < 30 from hd)
  have b101 : 0 ≤ sI σ 101 d ∧ sI σ 101 d ≤ 9 := hB 101 d (show d < 30 from hd)
  have b102 : 0 ≤ sI σ 102 d ∧ sI σ 102 d ≤ 9 := hB 102 d (show d < 30 from hd)
  -- not paid
  have no : pyC (bsM σ) (σ.1 103) (σ.1 101) (lwM σ ls) (σ.1 97, σ.1 106, σ.1 107, n) d = false → ∀ τ : pm_S, an_GB pm_B τ → FQ [(122, 9999), (123, 9999)] σ τ → (none : Option Value) = none ∧ an_GB pm_B τ ∧ FQ FPm σ τ ∧ τ.1 97 = (pyM σ ls (σ.1 97, σ.1 106, σ.1 107, n) d).1 ∧ τ.1 106 = (pyM σ ls (σ.1 97, σ.1 106, σ.1 107, n) d).2.1 ∧ τ.1 107 = (pyM σ ls (σ.1 97, σ.1 106, σ.1 107, n) d).2.2.1 ∧ cI τ 53 = (((pyM σ ls (σ.1 97, σ.1 106, σ.1 107, n) d).2.2.2 : Nat) : Int) := fun hc τ hB' F => by
    have e : pyM σ ls (σ.1 97, σ.1 106, σ.1 107, n) d = (σ.1 97, σ.1 106, σ.1 107, n) := if_neg (by rw [hc]; decide)
    rw [e]
    exact ⟨rfl, hB', FQ.up (G := [(122, 9999), (123, 9999)]) rfl F, row_fq F rfl, row_fq F rfl, row_fq F rfl, (congrArg Int32.toInt (F 93 53 rfl)).trans en⟩
  refine Sp.at rfl rfl ?_
  refine qf_p0 d (sI σ 107 d) (sI σ 104 d) hB ⟨by omega, ai_rng _, b104, trivial⟩ ⟨by rw [ed], by rw [ed], trivial⟩ ?_ ?_
  · intro τ1 y1 hB1 F1 _ rl _ _
    refine no ?_ τ1 hB1 (FQ.up (G := []) rfl F1)
    have ne : ¬ σ.1 107 d = 0 := fun z => rl.1 (by show (σ.1 107 d).toInt = 0; rw [z]; rfl)
    unfold pyC
    rw [decide_eq_false (p := σ.1 107 d = 0) ne, Bool.false_and]
  intro τ1 y1 hB1 F1 f _ _ _
  have f2 := f.2.1
  have e107 : σ.1 107 d = 0 := Int32.toInt_inj.mp (show sI σ 107 d = (0 : Int32).toInt by show sI σ 107 d = 0; omega)
  refine Ok.cv rfl rfl rfl rfl rfl rfl rfl ?_
  refine (x_aba d (sI σ 104 d) hd b104 hB1).use (by decide) (fun r τ2 q => ?_)
  obtain ⟨rfl, hB2, F2⟩ := q
  have G2 : FQ [] σ τ2 := FQ.tr F1 F2
  have eb : (decide (sI τ1 104 d = sI σ 104 d) && (decide (sI τ1 100 (sI τ1 101 d).toNat = sI σ 104 d + 1) && decide (sI τ1 100 (sI τ1 102 d).toNat = sI σ 104 d + 1))) = bsM σ d := by
    rw [show sI τ1 104 d = sI σ 104 d from congrArg Int32.toInt (F1 104 d rfl), show sI τ1 101 d = sI σ 101 d from congrArg Int32.toInt (F1 101 d rfl), show sI τ1 102 d = sI σ 102 d from congrArg Int32.toInt (F1 102 d rfl), show sI τ1 100 (sI σ 101 d).toNat = sI σ 100 (sI σ 101 d).toNat from congrArg Int32.toInt (F1 100 _ rfl), show sI τ1 100 (sI σ 102 d).toNat = sI σ 100 (sI σ 102 d).toNat from congrArg Int32.toInt (F1 100 _ rfl), decide_eq_true (p := sI σ 104 d = sI σ 104 d) rfl, Bool.true_and]
  rw [eb]
  have w01 : 0 ≤ (if bsM σ d = true then (1 : Int) else 0) ∧ (if bsM σ d = true then (1 : Int) else 0) ≤ 1 := by split <;> decide
  refine qf_p11 d (if bsM σ d = true then 1 else 0) hB2 ⟨by omega, w01, trivial⟩ ?_ ?_
  · intro τ3 y3 hB3 F3 f _ _ _
    have f2 := f.2.1
    refine no ?_ τ3 hB3 (FQ.up (G := []) rfl (FQ.tr G2 F3))
    have e : bsM σ d = false := by
      cases h : bsM σ d with
      | false => rfl
      | true =>
        rw [h, if_pos rfl] at f2
        exfalso
        omega
    unfold pyC
    rw [e, Bool.false_and, Bool.and_false]
  intro τ3 y3 hB3 F3 f3 _ _ _
  have f4 := f3.2.1
  have eB : bsM σ d = true := by
    cases h : bsM σ d with
    | true => rfl
    | false =>
      rw [h, if_neg (by decide)] at f4
      exfalso
      omega
  have G3 : FQ [] σ τ3 := FQ.tr G2 F3
  refine Ok.cv rfl rfl rfl rfl rfl rfl rfl ?_
  have L3 : mLaw τ3 ls := ⟨(congrArg Int32.toInt (G3 93 36 rfl)).trans hL.1, mt_LN.fr (fun i => ⟨G3 116 i rfl, G3 117 i rfl, G3 118 i rfl⟩) ls 0 0 hL.2.1, hL.2.2.1, fun j hj => ⟨(congrArg Int32.toInt (G3 119 j rfl)).trans (hL.2.2.2 j hj).1, (congrArg Int32.toInt (G3 120 j rfl)).trans (hL.2.2.2 j hj).2⟩⟩
  refine (x_llm (ls := ls) hw d (by omega) hB3 L3).use (by decide) (fun r τ4 q => ?_)
  obtain ⟨rfl, hB4, F4⟩ := q
  have eS : ∀ P, P ≠ 9999 → τ3.1 P = σ.1 P := fun P _ => funext fun j => G3 P j rfl
  have el : LW (fcm τ3 d) ls = lwM σ ls (σ.1 97) d := by
    have e : fcm τ3 d = fcG (σ.1 103) (σ.1 105) (σ.1 101) (σ.1 104) (σ.1 102) (σ.1 98) (nhM σ) (σ.1 93 19) (σ.1 97) d := by
      have e1 : τ3.1 = σ.1 := funext fun P => funext fun j => G3 P j rfl
      rw [fcm_G]
      have en2 : nhM τ3 = nhM σ := by
        funext i
        have hE : hrm τ3 (sI σ 104 i) = hrm σ (sI σ 104 i) := funext fun p => by
          show decide (sI τ3 100 p = _) = decide (sI σ 100 p = _)
          rw [show sI τ3 100 p = sI σ 100 p from congrArg Int32.toInt (G3 100 p rfl)]
        show Int32.ofInt ((cntP (hrm τ3 (sI τ3 104 i)) (sI τ3 93 5).toNat : Nat) : Int) = _
        rw [show sI τ3 104 i = sI σ 104 i from congrArg Int32.toInt (G3 104 i rfl), show sI τ3 93 5 = sI σ 93 5 from congrArg Int32.toInt (G3 93 5 rfl), hE]
      rw [en2, e1]
    rw [e]
  rw [el]
  have G4 : FQ [(122, 9999), (123, 9999)] σ τ4 := FQ.tr (FQ.up (G := []) rfl G3) F4
  have w02 : 0 ≤ (if lwM σ ls (σ.1 97) d = true then (1 : Int) else 0) ∧ (if lwM σ ls (σ.1 97) d = true then (1 : Int) else 0) ≤ 1 := by split <;> decide
  refine qf_p15 d (if lwM σ ls (σ.1 97) d = true then 1 else 0) (sI σ 101 d) (sI σ 97 (sI σ 101 d).toNat) (sI σ 103 d) hB4 ⟨by omega, w02, b101, ai_rng _, ai_rng _, trivial⟩ ⟨by rw [ed]; exact congrArg Int32.toInt (G4 101 d rfl), congrArg Int32.toInt (G4 97 _ rfl), by rw [ed]; exact congrArg Int32.toInt (G4 103 d rfl), trivial⟩ ?_ ?_
  · intro τ5 y5 hB5 F5 f _ _ _
    have f2 := f.2.1
    refine no ?_ τ5 hB5 (FQ.tr G4 (FQ.up (G := []) rfl F5))
    have e : lwM σ ls (σ.1 97) d = false := by
      cases h : lwM σ ls (σ.1 97) d with
      | false => rfl
      | true =>
        rw [h, if_pos rfl] at f2
        exfalso
        omega
    show (decide (σ.1 107 d = 0) && (bsM σ d && (decide ((σ.1 103 d).toInt ≤ (σ.1 97 (σ.1 101 d).toInt.toNat).toInt) && lwM σ ls (σ.1 97) d))) = false
    rw [e, Bool.and_false, Bool.and_false, Bool.and_false]
  intro τ5 y5 hB5 F5 f5 _ _ _
  have f6 := f5.2.1
  have eW : lwM σ ls (σ.1 97) d = true := by
    cases h : lwM σ ls (σ.1 97) d with
    | true => rfl
    | false =>
      rw [h, if_neg (by decide)] at f6
      exfalso
      omega
  have G5 : FQ [(122, 9999), (123, 9999)] σ τ5 := FQ.tr G4 (FQ.up (G := []) rfl F5)
  have r97 : (-2147483648) ≤ sI σ 97 (sI σ 101 d).toNat ∧ sI σ 97 (sI σ 101 d).toNat ≤ 2147483647 := ai_rng _
  have r103 : (-2147483648) ≤ sI σ 103 d ∧ sI σ 103 d ≤ 2147483647 := ai_rng _
  refine Ok.ic rfl rfl (by omega) (by omega) (by omega) (by omega) (fun g => ?_) (fun g => ?_)
  · have g : sI σ 103 d ≤ sI σ 97 (sI σ 101 d).toNat := g
    have hc : pyC (bsM σ) (σ.1 103) (σ.1 101) (lwM σ ls) (σ.1 97, σ.1 106, σ.1 107, n) d = true := by
      show (decide (σ.1 107 d = 0) && (bsM σ d && (decide ((σ.1 103 d).toInt ≤ (σ.1 97 (σ.1 101 d).toInt.toNat).toInt) && lwM σ ls (σ.1 97) d))) = true
      rw [eW, eB, decide_eq_true e107, decide_eq_true (p := (σ.1 103 d).toInt ≤ (σ.1 97 (σ.1 101 d).toInt.toNat).toInt) g]
      rfl
    have eP : pyM σ ls (σ.1 97, σ.1 106, σ.1 107, n) d = pyD (σ.1 103) (σ.1 101) (σ.1 102) (σ.1 93 19) (σ.1 97, σ.1 106, σ.1 107, n) d := if_pos hc
    rw [eP]
    refine qf_p29 d (sI σ 101 d) (sI σ 97 (sI σ 101 d).toNat) (sI σ 103 d) hB5 ⟨by omega, b101, ai_rng _, ai_rng _, trivial⟩ ⟨by rw [ed]; exact congrArg Int32.toInt (G5 101 d rfl), congrArg Int32.toInt (G5 97 _ rfl), by rw [ed]; exact congrArg Int32.toInt (G5 103 d rfl), trivial⟩ ?_
    intro τ6 y6 hB6 F6 _ _ d6 _
    have e6 : Int32.ofInt (y6 4) = σ.1 97 (σ.1 101 d).toInt.toNat - σ.1 103 d := by
      rw [← d6.1, oI, oI, oI]
      rfl
    rw [e6]
    have G6 : FQ [(122, 9999), (123, 9999)] σ τ6 := FQ.tr G5 (FQ.up (G := []) rfl F6)
    refine Ok.ast (n := 10) rfl rfl rfl (by decide) (by omega) (by omega) ?_
    have hB7 : an_GB pm_B (put τ6 97 (sI σ 101 d).toNat (σ.1 97 (σ.1 101 d).toInt.toNat - σ.1 103 d)) := put_GB hB6 (ai_rng _)
    have P7 : FQ [(97, 9999)] τ6 (put τ6 97 (sI σ 101 d).toNat (σ.1 97 (σ.1 101 d).toInt.toNat - σ.1 103 d)) := FQ.put rfl
    have R7 : (put τ6 97 (sI σ 101 d).toNat (σ.1 97 (σ.1 101 d).toInt.toNat - σ.1 103 d)).1 97 = rup (σ.1 97) (σ.1 101 d).toInt.toNat (σ.1 97 (σ.1 101 d).toInt.toNat - σ.1 103 d) := by rw [row_put, row_fq G6 rfl]
    generalize put τ6 97 (sI σ 101 d).toNat (σ.1 97 (σ.1 101 d).toInt.toNat - σ.1 103 d) = τ7 at hB7 P7 R7 ⊢
    have G7 : FQ [(97, 9999), (122, 9999), (123, 9999)] σ τ7 := FQ.tr (FQ.up (G := [(122, 9999), (123, 9999)]) rfl G6) (FQ.up (G := [(97, 9999)]) rfl P7)
    refine qf_p48 d (sI σ 102 d) (τ7.1 97 (sI σ 102 d).toNat).toInt (sI σ 103 d) hB7 ⟨by omega, b102, ai_rng _, ai_rng _, trivial⟩ ⟨by rw [ed]; exact congrArg Int32.toInt (G7 102 d rfl), rfl, by rw [ed]; exact congrArg Int32.toInt (G7 103 d rfl), trivial⟩ ?_
    intro τ8 y8 hB8 F8 _ _ d8 _
    have e8 : Int32.ofInt (y8 4) = τ7.1 97 (σ.1 102 d).toInt.toNat + σ.1 103 d := by
      rw [← d8.1, oI, oI, oI]
      rfl
    rw [e8, R7]
    refine Ok.ast (n := 10) rfl rfl rfl (by decide) (by omega) (by omega) ?_
    have hB9 : an_GB pm_B (put τ8 97 (sI σ 102 d).toNat (rup (σ.1 97) (σ.1 101 d).toInt.toNat (σ.1 97 (σ.1 101 d).toInt.toNat - σ.1 103 d) (σ.1 102 d).toInt.toNat + σ.1 103 d)) := put_GB hB8 (ai_rng _)
    have P9 : FQ [(97, 9999)] τ8 (put τ8 97 (sI σ 102 d).toNat (rup (σ.1 97) (σ.1 101 d).toInt.toNat (σ.1 97 (σ.1 101 d).toInt.toNat - σ.1 103 d) (σ.1 102 d).toInt.toNat + σ.1 103 d)) := FQ.put rfl
    have R9 : (put τ8 97 (sI σ 102 d).toNat (rup (σ.1 97) (σ.1 101 d).toInt.toNat (σ.1 97 (σ.1 101 d).toInt.toNat - σ.1 103 d) (σ.1 102 d).toInt.toNat + σ.1 103 d)).1 97 = (pyD (σ.1 103) (σ.1 101) (σ.1 102) (σ.1 93 19) (σ.1 97, σ.1 106, σ.1 107, n) d).1 := by
      rw [row_put, row_fq F8 rfl, R7]
      rfl
    generalize put τ8 97 (sI σ 102 d).toNat (rup (σ.1 97) (σ.1 101 d).toInt.toNat (σ.1 97 (σ.1 101 d).toInt.toNat - σ.1 103 d) (σ.1 102 d).toInt.toNat + σ.1 103 d) = τ9 at hB9 P9 R9 ⊢
    have G9 : FQ [(97, 9999), (122, 9999), (123, 9999)] σ τ9 := FQ.tr G7 (FQ.tr (FQ.up (G := []) rfl F8) (FQ.up (G := [(97, 9999)]) rfl P9))
    refine qf_p67 d hB9 ⟨by omega, trivial⟩ ?_
    intro τ10 y10 hB10 F10 _ _ _ _
    have G10 : FQ [(97, 9999), (122, 9999), (123, 9999)] σ τ10 := FQ.tr G9 (FQ.up (G := []) rfl F10)
    refine Ok.cv rfl rfl rfl rfl rfl rfl rfl ?_
    refine (x_isp d 1 n hd (by decide) (by omega) ((congrArg Int32.toInt (G10 93 53 rfl)).trans en) hB10).use (by decide) (fun r τ11 q => ?_)
    obtain ⟨rfl, hB11, F11, q106, q107, q53⟩ := q
    refine qf_p71 d hB11 ⟨by omega, trivial⟩ ?_
    intro τ12 y12 hB12 F12 _ _ _ _
    refine ⟨rfl, hB12, FQ.tr (FQ.up (G := [(97, 9999), (122, 9999), (123, 9999)]) rfl G10) (FQ.tr (FQ.up (G := [(93, 53), (106, 9999), (107, 9999)]) rfl F11) (FQ.up (G := []) rfl F12)), ?_, ?_, ?_, ?_⟩
    · rw [row_fq F12 rfl, row_fq F11 rfl, row_fq F10 rfl, R9]
    · rw [row_fq F12 rfl, q106, row_fq G10 rfl, G10 93 19 rfl]
      rfl
    · rw [row_fq F12 rfl, q107, row_fq G10 rfl]
      rfl
    · have e : cI τ12 53 = cI τ11 53 := congrArg Int32.toInt (F12 93 53 rfl)
      rw [e, q53]
      show (n : Int) + 1 = ((n + 1 : Nat) : Int)
      omega
  · have g : sI σ 97 (sI σ 101 d).toNat < sI σ 103 d := g
    refine qf_p28 d hB5 ⟨by omega, trivial⟩ ?_
    intro τ6 y6 hB6 F6 _ _ _ _
    refine no ?_ τ6 hB6 (FQ.tr G5 (FQ.up (G := []) rfl F6))
    show (decide (σ.1 107 d = 0) && (bsM σ d && (decide ((σ.1 103 d).toInt ≤ (σ.1 97 (σ.1 101 d).toInt.toNat).toInt) && lwM σ ls (σ.1 97) d))) = false
    rw [decide_eq_false (p := (σ.1 103 d).toInt ≤ (σ.1 97 (σ.1 101 d).toInt.toNat).toInt) (by show ¬ sI σ 103 d ≤ sI σ 97 (sI σ 101 d).toNat; omega), Bool.false_and, Bool.and_false, Bool.and_false]
