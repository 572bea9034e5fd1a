/-! a Sunday: what is paid -/
/-- the facts of a debt, out of rows -/
def fcG (co ma db pl cr ag nh : Nat → Int32) (su : Int32) (pu : Nat → Int32) (d : Nat) : Nat → Int32
  | 0 => co d
  | 1 => su - ma d
  | 2 => pu (db d).toInt.toNat
  | 3 => pl d
  | 4 => ag (db d).toInt.toNat
  | 5 => nh d
  | 6 => db d
  | 7 => cr d
  | _ => su
/-- coins, on which Sunday, how, how many -/
abbrev P3 : Type := (Nat → Int32) × (Nat → Int32) × (Nat → Int32) × Nat
/-- is it paid: open, both there, coins enough, the law -/
def pyC (bs : Nat → Bool) (co db : Nat → Int32) (lw : (Nat → Int32) → Nat → Bool) (s : P3) (d : Nat) : Bool := decide (s.2.2.1 d = 0) && (bs d && (decide ((co d).toInt ≤ (s.1 (db d).toInt.toNat).toInt) && lw s.1 d))
/-- a debt is paid -/
def pyD (co db cr : Nat → Int32) (su : Int32) (s : P3) (d : Nat) : P3 := (rup (rup s.1 (db d).toInt.toNat (s.1 (db d).toInt.toNat - co d)) (cr d).toInt.toNat (rup s.1 (db d).toInt.toNat (s.1 (db d).toInt.toNat - co d) (cr d).toInt.toNat + co d), rup s.2.1 d su, rup s.2.2.1 d 1, s.2.2.2 + 1)
def pyS (bs : Nat → Bool) (co db cr : Nat → Int32) (lw : (Nat → Int32) → Nat → Bool) (su : Int32) (s : P3) (d : Nat) : P3 := if pyC bs co db lw s d = true then pyD co db cr su s d else s
/-- the debts ahead of d -/
def pyF (bs : Nat → Bool) (co db cr : Nat → Int32) (lw : (Nat → Int32) → Nat → Bool) (su : Int32) (s : P3) : Nat → P3
  | 0 => s
  | d + 1 => pyS bs co db cr lw su (pyF bs co db cr lw su s d) d
theorem pyF_n (bs : Nat → Bool) (co db cr : Nat → Int32) (lw : (Nat → Int32) → Nat → Bool) (su : Int32) (s : P3) : ∀ d, (pyF bs co db cr lw su s d).2.2.2 ≤ s.2.2.2 + d
  | 0 => Nat.le_refl _
  | d + 1 => by
    have ih := pyF_n bs co db cr lw su s d
    show (if pyC bs co db lw (pyF bs co db cr lw su s d) d = true then pyD co db cr su (pyF bs co db cr lw su s d) d else pyF bs co db cr lw su s d).2.2.2 ≤ _
    split
    · show (pyF bs co db cr lw su s d).2.2.2 + 1 ≤ _
      omega
    · omega
/-! the class -/
theorem x_opD {σ : pm_S} (d D : Nat) (hD : D ≤ 30) (hd : d < D) (eD : sI σ 13 0 = (D : Int)) (hB : an_GB pm_B σ) : Sp 3 2 [.ref 13, .int (Int32.ofInt (d : Int))] σ (fun r τ => r = some (b01 (decide (σ.1 20 d = 0))) ∧ an_GB pm_B τ ∧ FQ [] σ τ) := by
  have ed : ((d : Int)).toNat = d := by omega
  refine Sp.at rfl rfl ?_
  refine pf_i0 d D hB ⟨by omega, by omega, trivial⟩ ⟨eD, trivial⟩ ?_
  intro τ1 y1 hB1 F1 _ _ _ _
  refine Ok.ic rfl rfl (by omega) (by omega) (by omega) (by omega) (fun h => ?_) (fun h => ?_)
  · have h : (D : Int) ≤ (d : Int) := h
    exfalso
    omega
  · refine pf_i6 d (sI σ 20 d) hB1 ⟨by omega, ai_rng _, trivial⟩ ⟨by rw [ed]; exact congrArg Int32.toInt (F1 20 d rfl), trivial⟩ ?_ ?_
    · intro τ2 y2 hB2 F2 _ rl _ _
      have ne : ¬ σ.1 20 d = 0 := fun z => rl.1 (by show (σ.1 20 d).toInt = 0; rw [z]; rfl)
      rw [decide_eq_false ne]
      exact ⟨rfl, hB2, FQ.tr F1 F2⟩
    · intro τ2 y2 hB2 F2 f _ _ _
      have f2 := f.2.1
      have e : σ.1 20 d = 0 := Int32.toInt_inj.mp (show sI σ 20 d = (0 : Int32).toInt by show sI σ 20 d = 0; omega)
      rw [decide_eq_true e]
      exact ⟨rfl, hB2, FQ.tr F1 F2⟩
theorem x_haD {σ : pm_S} (d D : Nat) (hD : D ≤ 30) (hd : d < D) (eD : sI σ 13 0 = (D : Int)) (hB : an_GB pm_B σ) : Sp 1 2 [.ref 13, .int (Int32.ofInt (d : Int))] σ (fun r τ => r = some (.int (Int32.ofInt 1)) ∧ an_GB pm_B τ ∧ FQ [] σ τ) := by
  refine Sp.at rfl rfl ?_
  refine pf_h0 d D hB ⟨by omega, by omega, trivial⟩ ⟨eD, trivial⟩ ?_
  intro τ1 y1 hB1 F1 _ _ _ _
  refine Ok.ic rfl rfl (by omega) (by omega) (by omega) (by omega) (fun h => ?_) (fun h => ?_)
  · have h : (D : Int) ≤ (d : Int) := h
    exfalso
    omega
  · refine pf_h6 d hB1 ⟨by omega, trivial⟩ ?_
    intro τ2 y2 hB2 F2 _ _ _ _
    exact ⟨rfl, hB2, FQ.tr F1 F2⟩
set_option maxRecDepth 20000 in
theorem x_clD {σ : pm_S} (d D : Nat) (su by_ : Int) (hD : D ≤ 30) (hd : d < D) (hs : (-2147483648) ≤ su ∧ su ≤ 2147483647) (hb : 1 ≤ by_ ∧ by_ ≤ 2) (eD : sI σ 13 0 = (D : Int)) (hB : an_GB pm_B σ) : Sp 4 4 [.ref 13, .int (Int32.ofInt (d : Int)), .int (Int32.ofInt su), .int (Int32.ofInt by_)] σ (fun r τ => r = none ∧ an_GB pm_B τ ∧ FQ [(19, 9999), (20, 9999)] σ τ ∧ τ.1 19 = rup (σ.1 19) d (Int32.ofInt su) ∧ τ.1 20 = rup (σ.1 20) d (Int32.ofInt by_)) := by
  have ed : ((d : Int)).toNat = d := by omega
  refine Sp.at rfl rfl ?_
  refine pf_c0 d su by_ hB ⟨by omega, hs, hb, trivial⟩ ?_
  intro τ1 y1 hB1 F1 _ _ _ _
  refine Ok.cv rfl rfl rfl rfl rfl rfl rfl ?_
  refine (x_haD d D hD hd ((congrArg Int32.toInt (F1 13 0 rfl)).trans eD) hB1).use (by decide) (fun r τ2 q => ?_)
  obtain ⟨rfl, hB2, F2⟩ := q
  refine pf_c3 d su by_ 1 hB2 ⟨by omega, hs, hb, by decide, trivial⟩ ?_ ?_
  · intro τ3 y3 hB3 F3 f _ _ _
    have f4 := f.2.2.2.1
    exfalso
    omega
  intro τ3 y3 hB3 F3 _ _ _ _
  have G3 : FQ [] σ τ3 := FQ.tr F1 (FQ.tr F2 F3)
  refine Ok.ast (n := 30) rfl rfl rfl (by decide) (by omega) (by omega) ?_
  rw [ed]
  have hB4 : an_GB pm_B (put τ3 19 d (Int32.ofInt su)) := put_GB hB3 (ai_rng _)
  have P4 : FQ [(19, 9999)] τ3 (put τ3 19 d (Int32.ofInt su)) := FQ.put rfl
  have R4 : (put τ3 19 d (Int32.ofInt su)).1 19 = rup (σ.1 19) d (Int32.ofInt su) := by rw [row_put, row_fq G3 rfl]
  generalize put τ3 19 d (Int32.ofInt su) = τ4 at hB4 P4 R4 ⊢
  refine pf_c9 d su by_ hB4 ⟨by omega, hs, hb, trivial⟩ ?_
  intro τ5 y5 hB5 F5 _ _ _ _
  refine Ok.ast (n := 30) rfl rfl rfl (by decide) (by omega) (by omega) ?_
  rw [ed]
  have hB6 : an_GB pm_B (put τ5 20 d (Int32.ofInt by_)) := put_GB hB5 (ai_rng _)
  have G5 : FQ [(19, 9999)] σ τ5 := FQ.tr (FQ.up (G := []) rfl G3) (FQ.tr P4 (FQ.up (G := []) rfl F5))
  have P6 : FQ [(20, 9999)] τ5 (put τ5 20 d (Int32.ofInt by_)) := FQ.put rfl
  have R6 : (put τ5 20 d (Int32.ofInt by_)).1 20 = rup (σ.1 20) d (Int32.ofInt by_) := by rw [row_put, row_fq G5 rfl]
  generalize put τ5 20 d (Int32.ofInt by_) = τ6 at hB6 P6 R6 ⊢
  refine pf_c14 d su by_ hB6 ⟨by omega, hs, hb, trivial⟩ ?_
  intro τ7 y7 hB7 F7 _ _ _ _
  refine ⟨rfl, hB7, FQ.tr (FQ.up (G := [(19, 9999)]) rfl G5) (FQ.tr (FQ.up (G := [(20, 9999)]) rfl P6) (FQ.up (G := []) rfl F7)), ?_, (row_fq F7 rfl).trans R6⟩
  rw [row_fq F7 rfl, row_fq P6 rfl, row_fq F5 rfl, R4]
/-- both stand on its spot -/
abbrev bsC (σ : pm_S) : Nat → Bool := fun d => decide (sI σ 12 (sI σ 14 d).toNat = sI σ 17 d) && decide (sI σ 12 (sI σ 15 d).toNat = sI σ 17 d)
set_option maxRecDepth 20000 in
theorem x_bst {σ : pm_S} (d D : Nat) (hD : D ≤ 30) (hd : d < D) (eD : sI σ 13 0 = (D : Int)) (hB : an_GB pm_B σ) : Sp 94 5 [.ref 74, .int (Int32.ofInt (d : Int))] σ (fun r τ => r = some (b01 (decide (σ.1 20 d = 0) && bsC σ d)) ∧ an_GB pm_B τ ∧ FQ [] σ τ) := by
  have ed : ((d : Int)).toNat = d := by omega
  have b17 : 0 ≤ sI σ 17 d ∧ sI σ 17 d ≤ 9 := hB 17 d (show d < 30 by omega)
  have b14 : 0 ≤ sI σ 14 d ∧ sI σ 14 d ≤ 9 := hB 14 d (show d < 30 by omega)
  have b15 : 0 ≤ sI σ 15 d ∧ sI σ 15 d ≤ 9 := hB 15 d (show d < 30 by omega)
  have b12 : ∀ p : Nat, p < 10 → (-1) ≤ sI σ 12 p ∧ sI σ 12 p ≤ 9 := fun p hp => hB 12 p (show p < 10 from hp)
  have c14 := b12 (sI σ 14 d).toNat (by omega)
  have c15 := b12 (sI σ 15 d).toNat (by omega)
  refine Sp.at rfl rfl ?_
  refine pf_b0 d (sI σ 17 d) _ rfl hB ⟨by omega, b17, trivial⟩ ⟨by rw [ed], trivial⟩ ?_
  intro τ1 y1 hB1 F1 _ _ _ _
  refine Ok.cv rfl rfl rfl rfl rfl rfl rfl ?_
  refine (x_opD d D hD hd ((congrArg Int32.toInt (F1 13 0 rfl)).trans eD) hB1).use (by decide) (fun r τ2 q => ?_)
  obtain ⟨rfl, hB2, F2⟩ := q
  have G2 : FQ [] σ τ2 := FQ.tr F1 F2
  have w01 : 0 ≤ (if decide (τ1.1 20 d = 0) = true then (1 : Int) else 0) ∧ (if decide (τ1.1 20 d = 0) = true then (1 : Int) else 0) ≤ 1 := by split <;> decide
  have e20 : τ1.1 20 d = σ.1 20 d := F1 20 d rfl
  refine pf_b12 d (sI σ 17 d) (if decide (τ1.1 20 d = 0) = true then 1 else 0) (sI σ 14 d) (sI σ 12 (sI σ 14 d).toNat) hB2 ⟨by omega, b17, w01, b14, c14, trivial⟩ ⟨by rw [ed]; exact congrArg Int32.toInt (G2 14 d rfl), congrArg Int32.toInt (G2 12 _ rfl), trivial⟩ ?_ ?_
  · intro τ3 y3 hB3 F3 f _ _ _
    have f3 := f.2.2.1
    have e : decide (σ.1 20 d = 0) = false := by
      cases h : decide (σ.1 20 d = 0) with
      | false => rfl
      | true =>
        rw [e20, h, if_pos rfl] at f3
        exfalso
        omega
    rw [e]
    exact ⟨rfl, hB3, FQ.tr G2 F3⟩
  · intro τ3 y3 hB3 F3 f _ _ _
    have f3 := f.2.2.1
    have G3 : FQ [] σ τ3 := FQ.tr G2 F3
    have e : decide (σ.1 20 d = 0) = true := by
      cases h : decide (σ.1 20 d = 0) with
      | true => rfl
      | false =>
        rw [e20, h, if_neg (by decide)] at f3
        exfalso
        omega
    rw [e]
    refine Ok.ic rfl rfl (by omega) (by omega) (by omega) (by omega) (fun g => ?_) (fun g => ?_)
    · have g : sI σ 12 (sI σ 14 d).toNat ≠ sI σ 17 d := g
      refine pf_b41 d (sI σ 17 d) hB3 ⟨by omega, b17, trivial⟩ ?_
      intro τ4 y4 hB4 F4 _ _ _ _
      have eb : bsC σ d = false := by
        unfold bsC
        rw [decide_eq_false g, Bool.false_and]
      rw [eb]
      exact ⟨rfl, hB4, FQ.tr G3 F4⟩
    · have g : sI σ 12 (sI σ 14 d).toNat = sI σ 17 d := g
      refine pf_b26 d (sI σ 17 d) (sI σ 15 d) (sI σ 12 (sI σ 15 d).toNat) hB3 ⟨by omega, b17, b15, c15, trivial⟩ ⟨by rw [ed]; exact congrArg Int32.toInt (G3 15 d rfl), congrArg Int32.toInt (G3 12 _ rfl), trivial⟩ ?_
      intro τ4 y4 hB4 F4 _ _ _ _
      refine Ok.ic rfl rfl (by omega) (by omega) (by omega) (by omega) (fun w => ?_) (fun w => ?_)
      · have w : sI σ 12 (sI σ 15 d).toNat ≠ sI σ 17 d := w
        refine pf_b41 d (sI σ 17 d) hB4 ⟨by omega, b17, trivial⟩ ?_
        intro τ5 y5 hB5 F5 _ _ _ _
        have eb : bsC σ d = false := by
          unfold bsC
          rw [decide_eq_false w, Bool.and_false]
        rw [eb]
        exact ⟨rfl, hB5, FQ.tr G3 (FQ.tr F4 F5)⟩
      · have w : sI σ 12 (sI σ 15 d).toNat = sI σ 17 d := w
        refine pf_b39 d (sI σ 17 d) hB4 ⟨by omega, b17, trivial⟩ ?_
        intro τ5 y5 hB5 F5 _ _ _ _
        have eb : bsC σ d = true := by
          unfold bsC
          rw [decide_eq_true g, decide_eq_true w]
          rfl
        rw [eb]
        exact ⟨rfl, hB5, FQ.tr G3 (FQ.tr F4 F5)⟩
/-- how many stand on a debt's spot -/
abbrev nhC (σ : pm_S) : Nat → Int32 := fun d => Int32.ofInt ((cntP (hrc σ (sI σ 17 d)) (sI σ 7 0).toNat : Nat) : Int)
abbrev lwC (σ : pm_S) (ls : List (List Int)) : (Nat → Int32) → Nat → Bool := fun pu d => LW (fcG (σ.1 16) (σ.1 18) (σ.1 14) (σ.1 17) (σ.1 15) (σ.1 10) (nhC σ) (σ.1 1 1) pu d) ls
abbrev FPay : List (Nat × Nat) := [(9, 9999), (19, 9999), (20, 9999), (31, 2), (33, 9999), (75, 9999)]
abbrev pyK (σ : pm_S) (ls : List (List Int)) : Nat → P3 := pyF (bsC σ) (σ.1 16) (σ.1 14) (σ.1 15) (lwC σ ls) (σ.1 1 1) (σ.1 9, σ.1 19, σ.1 20, 0)
theorem fcc_G (σ : pm_S) (d : Nat) : fcc σ d = fcG (σ.1 16) (σ.1 18) (σ.1 14) (σ.1 17) (σ.1 15) (σ.1 10) (nhC σ) (σ.1 1 1) (σ.1 9) d := by
  funext j
  match j with
  | 0 => rfl
  | 1 => rfl
  | 2 => rfl
  | 3 => rfl
  | 4 => rfl
  | 5 => rfl
  | 6 => rfl
  | 7 => rfl
  | j + 8 => rfl
section PAC
variable {σ : pm_S} {ls : List (List Int)} {D : Nat} {Q : Option Value → pm_S → Prop}
set_option maxRecDepth 20000 in
theorem x_pal (hw : ∀ l ∈ ls, lnW l) (hD : D ≤ 30) (eD : sI σ 13 0 = (D : Int)) (hL : cw_R σ ls.flatten) (hQ : ∀ τ : pm_S, an_GB pm_B τ → FQ FPay σ τ → τ.1 9 = (pyK σ ls D).1 → τ.1 19 = (pyK σ ls D).2.1 → τ.1 20 = (pyK σ ls D).2.2.1 → Q (some (.int (Int32.ofInt (((pyK σ ls D).2.2.2 : Nat) : Int)))) τ) : ∀ (k d : Nat) (τ : pm_S) (u3 u4 : Value), d + k = D → u3.category = 1 → u4.category = 1 → an_GB pm_B τ → FQ FPay σ τ → τ.1 9 = (pyK σ ls d).1 → τ.1 19 = (pyK σ ls d).2.1 → τ.1 20 = (pyK σ ls d).2.2.1 → Ok 93 14 4 [.ref 74, .int (Int32.ofInt (((pyK σ ls d).2.2.2 : Nat) : Int)), .int (Int32.ofInt (d : Int)), u3, u4] [] τ Q := by
  intro k
  induction k with
  | zero =>
    intro d τ u3 u4 hd k3 k4 hB F r9 r19 r20
    have e : d = D := by omega
    have pn : (pyK σ ls d).2.2.2 ≤ 0 + d := pyF_n _ _ _ _ _ _ _ d
    refine pf_p4 ((pyK σ ls d).2.2.2 : Nat) d D u3 u4 k3 k4 hB ⟨by omega, by omega, by omega, trivial⟩ ⟨(congrArg Int32.toInt (F 13 0 rfl)).trans eD, trivial⟩ ?_
    intro τ1 y1 v3 v4 d3 d4 hB1 F1 _ _ _ _
    refine Ok.ic rfl rfl (by omega) (by omega) (by omega) (by omega) (fun h => ?_) (fun h => ?_)
    · refine pf_p77 ((pyK σ ls d).2.2.2 : Nat) _ v3 v4 rfl d3 d4 hB1 ⟨by omega, trivial⟩ ?_
      intro τ2 y2 hB2 F2 _ _ _ _
      have G2 : FQ [] τ τ2 := FQ.tr F1 F2
      rw [e] at r9 r19 r20 ⊢
      exact hQ τ2 hB2 (FQ.tr F (FQ.up (G := []) rfl G2)) ((row_fq G2 rfl).trans r9) ((row_fq G2 rfl).trans r19) ((row_fq G2 rfl).trans r20)
    · have h : (d : Int) < (D : Int) := h
      exfalso
      omega
  | succ k ih =>
    intro d τ u3 u4 hd k3 k4 hB F r9 r19 r20
    have ed : ((d : Int)).toNat = d := by omega
    have hdD : d < D := by omega
    have pn : (pyK σ ls d).2.2.2 ≤ 0 + d := pyF_n _ _ _ _ _ _ _ d
    have b14 : 0 ≤ sI σ 14 d ∧ sI σ 14 d ≤ 9 := by
      have q : 0 ≤ sI τ 14 d ∧ sI τ 14 d ≤ 9 := hB 14 d (show d < 30 by omega)
      rw [show sI τ 14 d = sI σ 14 d from congrArg Int32.toInt (F 14 d rfl)] at q
      exact q
    have b15 : 0 ≤ sI σ 15 d ∧ sI σ 15 d ≤ 9 := by
      have q : 0 ≤ sI τ 15 d ∧ sI τ 15 d ≤ 9 := hB 15 d (show d < 30 by omega)
      rw [show sI τ 15 d = sI σ 15 d from congrArg Int32.toInt (F 15 d rfl)] at q
      exact q
    -- what is the same all along
    have bsE : ∀ τ' : pm_S, FQ FPay σ τ' → bsC τ' d = bsC σ d := fun τ' F' => by
      unfold bsC
      rw [show sI τ' 14 d = sI σ 14 d from congrArg Int32.toInt (F' 14 d rfl), show sI τ' 15 d = sI σ 15 d from congrArg Int32.toInt (F' 15 d rfl), show sI τ' 17 d = sI σ 17 d from congrArg Int32.toInt (F' 17 d rfl), show sI τ' 12 (sI σ 14 d).toNat = sI σ 12 (sI σ 14 d).toNat from congrArg Int32.toInt (F' 12 _ rfl), show sI τ' 12 (sI σ 15 d).toNat = sI σ 12 (sI σ 15 d).toNat from congrArg Int32.toInt (F' 12 _ rfl)]
    have fcE : ∀ τ' : pm_S, FQ FPay σ τ' → fcc τ' d = fcG (σ.1 16) (σ.1 18) (σ.1 14) (σ.1 17) (σ.1 15) (σ.1 10) (nhC σ) (σ.1 1 1) (τ'.1 9) d := fun τ' F' => by
      have hrE : hrc τ' (sI σ 17 d) = hrc σ (sI σ 17 d) := funext fun p => by
        show decide (sI τ' 12 p = _) = decide (sI σ 12 p = _)
        rw [show sI τ' 12 p = sI σ 12 p from congrArg Int32.toInt (F' 12 p rfl)]
      have nhE : nhC τ' d = nhC σ d := by
        show Int32.ofInt ((cntP (hrc τ' (sI τ' 17 d)) (sI τ' 7 0).toNat : Nat) : Int) = _
        rw [show sI τ' 17 d = sI σ 17 d from congrArg Int32.toInt (F' 17 d rfl), show sI τ' 7 0 = sI σ 7 0 from congrArg Int32.toInt (F' 7 0 rfl), hrE]
      rw [fcc_G]
      funext j
      have e16 := row_fq (P := 16) F' rfl
      have e18 := row_fq (P := 18) F' rfl
      have e14 := row_fq (P := 14) F' rfl
      have e17 := row_fq (P := 17) F' rfl
      have e15 := row_fq (P := 15) F' rfl
      have e10 := row_fq (P := 10) F' rfl
      have e11 : τ'.1 1 1 = σ.1 1 1 := F' 1 1 rfl
      match j with
      | 0 => exact congrFun e16 d
      | 1 =>
        show τ'.1 1 1 - τ'.1 18 d = σ.1 1 1 - σ.1 18 d
        rw [e11, e18]
      | 2 =>
        show τ'.1 9 (τ'.1 14 d).toInt.toNat = τ'.1 9 (σ.1 14 d).toInt.toNat
        rw [e14]
      | 3 => exact congrFun e17 d
      | 4 =>
        show τ'.1 10 (τ'.1 14 d).toInt.toNat = σ.1 10 (σ.1 14 d).toInt.toNat
        rw [e14, e10]
      | 5 => exact nhE
      | 6 => exact congrFun e14 d
      | 7 => exact congrFun e15 d
      | j + 8 => exact e11
    refine pf_p4 ((pyK σ ls d).2.2.2 : Nat) d D u3 u4 k3 k4 hB ⟨by omega, by omega, by omega, trivial⟩ ⟨(congrArg Int32.toInt (F 13 0 rfl)).trans eD, trivial⟩ ?_
    intro τ1 y1 v3 v4 d3 d4 hB1 F1 _ _ _ _
    refine Ok.ic rfl rfl (by omega) (by omega) (by omega) (by omega) (fun h => ?_) (fun h => ?_)
    · have h : (D : Int) ≤ (d : Int) := h
      exfalso
      omega
    have G1 : FQ FPay σ τ1 := FQ.tr F (FQ.up (G := []) rfl F1)
    refine pf_p10 ((pyK σ ls d).2.2.2 : Nat) d (sI σ 14 d) (sI σ 16 d) v3 v4 d3 d4 hB1 ⟨by omega, by omega, b14, ai_rng _, trivial⟩ ⟨by rw [ed]; exact congrArg Int32.toInt (G1 14 d rfl), by rw [ed]; exact congrArg Int32.toInt (G1 16 d rfl), trivial⟩ ?_
    intro τ2 y2 hB2 F2 _ _ _ _
    have g2 : FQ [] τ τ2 := FQ.tr F1 F2
    have G2 : FQ FPay σ τ2 := FQ.tr F (FQ.up (G := []) rfl g2)
    -- not paid
    have skip : pyC (bsC σ) (σ.1 16) (σ.1 14) (lwC σ ls) (pyK σ ls d) d = false → ∀ (τ' : pm_S) (w3 w4 : Value), w3.category = 1 → w4.category = 1 → an_GB pm_B τ' → FQ [(31, 2), (33, 9999), (75, 9999)] τ τ' → Ok 93 14 4 [.ref 74, .int (Int32.ofInt (((pyK σ ls d).2.2.2 : Nat) : Int)), .int (Int32.ofInt ((d : Int) + 1)), w3, w4] [] τ' Q := by
      intro hc τ' w3 w4 m3 m4 hB' F'
      have e : pyK σ ls (d + 1) = pyK σ ls d := if_neg (by rw [hc]; decide)
      rw [show (d : Int) + 1 = ((d + 1 : Nat) : Int) by omega, ← e]
      refine ih (d + 1) τ' w3 w4 (by omega) m3 m4 hB' (FQ.tr F (FQ.up (G := [(31, 2), (33, 9999), (75, 9999)]) rfl F')) ?_ ?_ ?_
      · rw [e, row_fq F' rfl, r9]
      · rw [e, row_fq F' rfl, r19]
      · rw [e, row_fq F' rfl, r20]
    refine Ok.cv rfl rfl rfl rfl rfl rfl rfl ?_
    refine (x_bst d D hD hdD ((congrArg Int32.toInt (G2 13 0 rfl)).trans eD) hB2).use (by decide) (fun r τ3 q => ?_)
    obtain ⟨rfl, hB3, F3⟩ := q
    have g3 : FQ [] τ τ3 := FQ.tr g2 F3
    have G3 : FQ FPay σ τ3 := FQ.tr F (FQ.up (G := []) rfl g3)
    rw [bsE τ2 G2, show τ2.1 20 d = (pyK σ ls d).2.2.1 d by rw [row_fq g2 rfl, r20]]
    have e9 : τ3.1 9 = (pyK σ ls d).1 := (row_fq g3 rfl).trans r9
    have w01 : 0 ≤ (if (decide ((pyK σ ls d).2.2.1 d = 0) && bsC σ d) = true then (1 : Int) else 0) ∧ (if (decide ((pyK σ ls d).2.2.1 d = 0) && bsC σ d) = true then (1 : Int) else 0) ≤ 1 := by split <;> decide
    refine pf_p27 ((pyK σ ls d).2.2.2 : Nat) d (sI σ 14 d) (sI σ 16 d) (if (decide ((pyK σ ls d).2.2.1 d = 0) && bsC σ d) = true then 1 else 0) ((pyK σ ls d).1 (sI σ 14 d).toNat).toInt hB3 ⟨by omega, by omega, b14, ai_rng _, w01, ai_rng _, trivial⟩ ⟨by rw [e9], trivial⟩ ?_ ?_
    · intro τ4 y4 hB4 F4 f _ _ _
      have f5 := f.2.2.2.2.1
      refine skip ?_ τ4 _ _ rfl rfl hB4 (FQ.up (G := []) rfl (FQ.tr g3 F4))
      have e : (decide ((pyK σ ls d).2.2.1 d = 0) && bsC σ d) = false := by
        cases h : (decide ((pyK σ ls d).2.2.1 d = 0) && bsC σ d) with
        | false => rfl
        | true =>
          rw [h, if_pos rfl] at f5
          exfalso
          omega
      unfold pyC
      rw [← Bool.and_assoc, e, Bool.false_and]
    intro τ4 y4 hB4 F4 f _ _ _
    have f5 := f.2.2.2.2.1
    have eo : (decide ((pyK σ ls d).2.2.1 d = 0) && bsC σ d) = true := by
      cases h : (decide ((pyK σ ls d).2.2.1 d = 0) && bsC σ d) with
      | true => rfl
      | false =>
        rw [h, if_neg (by decide)] at f5
        exfalso
        omega
    have g4 : FQ [] τ τ4 := FQ.tr g3 F4
    have G4 : FQ FPay σ τ4 := FQ.tr F (FQ.up (G := []) rfl g4)
    have rc : (-2147483648) ≤ ((pyK σ ls d).1 (sI σ 14 d).toNat).toInt ∧ ((pyK σ ls d).1 (sI σ 14 d).toNat).toInt ≤ 2147483647 := ai_rng _
    have r16 : (-2147483648) ≤ sI σ 16 d ∧ sI σ 16 d ≤ 2147483647 := ai_rng _
    refine Ok.ic rfl rfl (by omega) (by omega) (by omega) (by omega) (fun g => ?_) (fun g => ?_)
    · have g : ((pyK σ ls d).1 (sI σ 14 d).toNat).toInt < sI σ 16 d := g
      refine pf_p75 ((pyK σ ls d).2.2.2 : Nat) d _ _ rfl rfl hB4 ⟨by omega, by omega, trivial⟩ ?_
      intro τ5 y5 w3 w4 m3 m4 hB5 F5 _ _ _ _
      refine skip ?_ τ5 w3 w4 m3 m4 hB5 (FQ.up (G := []) rfl (FQ.tr g4 F5))
      unfold pyC
      rw [decide_eq_false (p := (σ.1 16 d).toInt ≤ ((pyK σ ls d).1 (σ.1 14 d).toInt.toNat).toInt) (by show ¬ sI σ 16 d ≤ ((pyK σ ls d).1 (sI σ 14 d).toNat).toInt; omega), Bool.false_and, Bool.and_false, Bool.and_false]
    · have g : sI σ 16 d ≤ ((pyK σ ls d).1 (sI σ 14 d).toNat).toInt := g
      refine pf_p36 ((pyK σ ls d).2.2.2 : Nat) d (sI σ 14 d) (sI σ 16 d) hB4 ⟨by omega, by omega, b14, ai_rng _, trivial⟩ ?_
      intro τ5 y5 hB5 F5 _ _ _ _
      have g5 : FQ [] τ τ5 := FQ.tr g4 F5
      have G5 : FQ FPay σ τ5 := FQ.tr F (FQ.up (G := []) rfl g5)
      refine Ok.cv rfl rfl rfl rfl rfl rfl rfl ?_
      refine (x_llc (ls := ls) hw d (by omega) hB5 (hL.fq (G := FPay) rfl G5)).use (by decide) (fun r τ6 q => ?_)
      obtain ⟨rfl, hB6, F6⟩ := q
      have g6 : FQ [(31, 2), (33, 9999), (75, 9999)] τ τ6 := FQ.tr (FQ.up (G := []) rfl g5) (FQ.up (G := [(75, 9999), (31, 2), (33, 9999)]) rfl F6)
      have G6 : FQ FPay σ τ6 := FQ.tr F (FQ.up (G := [(31, 2), (33, 9999), (75, 9999)]) rfl g6)
      have el : LW (fcc τ5 d) ls = lwC σ ls (pyK σ ls d).1 d := by
        rw [fcE τ5 G5, row_fq g5 rfl, r9]
      rw [el]
      have w02 : 0 ≤ (if lwC σ ls (pyK σ ls d).1 d = true then (1 : Int) else 0) ∧ (if lwC σ ls (pyK σ ls d).1 d = true then (1 : Int) else 0) ≤ 1 := by split <;> decide
      have e96 : τ6.1 9 = (pyK σ ls d).1 := (row_fq g6 rfl).trans r9
      have ec : pyC (bsC σ) (σ.1 16) (σ.1 14) (lwC σ ls) (pyK σ ls d) d = lwC σ ls (pyK σ ls d).1 d := by
        unfold pyC
        rw [← Bool.and_assoc, eo, Bool.true_and, decide_eq_true (p := (σ.1 16 d).toInt ≤ ((pyK σ ls d).1 (σ.1 14 d).toInt.toNat).toInt) g, Bool.true_and]
      refine pf_p39 ((pyK σ ls d).2.2.2 : Nat) d (sI σ 14 d) (sI σ 16 d) (if lwC σ ls (pyK σ ls d).1 d = true then 1 else 0) ((pyK σ ls d).1 (sI σ 14 d).toNat).toInt hB6 ⟨by omega, by omega, b14, ai_rng _, w02, ai_rng _, trivial⟩ ⟨by rw [e96], trivial⟩ ?_ ?_
      · intro τ7 y7 hB7 F7 f _ _ _
        have f5 := f.2.2.2.2.1
        refine skip ?_ τ7 _ _ rfl rfl hB7 (FQ.tr g6 (FQ.up (G := []) rfl F7))
        rw [ec]
        cases h : lwC σ ls (pyK σ ls d).1 d with
        | false => rfl
        | true =>
          rw [h, if_pos rfl] at f5
          exfalso
          omega
      intro τ7 y7 hB7 F7 f _ d7 _
      have f5 := f.2.2.2.2.1
      have hc : pyC (bsC σ) (σ.1 16) (σ.1 14) (lwC σ ls) (pyK σ ls d) d = true := by
        rw [ec]
        cases h : lwC σ ls (pyK σ ls d).1 d with
        | true => rfl
        | false =>
          rw [h, if_neg (by decide)] at f5
          exfalso
          omega
      have eK : pyK σ ls (d + 1) = pyD (σ.1 16) (σ.1 14) (σ.1 15) (σ.1 1 1) (pyK σ ls d) d := if_pos hc
      have g7 : FQ [(31, 2), (33, 9999), (75, 9999)] τ τ7 := FQ.tr g6 (FQ.up (G := []) rfl F7)
      have e7 : Int32.ofInt (y7 6) = (pyK σ ls d).1 (σ.1 14 d).toInt.toNat - σ.1 16 d := by
        rw [← d7.1, oI, oI, oI]
        rfl
      rw [e7]
      refine Ok.ast (n := 10) rfl rfl rfl (by decide) (by omega) (by omega) ?_
      have hB8 : an_GB pm_B (put τ7 9 (sI σ 14 d).toNat ((pyK σ ls d).1 (σ.1 14 d).toInt.toNat - σ.1 16 d)) := put_GB hB7 (ai_rng _)
      have P8 : FQ [(9, 9999)] τ7 (put τ7 9 (sI σ 14 d).toNat ((pyK σ ls d).1 (σ.1 14 d).toInt.toNat - σ.1 16 d)) := FQ.put rfl
      have R8 : (put τ7 9 (sI σ 14 d).toNat ((pyK σ ls d).1 (σ.1 14 d).toInt.toNat - σ.1 16 d)).1 9 = rup (pyK σ ls d).1 (σ.1 14 d).toInt.toNat ((pyK σ ls d).1 (σ.1 14 d).toInt.toNat - σ.1 16 d) := by rw [row_put, row_fq g7 rfl, r9]
      generalize put τ7 9 (sI σ 14 d).toNat ((pyK σ ls d).1 (σ.1 14 d).toInt.toNat - σ.1 16 d) = τ8 at hB8 P8 R8 ⊢
      have g8 : FQ [(9, 9999), (31, 2), (33, 9999), (75, 9999)] τ τ8 := FQ.tr (FQ.up (G := [(31, 2), (33, 9999), (75, 9999)]) rfl g7) (FQ.up (G := [(9, 9999)]) rfl P8)
      have G8 : FQ FPay σ τ8 := FQ.tr F (FQ.up (G := [(9, 9999), (31, 2), (33, 9999), (75, 9999)]) rfl g8)
      refine pf_p50 ((pyK σ ls d).2.2.2 : Nat) d (sI σ 14 d) (sI σ 16 d) (sI σ 15 d) (τ8.1 9 (sI σ 15 d).toNat).toInt hB8 ⟨by omega, by omega, b14, ai_rng _, b15, ai_rng _, trivial⟩ ⟨by rw [ed]; exact congrArg Int32.toInt (G8 15 d rfl), rfl, trivial⟩ ?_
      intro τ9 y9 hB9 F9 _ _ d9 _
      have e9' : Int32.ofInt (y9 6) = τ8.1 9 (σ.1 15 d).toInt.toNat + σ.1 16 d := by
        rw [← d9.1, oI, oI, oI]
        rfl
      rw [e9', R8]
      refine Ok.ast (n := 10) rfl rfl rfl (by decide) (by omega) (by omega) ?_
      have hB10 : an_GB pm_B (put τ9 9 (sI σ 15 d).toNat (rup (pyK σ ls d).1 (σ.1 14 d).toInt.toNat ((pyK σ ls d).1 (σ.1 14 d).toInt.toNat - σ.1 16 d) (σ.1 15 d).toInt.toNat + σ.1 16 d)) := put_GB hB9 (ai_rng _)
      have P10 : FQ [(9, 9999)] τ9 (put τ9 9 (sI σ 15 d).toNat (rup (pyK σ ls d).1 (σ.1 14 d).toInt.toNat ((pyK σ ls d).1 (σ.1 14 d).toInt.toNat - σ.1 16 d) (σ.1 15 d).toInt.toNat + σ.1 16 d)) := FQ.put rfl
      have R10 : (put τ9 9 (sI σ 15 d).toNat (rup (pyK σ ls d).1 (σ.1 14 d).toInt.toNat ((pyK σ ls d).1 (σ.1 14 d).toInt.toNat - σ.1 16 d) (σ.1 15 d).toInt.toNat + σ.1 16 d)).1 9 = (pyK σ ls (d + 1)).1 := by
        rw [row_put, row_fq F9 rfl, R8, eK]
        rfl
      generalize put τ9 9 (sI σ 15 d).toNat (rup (pyK σ ls d).1 (σ.1 14 d).toInt.toNat ((pyK σ ls d).1 (σ.1 14 d).toInt.toNat - σ.1 16 d) (σ.1 15 d).toInt.toNat + σ.1 16 d) = τ10 at hB10 P10 R10 ⊢
      have g10 : FQ [(9, 9999), (31, 2), (33, 9999), (75, 9999)] τ τ10 := FQ.tr g8 (FQ.tr (FQ.up (G := []) rfl F9) (FQ.up (G := [(9, 9999)]) rfl P10))
      have G10 : FQ FPay σ τ10 := FQ.tr F (FQ.up (G := [(9, 9999), (31, 2), (33, 9999), (75, 9999)]) rfl g10)
      refine pf_p65 ((pyK σ ls d).2.2.2 : Nat) d (sI σ 14 d) (sI σ 16 d) (sI σ 1 1) hB10 ⟨by omega, by omega, b14, ai_rng _, ai_rng _, trivial⟩ ⟨congrArg Int32.toInt (G10 1 1 rfl), trivial⟩ ?_
      intro τ11 y11 hB11 F11 _ _ _ _
      have g11 : FQ [(9, 9999), (31, 2), (33, 9999), (75, 9999)] τ τ11 := FQ.tr g10 (FQ.up (G := []) rfl F11)
      have G11 : FQ FPay σ τ11 := FQ.tr F (FQ.up (G := [(9, 9999), (31, 2), (33, 9999), (75, 9999)]) rfl g11)
      refine Ok.cv rfl rfl rfl rfl rfl rfl rfl ?_
      refine (x_clD d D (sI σ 1 1) 1 hD hdD (ai_rng _) (by decide) ((congrArg Int32.toInt (G11 13 0 rfl)).trans eD) hB11).use (by decide) (fun r τ12 q => ?_)
      obtain ⟨rfl, hB12, F12, q19, q20⟩ := q
      refine pf_p74 ((pyK σ ls d).2.2.2 : Nat) d (sI σ 14 d) (sI σ 16 d) hB12 ⟨by omega, by omega, b14, ai_rng _, trivial⟩ ?_
      intro τ13 y13 hB13 F13 _ _ _ _
      have en : (pyK σ ls (d + 1)).2.2.2 = (pyK σ ls d).2.2.2 + 1 := by rw [eK]; rfl
      rw [show (((pyK σ ls d).2.2.2 : Nat) : Int) + 1 = (((pyK σ ls (d + 1)).2.2.2 : Nat) : Int) by omega, show (d : Int) + 1 = ((d + 1 : Nat) : Int) by omega]
      refine ih (d + 1) τ13 _ _ (by omega) rfl rfl hB13 (FQ.tr G11 (FQ.tr (FQ.up (G := [(19, 9999), (20, 9999)]) rfl F12) (FQ.up (G := []) rfl F13))) ?_ ?_ ?_
      · rw [row_fq F13 rfl, row_fq F12 rfl, row_fq F11 rfl, R10]
      · rw [row_fq F13 rfl, q19, row_fq g11 rfl, r19, eK, oI]
        rfl
      · rw [row_fq F13 rfl, q20, row_fq g11 rfl, r20, eK]
        rfl
end PAC
theorem x_pac {σ : pm_S} {ls : List (List Int)} {D : Nat} (hw : ∀ l ∈ ls, lnW l) (hD : D ≤ 30) (eD : sI σ 13 0 = (D : Int)) (hL : cw_R σ ls.flatten) (hB : an_GB pm_B σ) : Sp 93 14 [.ref 74] σ (fun r τ => r = some (.int (Int32.ofInt (((pyK σ ls D).2.2.2 : Nat) : Int))) ∧ an_GB pm_B τ ∧ FQ FPay σ τ ∧ τ.1 9 = (pyK σ ls D).1 ∧ τ.1 19 = (pyK σ ls D).2.1 ∧ τ.1 20 = (pyK σ ls D).2.2.1) := by
  refine Sp.at rfl rfl ?_
  refine pf_p0 _ _ _ _ rfl rfl rfl rfl hB ?_
  intro τ1 y1 u3 u4 k3 k4 hB1 F1 _ _ _ _
  exact x_pal (σ := σ) (ls := ls) (D := D) hw hD eD hL (fun τ hB' F' a b c => ⟨rfl, hB', F', a, b, c⟩) D 0 τ1 u3 u4 (Nat.zero_add _) k3 k4 hB1 (FQ.up (G := []) rfl F1) (row_fq F1 rfl) (row_fq F1 rfl) (row_fq F1 rfl)
