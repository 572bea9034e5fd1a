/-! a Sunday: who goes where, the class -/
theorem row_fq {σ τ : pm_S} {G : List (Nat × Nat)} {P : Nat} (F : FQ G σ τ) (h : an_inP G P = false) : τ.1 P = σ.1 P := funext fun j => F P j (an_inP_ok h j)
def rup (f : Nat → Int32) (p : Nat) (v : Int32) : Nat → Int32 := fun j => if j = p then v else f j
theorem rup_s (f : Nat → Int32) (p : Nat) (v : Int32) : rup f p v p = v := if_pos rfl
theorem rup_n {f : Nat → Int32} {p j : Nat} {v : Int32} (h : j ≠ p) : rup f p v j = f j := if_neg h
theorem row_put {σ : pm_S} {P j : Nat} {v : Int32} : (put σ P j v).1 P = rup (σ.1 P) j v := funext fun k => by
  rw [put_get]
  unfold rup
  by_cases e : k = j
  · rw [if_pos ⟨rfl, e⟩, if_pos e]
  · rw [if_neg (fun z => e z.2), if_neg e]
theorem row_pn {σ : pm_S} {P P' j : Nat} {v : Int32} (h : P' ≠ P) : (put σ P j v).1 P' = σ.1 P' := funext fun k => put_nr h
/-- goes away: fog, home, goal, price, coin -/
def aw (fg : Bool) (hm gl pr cn : Nat → Int32) (p : Nat) : Bool := !fg && (decide (gl p ≠ hm p) && decide ((pr (gl p).toInt.toNat).toInt ≤ (cn p).toInt))
theorem aw_fog (hm gl pr cn : Nat → Int32) (p : Nat) : aw true hm gl pr cn p = false := rfl
theorem aw_eq {fg : Bool} {hm gl pr cn : Nat → Int32} {p : Nat} (h : gl p = hm p) : aw fg hm gl pr cn p = false := by
  unfold aw
  rw [decide_eq_false (fun z => z h), Bool.false_and, Bool.and_false]
theorem aw_ne {hm gl pr cn : Nat → Int32} {p : Nat} (h : gl p ≠ hm p) : aw false hm gl pr cn p = decide ((pr (gl p).toInt.toNat).toInt ≤ (cn p).toInt) := by
  unfold aw
  rw [decide_eq_true h, Bool.true_and]
  rfl
/-- the miles, with those ahead of p -/
def mlS (m0 : Int32) (A : Nat → Bool) (w : Nat → Int32) : Nat → Int32
  | 0 => m0
  | p + 1 => if A p = true then mlS m0 A w p + 2 * w p else mlS m0 A w p
/-- the coins, those ahead of p gone -/
def cnS (A : Nat → Bool) (pr gl cn : Nat → Int32) (p : Nat) : Nat → Int32 := fun q => if q < p ∧ A q = true then cn q - pr (gl q).toInt.toNat else cn q
/-- where they stand, those ahead of p gone -/
def stS (A : Nat → Bool) (hm gl st : Nat → Int32) (p : Nat) : Nat → Int32 := fun q => if q < p then (if A q = true then gl q else hm q) else st q
theorem cnS_0 (A : Nat → Bool) (pr gl cn : Nat → Int32) : cnS A pr gl cn 0 = cn := funext fun q => if_neg (fun z => absurd z.1 (Nat.not_lt_zero _))
theorem stS_0 (A : Nat → Bool) (hm gl st : Nat → Int32) : stS A hm gl st 0 = st := funext fun q => if_neg (Nat.not_lt_zero _)
theorem cnS_p (A : Nat → Bool) (pr gl cn : Nat → Int32) (p : Nat) : cnS A pr gl cn p p = cn p := if_neg (fun z => absurd z.1 (Nat.lt_irrefl _))
theorem cnS_n {A : Nat → Bool} {pr gl cn : Nat → Int32} {p : Nat} (h : A p = false) : cnS A pr gl cn (p + 1) = cnS A pr gl cn p := funext fun q => by
  unfold cnS
  by_cases e : q = p
  · rw [e, if_neg (fun z => by rw [h] at z; cases z.2), if_neg (fun z => absurd z.1 (Nat.lt_irrefl _))]
  · by_cases c : q < p ∧ A q = true
    · rw [if_pos c, if_pos ⟨by omega, c.2⟩]
    · rw [if_neg c, if_neg (fun z => c ⟨by omega, z.2⟩)]
theorem cnS_y {A : Nat → Bool} {pr gl cn : Nat → Int32} {p : Nat} (h : A p = true) : cnS A pr gl cn (p + 1) = rup (cnS A pr gl cn p) p (cn p - pr (gl p).toInt.toNat) := funext fun q => by
  unfold cnS rup
  by_cases e : q = p
  · rw [e, if_pos ⟨Nat.lt_succ_self p, h⟩, if_pos rfl]
  · rw [if_neg e]
    show (if q < p + 1 ∧ A q = true then cn q - pr (gl q).toInt.toNat else cn q) = if q < p ∧ A q = true then cn q - pr (gl q).toInt.toNat else cn q
    by_cases c : q < p ∧ A q = true
    · rw [if_pos c, if_pos ⟨by omega, c.2⟩]
    · rw [if_neg c, if_neg (fun z => c ⟨by omega, z.2⟩)]
theorem stS_u (A : Nat → Bool) (hm gl st : Nat → Int32) (p : Nat) : stS A hm gl st (p + 1) = rup (stS A hm gl st p) p (if A p = true then gl p else hm p) := funext fun q => by
  unfold stS rup
  by_cases e : q = p
  · rw [e, if_pos (Nat.lt_succ_self p), if_pos rfl]
  · rw [if_neg e]
    show (if q < p + 1 then (if A q = true then gl q else hm q) else st q) = if q < p then (if A q = true then gl q else hm q) else st q
    by_cases c : q < p
    · rw [if_pos c, if_pos (by omega)]
    · rw [if_neg c, if_neg (by omega)]
theorem rup_u (f : Nat → Int32) (p : Nat) (v w : Int32) : rup (rup f p v) p w = rup f p w := funext fun q => by
  unfold rup
  by_cases e : q = p
  · rw [if_pos e, if_pos e]
  · rw [if_neg e, if_neg e, if_neg e]
