/-! sunday, pass: the class -/
theorem inC_b {su tu ra : Int32} {hw ma co : Nat → Int32} {d : Nat} (hr : 0 ≤ ra.toInt ∧ ra.toInt ≤ 99) (h : 0 ≤ (co d).toInt ∧ (co d).toInt ≤ 99999) : 0 ≤ (inC su tu ra hw ma co d).toInt ∧ (inC su tu ra hw ma co d).toInt ≤ 99999 := by
  unfold inC
  by_cases c : hw d = 0 ∧ an_f 10 (su - ma d) tu = 0
  · rw [if_pos c]
    have b : 0 ≤ (co d).toInt * ra.toInt ∧ (co d).toInt * ra.toInt ≤ 99999 * 99 := ⟨Int.mul_nonneg h.1 hr.1, Int.mul_le_mul h.2 hr.2 hr.1 (by omega)⟩
    have m := ai_mul (x := co d) (y := ra) (by omega) (by omega)
    have e100 : (Int32.ofInt 100).toInt = 100 := rfl
    have q : (an_f 9 (co d * ra) (Int32.ofInt 100)).toInt = ((co d).toInt * ra.toInt) / 100 := by
      show ((co d * ra) / Int32.ofInt 100).toInt = _
      rw [ai_div (by rw [e100]; decide), m, e100, Int.tdiv_eq_ediv_of_nonneg b.1]
    have s : (co d + an_f 9 (co d * ra) (Int32.ofInt 100)).toInt = (co d).toInt + ((co d).toInt * ra.toInt) / 100 := by
      rw [ai_add (by rw [q]; omega) (by rw [q]; omega), q]
    refine zbB ?_
    rw [s]
    exact Int.add_nonneg h.1 (Int.ediv_nonneg b.1 (by decide))
  · rw [if_neg c]
    exact h
section SUNC
variable {D N S : Nat} {ls : List (List Int)}
/-- what stands of the class between Sundays -/
def KCs (D N S : Nat) (ls : List (List Int)) (σ : pm_S) : Prop := caH σ D N S ∧ (∀ p, p < N → sI σ 8 p < (S : Int) ∧ sI σ 11 p < (S : Int)) ∧ (∀ d, d < D → 0 ≤ sI σ 16 d ∧ sI σ 16 d ≤ 99999) ∧ (∀ l ∈ ls, lnW l) ∧ cw_R σ ls.flatten
/-- one Sunday of the class -/
def gbS (D N S : Nat) (ls : List (List Int)) (σ τ : pm_S) (q : Nat) : Prop := ∃ (τ1 τ2 τ3 : pm_S) (b : P3), soP σ τ1 N ∧ caP τ1 τ2 D S b ∧ paP τ2 τ3 D ls ∧ inP τ3 τ D ∧ q = b.2.2.2 + (pyK τ2 ls D).2.2.2
abbrev FGb : List (Nat × Nat) := [(1, 0), (1, 1), (1, 2), (1, 3), (9, 9999), (11, 9999), (12, 9999), (16, 9999), (19, 9999), (20, 9999), (31, 2), (33, 9999), (74, 5), (75, 9999), (76, 9999), (77, 9999), (78, 9999)]
theorem gbS_F {σ τ : pm_S} {q : Nat} (h : gbS D N S ls σ τ q) : FQ FGb σ τ := by
  obtain ⟨τ1, τ2, τ3, b, h1, h2, h3, h4, _⟩ := h
  exact FQ.tr (FQ.up (G := FSo) rfl h1.1) (FQ.tr (FQ.up (G := FCa) rfl h2.1) (FQ.tr (FQ.up (G := FPay) rfl h3.1) (FQ.up (G := FIn) rfl h4.1)))
theorem KCs.fq {σ τ : pm_S} (h : KCs D N S ls σ) (F : FQ [] σ τ) : KCs D N S ls τ := by
  obtain ⟨⟨a1, a2, a3, a4, a5, a6, a7, a8⟩, b, c, e, f⟩ := h
  refine ⟨⟨a1, a2, a3, (congrArg Int32.toInt (F 13 0 rfl)).trans a4, (congrArg Int32.toInt (F 7 0 rfl)).trans a5, (congrArg Int32.toInt (F 3 0 rfl)).trans a6, ?_, ?_⟩, fun p hp => ?_, fun d hd => ?_, e, f.fq (G := []) rfl F⟩
  · rw [row_fq F (P := 14) rfl, row_fq F (P := 15) rfl]
    exact a7
  · rw [row_fq F (P := 14) rfl, row_fq F (P := 15) rfl]
    exact a8
  · rw [show sI τ 8 p = sI σ 8 p from congrArg Int32.toInt (F 8 p rfl), show sI τ 11 p = sI σ 11 p from congrArg Int32.toInt (F 11 p rfl)]
    exact b p hp
  · rw [show sI τ 16 d = sI σ 16 d from congrArg Int32.toInt (F 16 d rfl)]
    exact c d hd
theorem x_gb {σ : pm_S} (K : KCs D N S ls σ) (hsu : 0 ≤ sI σ 1 1 ∧ sI σ 1 1 ≤ 9998) (hB0 : an_GB pm_B σ) : Sp 90 60 [.ref 74] σ (fun r τ => an_GB pm_B τ ∧ KCs D N S ls τ ∧ sI τ 1 1 = sI σ 1 1 + 1 ∧ ∃ q : Nat, q ≤ 330 ∧ gbS D N S ls σ τ q ∧ r = some (.int (Int32.ofInt (q : Int)))) := by
  obtain ⟨H, hh, hc, hw, hL⟩ := K
  refine (x_gbC hw H hh hc hsu hL hB0).mono (fun r τ h => ?_)
  obtain ⟨hB, τ1, τ2, τ3, b, h1, h2, t2, h3, h4, bn, e⟩ := h
  have g : gbS D N S ls σ τ (b.2.2.2 + (pyK τ2 ls D).2.2.2) := ⟨τ1, τ2, τ3, b, h1, h2, h3, h4, rfl⟩
  have F := gbS_F g
  have F123 : FQ FGb σ τ3 := FQ.tr (FQ.up (G := FSo) rfl h1.1) (FQ.tr (FQ.up (G := FCa) rfl h2.1) (FQ.up (G := FPay) rfl h3.1))
  obtain ⟨a1, a2, a3, a4, a5, a6, a7, a8⟩ := H
  have b21 : 0 ≤ sI σ 2 1 ∧ sI σ 2 1 ≤ 99 := hB0 2 1 (by decide)
  have s1 : sI τ3 1 1 = sI σ 1 1 := by
    rw [show sI τ3 1 1 = sI τ2 1 1 from congrArg Int32.toInt (h3.1 1 1 rfl), show sI τ2 1 1 = sI τ1 1 1 from congrArg Int32.toInt (h2.1 1 1 rfl)]
    exact congrArg Int32.toInt (h1.1 1 1 rfl)
  refine ⟨hB, ⟨⟨a1, a2, a3, (congrArg Int32.toInt (F 13 0 rfl)).trans a4, (congrArg Int32.toInt (F 7 0 rfl)).trans a5, (congrArg Int32.toInt (F 3 0 rfl)).trans a6, ?_, ?_⟩, fun p hp => ?_, fun d hd => ?_, hw, hL.fq (G := FGb) rfl F⟩, ?_, _, ?_, g, e⟩
  · rw [row_fq F (P := 14) rfl, row_fq F (P := 15) rfl]
    exact a7
  · rw [row_fq F (P := 14) rfl, row_fq F (P := 15) rfl]
    exact a8
  · have e8 : sI τ 8 p = sI σ 8 p := congrArg Int32.toInt (F 8 p rfl)
    have e11 : sI τ 11 p = sI σ 8 p := by
      show (τ.1 11 p).toInt = _
      rw [h4.2.2.2 p (by omega)]
      exact congrArg Int32.toInt (F123 8 p rfl)
    rw [e8, e11]
    exact ⟨(hh p hp).1, (hh p hp).1⟩
  · have c3 : 0 ≤ (τ3.1 16 d).toInt ∧ (τ3.1 16 d).toInt ≤ 99999 := by
      rw [row_fq h3.1 (P := 16) rfl, h2.2.1.1]
      exact t2 d hd
    have r3 : 0 ≤ (τ3.1 2 1).toInt ∧ (τ3.1 2 1).toInt ≤ 99 := by
      rw [F123 2 1 rfl]
      exact b21
    show 0 ≤ (τ.1 16 d).toInt ∧ (τ.1 16 d).toInt ≤ 99999
    rw [h4.2.2.1]
    unfold inS
    rw [if_pos hd]
    exact inC_b r3 c3
  · rw [h4.2.1, s1]
  · have pn : (pyK τ2 ls D).2.2.2 ≤ 0 + D := pyF_n _ _ _ _ _ _ _ D
    omega
end SUNC
