/-! who goes where, the class: fog -/
/-- the state behind a draw, and what is drawn of 100 -/
def dwN (s : Int32) : Int32 := an_f 0 (an_f 2 (Int32.ofInt 1664525) s) (Int32.ofInt 1013904223)
def dwV (s : Int32) : Int32 := an_f 10 (an_f 8 (dwN s) (Int32.ofInt 8)) (Int32.ofInt 100)
/-- whether there is fog -/
def fogB (f s : Int32) : Bool := decide (0 < f.toInt) && decide ((dwV s).toInt < f.toInt)
def fogS (f s : Int32) : Int32 := if 0 < f.toInt then dwN s else s
theorem fogB_n {f s : Int32} (h : ¬ 0 < f.toInt) : fogB f s = false := by
  unfold fogB
  rw [decide_eq_false h, Bool.false_and]
theorem fogB_l {f s : Int32} {y : Int} (e : Int32.ofInt y = dwV s) (hy : (-2147483648) ≤ y ∧ y ≤ 2147483647) (h : f.toInt ≤ y) : fogB f s = false := by
  have w : ¬ (dwV s).toInt < f.toInt := by
    rw [← e, ti_of hy.1 hy.2]
    exact Int.not_lt.mpr h
  unfold fogB
  rw [decide_eq_false w, Bool.and_false]
theorem fogB_y {f s : Int32} {y : Int} (e : Int32.ofInt y = dwV s) (hy : (-2147483648) ≤ y ∧ y ≤ 2147483647) (h0 : 0 < f.toInt) (h : y < f.toInt) : fogB f s = true := by
  have w : (dwV s).toInt < f.toInt := by
    rw [← e, ti_of hy.1 hy.2]
    exact h
  unfold fogB
  rw [decide_eq_true h0, decide_eq_true w]
  rfl
abbrev FSo : List (Nat × Nat) := [(1, 0), (1, 2), (1, 3), (9, 9999), (12, 9999)]
set_option maxRecDepth 20000 in
theorem x_sot {σ : pm_S} {N S : Nat} (hN : N ≤ 10) (hS : S ≤ 10) (eN : sI σ 7 0 = (N : Int)) (eS : sI σ 3 0 = (S : Int)) (hh : ∀ p, p < N → sI σ 8 p < (S : Int) ∧ sI σ 11 p < (S : Int)) (hB : an_GB pm_B σ) : Sp 91 10 [.ref 74] σ (fun r τ => r = none ∧ an_GB pm_B τ ∧ FQ FSo σ τ ∧ τ.1 1 0 = fogS (σ.1 2 0) (σ.1 1 0) ∧ sI τ 1 3 = (if fogB (σ.1 2 0) (σ.1 1 0) = true then 1 else 0) ∧ τ.1 9 = cnS (awC σ (fogB (σ.1 2 0) (σ.1 1 0))) (σ.1 4) (σ.1 11) (σ.1 9) N ∧ τ.1 12 = stS (awC σ (fogB (σ.1 2 0) (σ.1 1 0))) (σ.1 8) (σ.1 11) (σ.1 12) N ∧ τ.1 1 2 = mlS (σ.1 1 2) (awC σ (fogB (σ.1 2 0) (σ.1 1 0))) (wC σ) N) := by
  have bf : 0 ≤ sI σ 2 0 ∧ sI σ 2 0 ≤ 100 := hB 2 0 (by decide)
  refine Sp.at rfl rfl ?_
  -- behind the fog
  have rest : ∀ (τ : pm_S) (u : Value), u.category = 1 → an_GB pm_B τ → FQ [(1, 0), (1, 3)] σ τ → τ.1 1 0 = fogS (σ.1 2 0) (σ.1 1 0) → sI τ 1 3 = (if fogB (σ.1 2 0) (σ.1 1 0) = true then 1 else 0) → Ok 91 10 22 [.ref 74, u, .int (Int32.ofInt 0)] [] τ (fun r τ => r = none ∧ an_GB pm_B τ ∧ FQ FSo σ τ ∧ τ.1 1 0 = fogS (σ.1 2 0) (σ.1 1 0) ∧ sI τ 1 3 = (if fogB (σ.1 2 0) (σ.1 1 0) = true then 1 else 0) ∧ τ.1 9 = cnS (awC σ (fogB (σ.1 2 0) (σ.1 1 0))) (σ.1 4) (σ.1 11) (σ.1 9) N ∧ τ.1 12 = stS (awC σ (fogB (σ.1 2 0) (σ.1 1 0))) (σ.1 8) (σ.1 11) (σ.1 12) N ∧ τ.1 1 2 = mlS (σ.1 1 2) (awC σ (fogB (σ.1 2 0) (σ.1 1 0))) (wC σ) N) := by
    intro τ u hu hB' F e0 e3
    have s4 : τ.1 4 = σ.1 4 := row_fq F rfl
    have s8 : τ.1 8 = σ.1 8 := row_fq F rfl
    have s9 : τ.1 9 = σ.1 9 := row_fq F rfl
    have s11 : τ.1 11 = σ.1 11 := row_fq F rfl
    have s12 : τ.1 12 = σ.1 12 := row_fq F rfl
    have s5 : τ.1 5 = σ.1 5 := row_fq F rfl
    have s2 : τ.1 1 2 = σ.1 1 2 := F 1 2 rfl
    have ea : awC τ (fogB (σ.1 2 0) (σ.1 1 0)) = awC σ (fogB (σ.1 2 0) (σ.1 1 0)) := by
      unfold awC
      rw [s4, s8, s9, s11]
    have ew : wC τ = wC σ := funext fun p => by
      show τ.1 5 ((τ.1 8 p).toInt.toNat * 10 + (τ.1 11 p).toInt.toNat) = σ.1 5 ((σ.1 8 p).toInt.toNat * 10 + (σ.1 11 p).toInt.toNat)
      rw [s5, s8, s11]
    refine x_sol (σ := τ) (fg := fogB (σ.1 2 0) (σ.1 1 0)) (N := N) (S := S) hN hS ((congrArg Int32.toInt (F 7 0 rfl)).trans eN) ((congrArg Int32.toInt (F 3 0 rfl)).trans eS) e3 (fun p hp => by
      rw [show sI τ 8 p = sI σ 8 p from congrArg Int32.toInt (F 8 p rfl), show sI τ 11 p = sI σ 11 p from congrArg Int32.toInt (F 11 p rfl)]
      exact hh p hp) (fun τ' hB2 F2 a b c => ?_) N 0 τ u (Nat.zero_add _) hu hB' (fun _ _ _ => rfl) (cnS_0 _ _ _ _).symm (stS_0 _ _ _ _).symm rfl
    rw [ea, s4, s11, s9] at a
    rw [ea, s8, s11, s12] at b
    rw [ea, ew, s2] at c
    exact ⟨rfl, hB2, FQ.tr (FQ.up (G := [(1, 0), (1, 3)]) rfl F) (FQ.up (G := FSa) rfl F2), (F2 1 0 rfl).trans e0, (congrArg Int32.toInt (F2 1 3 rfl)).trans e3, a, b, c⟩
  refine pf_o0 (sI σ 2 0) (sI σ 1 0) _ _ rfl rfl hB ⟨bf, ai_rng _, trivial⟩ ⟨rfl, rfl, trivial⟩ ?_ ?_
  · intro τ1 y1 hB1 F1 f _ _ c
    have f1 := f.1
    have nf : ¬ 0 < (σ.1 2 0).toInt := fun z => by
      have z : 0 < sI σ 2 0 := z
      omega
    refine rest τ1 _ rfl hB1 F1 ?_ ?_
    · have e : fogS (σ.1 2 0) (σ.1 1 0) = σ.1 1 0 := if_neg nf
      rw [e]
      exact Int32.toInt_inj.mp c.1
    · have e : fogB (σ.1 2 0) (σ.1 1 0) = false := fogB_n nf
      rw [e]
      exact c.2.1
  · intro τ1 y1 v2 k2 hB1 F1 f _ d c
    have f1 := f.1
    have yf : 0 < (σ.1 2 0).toInt := by
      show 0 < sI σ 2 0
      omega
    have e3 : Int32.ofInt (y1 3) = dwN (σ.1 1 0) := by
      rw [← d.2.1, oI, ← d.1, oI, oI]
      rfl
    have e5 : Int32.ofInt (y1 5) = dwV (σ.1 1 0) := by
      rw [← d.2.2.2.1, oI, ← d.2.2.1, oI, e3]
      rfl
    have s0 : τ1.1 1 0 = fogS (σ.1 2 0) (σ.1 1 0) := by
      have e : fogS (σ.1 2 0) (σ.1 1 0) = dwN (σ.1 1 0) := if_pos yf
      rw [e, ← e3, ← c.1, oI]
    have r5 : (-2147483648) ≤ y1 5 ∧ y1 5 ≤ 2147483647 := by
      rw [← d.2.2.2.1]
      exact ai_rng _
    refine Ok.ic rfl rfl (by omega) (by omega) (by omega) (by omega) (fun g => ?_) (fun g => ?_)
    · have g : sI σ 2 0 ≤ y1 5 := g
      refine pf_o18 (sI σ 2 0) v2 k2 hB1 ⟨by omega, trivial⟩ ?_
      intro τ2 y2 hB2 F2 _ _ _ c2
      refine rest τ2 _ rfl hB2 (FQ.tr F1 (FQ.up (G := [(1, 3)]) rfl F2)) ((F2 1 0 rfl).trans s0) ?_
      have e : fogB (σ.1 2 0) (σ.1 1 0) = false := fogB_l e5 r5 g
      rw [e]
      exact c2.1
    · have g : y1 5 < sI σ 2 0 := g
      refine pf_o16 (sI σ 2 0) v2 k2 hB1 ⟨by omega, trivial⟩ ?_
      intro τ2 y2 hB2 F2 _ _ _ c2
      refine rest τ2 _ rfl hB2 (FQ.tr F1 (FQ.up (G := [(1, 3)]) rfl F2)) ((F2 1 0 rfl).trans s0) ?_
      have e : fogB (σ.1 2 0) (σ.1 1 0) = true := fogB_y e5 r5 yf g
      rw [e]
      exact c2.1
