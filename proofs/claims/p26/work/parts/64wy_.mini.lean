/-! small lemmas that other parts have too (for ids that do not take those) -/
abbrev sI (σ : pm_S) (p : Nat) : Nat → Int := fun j => (σ.1 p j).toInt
theorem mulC {a c y : Int} (ha : 0 ≤ a ∧ a ≤ 1023) (hc : 0 ≤ c ∧ c ≤ 20) (h : (an_f 2 (Int32.ofInt a) (Int32.ofInt c)).toInt = y) : y = a * c := by
  have b : 0 ≤ a * c ∧ a * c ≤ 1023 * 20 := ⟨Int.mul_nonneg ha.1 hc.1, Int.mul_le_mul ha.2 hc.2 hc.1 (by omega)⟩
  rw [← h]
  show (Int32.ofInt a * Int32.ofInt c).toInt = _
  rw [ai_mul] <;> rw [ti_of (by omega) (by omega), ti_of (by omega) (by omega)] <;> omega
theorem addC {a b y : Int} (ha : (-1000000000) ≤ a ∧ a ≤ 1000000000) (hb : (-1000000000) ≤ b ∧ b ≤ 1000000000) (h : (an_f 0 (Int32.ofInt a) (Int32.ofInt b)).toInt = y) : y = a + b := by
  rw [← h, sum0 (by omega) (by omega) (by omega) (by omega) (by omega) (by omega)]
theorem subC {a b y : Int} (ha : (-1000000000) ≤ a ∧ a ≤ 1000000000) (hb : (-1000000000) ≤ b ∧ b ≤ 1000000000) (h : (an_f 1 (Int32.ofInt a) (Int32.ofInt b)).toInt = y) : y = a - b := by
  rw [← h]
  show (Int32.ofInt a - Int32.ofInt b).toInt = _
  have e1 := ti_of (z := a) (by omega) (by omega)
  have e2 := ti_of (z := b) (by omega) (by omega)
  rw [Int32.toInt_sub, e1, e2, Int.bmod_eq_of_le (by omega) (by omega)]
theorem Ok.cs {k D idx : Nat} {M : pm_M} {L st : List Value} {σ : pm_S} {Q : Option Value → pm_S → Prop} {pc ln x y : Nat} {zs : List Nat} (hM : pm_nth pm_tab k = some M) {off : Nat} (hi : pm_nth M.2.2.2.2.2 idx = some (pc, .invokestatic off, ln, x, y, zs)) {As rest : List Value} (h0 : Nat.ble 1000 x = false) (hx : Nat.ble x 255 = true) (hp : pm_pop y [] st = some (As, rest)) (hc : Nat.ble (pm_cs rest) 8 = true) (h : Sp x D As σ (fun r τ => Ok k (D + 1) (idx + 1) L (pm_rv r rest) τ Q)) : Ok k (D + 1) idx L st σ Q := by
  refine Ok.one (by rw [← pm_nth_eq]; exact hM) hi ?_
  unfold pm_go
  dsimp only
  rw [h0]
  dsimp only
  unfold pm_gcS
  rw [hx]
  dsimp only
  rw [hp]
  dsimp only
  rw [hc]
  exact h
