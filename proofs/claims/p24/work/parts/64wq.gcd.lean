/-! shares: Euclid on both sides -/
theorem remC {a b y : Int} (ha : 0 ≤ a ∧ a ≤ 2147483647) (hb : 1 ≤ b ∧ b ≤ 2147483647) (h : (an_f 10 (Int32.ofInt a) (Int32.ofInt b)).toInt = y) : y = ((a.toNat % b.toNat : Nat) : Int) := by
  have e1 := ti_of (z := a) (by omega) (by omega)
  have e2 := ti_of (z := b) (by omega) (by omega)
  rw [← h]
  show (Int32.ofInt a - Int32.ofInt a / Int32.ofInt b * Int32.ofInt b).toInt = _
  have q0 : 0 ≤ a / b := Int.ediv_nonneg ha.1 (by omega)
  have qm : b * (a / b) + a % b = a := Int.mul_ediv_add_emod a b
  have qr : 0 ≤ a % b ∧ a % b < b := ⟨Int.emod_nonneg _ (by omega), Int.emod_lt_of_pos _ (by omega)⟩
  have ql : a / b ≤ a := Int.ediv_le_self _ ha.1
  have ed : (Int32.ofInt a / Int32.ofInt b).toInt = a / b := by
    rw [Int32.toInt_div, e1, e2, Int.tdiv_eq_ediv_of_nonneg ha.1, Int.bmod_eq_of_le (by omega) (by omega)]
  have em : (Int32.ofInt a / Int32.ofInt b * Int32.ofInt b).toInt = b * (a / b) := by
    rw [ai_mul] <;> rw [ed, e2, Int.mul_comm] <;> omega
  rw [Int32.toInt_sub, em, e1, Int.bmod_eq_of_le (by omega) (by omega)]
  have ec : ((a.toNat % b.toNat : Nat) : Int) = a % b := by
    rw [Int.natCast_emod, nOf ha.1, nOf (by omega)]
  rw [ec]
  omega
theorem euk_0 : ∀ k a, euk k a 0 = (a, 0)
  | 0, _ => rfl
  | k + 1, a => by
    show (if 0 = 0 then (a, 0) else _) = _
    rw [if_pos rfl]
theorem euk_s {k a b : Nat} (h : b ≠ 0) : euk (k + 1) a b = euk k b (a % b) := if_neg h
set_option maxRecDepth 20000 in
theorem x_gcdC {σ : pm_S} (a b : Int) (hB : an_GB pm_B σ) (ha : 0 ≤ a ∧ a ≤ 2147483647) (hb : 0 ≤ b ∧ b ≤ 4000000) : Sp 113 9 [.int (Int32.ofInt a), .int (Int32.ofInt b)] σ (fun r τ => r = some (.int (Int32.ofInt (((euk 100 a.toNat b.toNat).1 : Nat) : Int))) ∧ an_GB pm_B τ ∧ FQ [] σ τ) := by
  refine Sp.at rfl rfl ?_
  refine sz_g0 a b _ _ _ _ rfl rfl rfl rfl hB ⟨ha, hb, trivial⟩ ?_
  intro τ0 y0 v0 hv0 hB0 F0 _ _ _ _
  refine Ok.loop (fun i L τ => 0 ≤ i ∧ i ≤ 100 ∧ (∃ (v : Value) (g l : Int), v.category = 1 ∧ (0 ≤ g ∧ g ≤ 2147483647) ∧ (0 ≤ l ∧ l ≤ 4000000) ∧ euk (100 - i).toNat g.toNat l.toNat = euk 100 a.toNat b.toNat ∧ L = [.int (Int32.ofInt a), .int (Int32.ofInt b), .int (Int32.ofInt g), .int (Int32.ofInt l), .int (Int32.ofInt i), v]) ∧ an_GB pm_B τ ∧ FQ [] σ τ) 100 (fun i L τ h => h.2.1) ?_ 0 _ τ0 ⟨by decide, by decide, ⟨v0, a, b, hv0, ha, hb, rfl, rfl⟩, hB0, F0⟩
  rintro i L τ ⟨i0, i1, ⟨v, g, l, hv, hg, hl, e, rfl⟩, hB1, F1⟩ ih
  refine sz_g6 a b g l i v hv hB1 ⟨ha, hb, hg, hl, by omega, trivial⟩ ?_ ?_ ?_
  · intro τ2 y2 hB2 F2 f _ _ _
    have f4 := f.2.2.2.2.1
    have z : (100 - i).toNat = 0 := by omega
    rw [z] at e
    refine ⟨?_, hB2, FQ.tr F1 F2⟩
    rw [← e]
    show _ = some (Value.int (Int32.ofInt ((g.toNat : Nat) : Int)))
    rw [nOf hg.1]
  · intro τ2 y2 hB2 F2 f _ _ _
    have f3 := f.2.2.2.1
    have z : l.toNat = 0 := by omega
    rw [z, euk_0] at e
    refine ⟨?_, hB2, FQ.tr F1 F2⟩
    rw [← e]
    show _ = some (Value.int (Int32.ofInt ((g.toNat : Nat) : Int)))
    rw [nOf hg.1]
  · intro τ2 y2 hB2 F2 f _ d _
    have f3 := f.2.2.2.1
    have f4 := f.2.2.2.2.1
    have y5 := remC hg (by omega) d.1
    have r5 := f.2.2.2.2.2.1
    refine ih _ τ2 ⟨by omega, by omega, ⟨_, l, y2 5, rfl, by omega, by omega, ?_, rfl⟩, hB2, FQ.tr F1 F2⟩
    have k1 : (100 - i).toNat = (100 - (i + 1)).toNat + 1 := by omega
    rw [k1, euk_s (by omega)] at e
    rw [y5, Int.toNat_natCast]
    exact e
set_option maxRecDepth 20000 in
theorem x_gcdM {σ : pm_S} {Q : Option Value → pm_S → Prop} (f m p w o n s pt : Int) (r : Nat × Nat) (hf : 0 ≤ f ∧ f ≤ 9) (hm : 0 ≤ m ∧ m ≤ 1023) (hp : 0 ≤ p ∧ p ≤ 9) (hw : 0 ≤ w ∧ w ≤ 1) (ho : 0 ≤ o ∧ o ≤ 1023) (hn : 0 ≤ n ∧ n ≤ 10) (hs : (-2000000000) ≤ s ∧ s ≤ 2000000000) (hpt : 0 ≤ pt ∧ pt ≤ 1023) (r0 : r.2 = 0)
    (ex : ∀ (τ : pm_S) (v12 : Value), v12.category = 1 → an_GB pm_B τ → FQ [] σ τ → ((r.1 : Nat) : Int) ≤ 2147483647 → Ok 229 25 128 [.ref 93, .int (Int32.ofInt f), .int (Int32.ofInt m), .int (Int32.ofInt p), .int (Int32.ofInt w), .int (Int32.ofInt o), .int (Int32.ofInt n), .int (Int32.ofInt s), .int (Int32.ofInt pt), .int (Int32.ofInt 0), .int (Int32.ofInt ((r.1 : Nat) : Int)), .int (Int32.ofInt 0), v12] [] τ Q) :
    ∀ (k : Nat) (a b : Int) (τ : pm_S) (v12 : Value), v12.category = 1 → (0 ≤ a ∧ a ≤ 2147483647) → (0 ≤ b ∧ b ≤ 4000000) → euk k a.toNat b.toNat = r → an_GB pm_B τ → FQ [] σ τ → Ok 229 25 117 [.ref 93, .int (Int32.ofInt f), .int (Int32.ofInt m), .int (Int32.ofInt p), .int (Int32.ofInt w), .int (Int32.ofInt o), .int (Int32.ofInt n), .int (Int32.ofInt s), .int (Int32.ofInt pt), .int (Int32.ofInt 0), .int (Int32.ofInt a), .int (Int32.ofInt b), v12] [] τ Q := by
  intro k
  induction k with
  | zero =>
    intro a b τ v hv ha hb e hB1 F1
    have e1 : (a.toNat, b.toNat) = r := e
    have e2 : b.toNat = 0 := by rw [← r0, ← e1]
    have e3 : b = 0 := by omega
    refine sz_m117 f m p w o n s pt 0 a b v hv hB1 ⟨hf, hm, hp, hw, ho, hn, hs, hpt, by decide, ha, hb, trivial⟩ ?_ ?_
    · intro τ2 y2 v2 hv2 hB2 F2 g _ _ _
      have h := ex τ2 v2 hv2 hB2 (FQ.tr F1 F2) (by rw [← e1]; show ((a.toNat : Nat) : Int) ≤ _; omega)
      rw [← e1] at h
      rw [show (((a.toNat, b.toNat).1 : Nat) : Int) = a from nOf ha.1] at h
      rw [e3]
      exact h
    · intro τ2 y2 hB2 F2 g _ _ _
      exfalso
      have := g.2.2.2.2.2.2.2.2.2.2.1
      omega
  | succ k ih =>
    intro a b τ v hv ha hb e hB1 F1
    refine sz_m117 f m p w o n s pt 0 a b v hv hB1 ⟨hf, hm, hp, hw, ho, hn, hs, hpt, by decide, ha, hb, trivial⟩ ?_ ?_
    · intro τ2 y2 v2 hv2 hB2 F2 g _ _ _
      have g10 := g.2.2.2.2.2.2.2.2.2.2.1
      have e3 : b = 0 := by omega
      have e1 : (a.toNat, 0) = r := by
        rw [← e, e3]
        exact (euk_0 (k + 1) a.toNat).symm
      have h := ex τ2 v2 hv2 hB2 (FQ.tr F1 F2) (by rw [← e1]; show ((a.toNat : Nat) : Int) ≤ _; omega)
      rw [← e1] at h
      rw [show (((a.toNat, 0).1 : Nat) : Int) = a from nOf ha.1] at h
      rw [e3]
      exact h
    · intro τ2 y2 hB2 F2 g _ d _
      have g10 := g.2.2.2.2.2.2.2.2.2.2.1
      have g11 := g.2.2.2.2.2.2.2.2.2.2.2.1
      have y11 := remC ha (by omega) d.1
      refine ih b (y2 11) τ2 _ rfl (by omega) (by omega) ?_ hB2 (FQ.tr F1 F2)
      rw [euk_s (by omega)] at e
      rw [y11, Int.toNat_natCast]
      exact e
