/-! way exactly (as in 64wg) -/
theorem mulD {a c y : Int} (ha : 0 ≤ a ∧ a ≤ 1023) (hc : 0 ≤ c ∧ c ≤ 20) (h : (an_f 2 (Int32.ofInt c) (Int32.ofInt a)).toInt = y) : y = a * c := by
  refine mulC ha hc ?_
  rw [← h]
  show (Int32.ofInt a * Int32.ofInt c).toInt = (Int32.ofInt c * Int32.ofInt a).toInt
  rw [Int32.mul_comm]
abbrev PWy (a b m S : Int) : Prop := (0 ≤ a ∧ a < S) ∧ (0 ≤ b ∧ b < S) ∧ a ≠ b ∧ (0 ≤ m ∧ m ≤ 99)
abbrev QWy (p : Nat) (F : List (Nat × Nat)) (v : Int32) (σ : pm_S) (a b m S : Int) : Option Value → pm_S → Prop := fun r τ => an_GB pm_B τ ∧ ((¬ PWy a b m S ∧ r = some (.int (Int32.ofInt 0)) ∧ FQ F σ τ) ∨ (PWy a b m S ∧ r = some (.int (Int32.ofInt 1)) ∧ FQ ((p, 9999) :: F) σ τ ∧ ∀ j, τ.1 p j = if j = (a * 10 + b).toNat ∨ j = (b * 10 + a).toNat then v else σ.1 p j))
set_option maxRecDepth 20000 in
theorem x_tellE {σ : pm_S} (a b m S : Int) (hB : an_GB pm_B σ) (ra : (-2147483648) ≤ a ∧ a ≤ 2147483647) (rb : (-2147483648) ≤ b ∧ b ≤ 2147483647) (rm : (-2147483648) ≤ m ∧ m ≤ 2147483647) (hS : 0 ≤ S ∧ S ≤ 10) (eS : (σ.1 3 0).toInt = S) : Sp 84 13 [.ref 3, .int (Int32.ofInt a), .int (Int32.ofInt b), .int (Int32.ofInt m)] σ (QWy 5 [] (Int32.ofInt m) σ a b m S) := by
  refine Sp.at rfl rfl ?_
  refine sw_0 a b m hB ⟨ra, rb, rm, trivial⟩ ?_
  intro τ y hB1 F1 _ _ _ _
  have G1 : FQ [] σ τ := F1
  have c1 : (τ.1 3 0).toInt = S := (congrArg Int32.toInt (F1 3 0 rfl)).trans eS
  refine Ok.cv rfl rfl rfl rfl rfl rfl rfl ?_
  refine (x_h82 a S hB1 ra c1).use (by decide) (fun r τ2 q => ?_)
  obtain ⟨hB2, F2, ⟨q, rfl, -⟩ | ⟨q, rfl, -⟩⟩ := q
  · refine sw_3n _ _ _ rfl rfl rfl hB2 ?_
    intro τ3 y3 hB3 F3 _ _ _ _
    exact ⟨hB3, Or.inl ⟨by omega, rfl, FQ.tr G1 (FQ.up (G := []) rfl (FQ.tr F2 F3))⟩⟩
  refine sw_3 a b m hB2 ⟨by omega, rb, rm, trivial⟩ ?_
  intro τ3 y3 hB3 F3 _ _ _ _
  have G3 : FQ [] σ τ3 := FQ.tr G1 (FQ.up (G := []) rfl (FQ.tr F2 F3))
  refine Ok.cv rfl rfl rfl rfl rfl rfl rfl ?_
  refine (x_h82 b S hB3 rb (by rw [F3 3 0 rfl, F2 3 0 rfl]; exact c1)).use (by decide) (fun r τ4 q2 => ?_)
  obtain ⟨hB4, F4, ⟨q2, rfl, -⟩ | ⟨q2, rfl, -⟩⟩ := q2
  · refine sw_7n _ _ _ rfl rfl rfl hB4 ?_
    intro τ5 y5 hB5 F5 _ _ _ _
    exact ⟨hB5, Or.inl ⟨by omega, rfl, FQ.tr G3 (FQ.up (G := []) rfl (FQ.tr F4 F5))⟩⟩
  refine sw_7 a b m hB4 ⟨by omega, by omega, rm, trivial⟩ ?_
  intro τ5 y5 hB5 F5 _ _ _ _
  have G5 : FQ [] σ τ5 := FQ.tr G3 (FQ.up (G := []) rfl (FQ.tr F4 F5))
  refine Ok.ic rfl rfl (by omega) (by omega) (by omega) (by omega) (fun z => ?_) (fun z => ?_)
  · have z : a = b := z
    refine sw_16 _ _ _ rfl rfl rfl hB5 ?_
    intro τ6 y6 hB6 F6 _ _ _ _
    exact ⟨hB6, Or.inl ⟨by omega, rfl, FQ.tr G5 (FQ.up (G := []) rfl F6)⟩⟩
  have z : a ≠ b := z
  refine sw_11 a b m hB5 ⟨by omega, by omega, rm, trivial⟩ ?_ ?_ ?_
  · intro τ6 y6 hB6 F6 f6 _ _ _
    have f2 := f6.2.2.1
    exact ⟨hB6, Or.inl ⟨by omega, rfl, FQ.tr G5 (FQ.up (G := []) rfl F6)⟩⟩
  · intro τ6 y6 hB6 F6 f6 _ d6 _
    have f2 := f6.2.2.1
    have a3 := mulC (by omega) (by omega) d6.1
    have a4 := addC (by omega) (by omega) d6.2.1
    have G6 : FQ [] σ τ6 := FQ.tr G5 (FQ.up (G := []) rfl F6)
    have x4 : y6 4 = a * 10 + b := by omega
    rw [x4]
    refine Ok.ast (n := 100) rfl rfl rfl (by decide) (by omega) (by omega) ?_
    have bd : ∀ j, (an_bd pm_B 5 j).1 ≤ ((Int32.ofInt m)).toInt ∧ ((Int32.ofInt m)).toInt ≤ (an_bd pm_B 5 j).2 := fun j => by
      show (0 : Int) ≤ ((Int32.ofInt m)).toInt ∧ ((Int32.ofInt m)).toInt ≤ 99
      rw [ti_of (by omega) (by omega)]
      omega
    have hB7 : an_GB pm_B (put τ6 5 (a * 10 + b).toNat (Int32.ofInt m)) := put_GB hB6 (bd _)
    refine sw_27 a b m hB7 ⟨by omega, by omega, by omega, trivial⟩ ?_
    intro τ8 y8 hB8 F8 f8 _ d8 _
    have e3 := mulC (by omega) (by omega) d8.1
    have e4 := addC (by omega) (by omega) d8.2.1
    have x8 : y8 4 = b * 10 + a := by omega
    rw [x8]
    refine Ok.ast (n := 100) rfl rfl rfl (by decide) (by omega) (by omega) ?_
    have hB9 : an_GB pm_B (put τ8 5 (b * 10 + a).toNat (Int32.ofInt m)) := put_GB hB8 (bd _)
    refine sw_36 _ _ _ rfl rfl rfl hB9 ?_
    intro τa ya hBa Fa _ _ _ _
    refine ⟨hBa, Or.inr ⟨⟨q, q2, z, f2⟩, rfl, FQ.tr (FQ.up (G := []) rfl G6) (FQ.tr (FQ.put rfl) (FQ.tr (FQ.up (G := []) rfl F8) (FQ.tr (FQ.put rfl) (FQ.up (G := []) rfl Fa)))), fun j => ?_⟩⟩
    rw [Fa 5 j rfl, put_get, F8 5 j rfl, put_get, G6 5 j rfl]
    by_cases e1 : j = (b * 10 + a).toNat
    · rw [if_pos ⟨rfl, e1⟩, if_pos (Or.inr e1)]
    · rw [if_neg (fun w => e1 w.2)]
      by_cases e2 : j = (a * 10 + b).toNat
      · rw [if_pos ⟨rfl, e2⟩, if_pos (Or.inl e2)]
      · rw [if_neg (fun w => e2 w.2), if_neg (fun w => w.elim e2 e1)]
  · intro τ6 y6 hB6 F6 f6 _ _ _
    have f2 := f6.2.2.1
    exact ⟨hB6, Or.inl ⟨by omega, rfl, FQ.tr G5 (FQ.up (G := []) rfl F6)⟩⟩
set_option maxRecDepth 20000 in
theorem xm_wayE {σ : pm_S} (a b m S : Int) (hB : an_GB pm_B σ) (ra : (-2147483648) ≤ a ∧ a ≤ 2147483647) (rb : (-2147483648) ≤ b ∧ b ≤ 2147483647) (rm : (-2147483648) ≤ m ∧ m ≤ 2147483647) (hS : 0 ≤ S ∧ S ≤ 10) (eS : (σ.1 93 2).toInt = S) : Sp 167 21 [.ref 93, .int (Int32.ofInt a), .int (Int32.ofInt b), .int (Int32.ofInt m)] σ (QWy 95 [(93, 0)] (Int32.ofInt (m + (-9))) σ a b m S) := by
  refine Sp.at rfl rfl ?_
  refine sw_m0 a b m S hB ⟨ra, rb, rm, hS, trivial⟩ ⟨eS, trivial⟩ ?_
  intro τ y hB1 F1 _ _ _ c
  have G1 : FQ [(93, 0)] σ τ := F1
  have c1 : (τ.1 93 2).toInt = S := c.1
  refine Ok.cv rfl rfl rfl rfl rfl rfl rfl ?_
  refine (x_h163 a S hB1 ra c1).use (by decide) (fun r τ2 q => ?_)
  obtain ⟨hB2, F2, ⟨q, rfl, -⟩ | ⟨q, rfl, -⟩⟩ := q
  · refine sw_m6n _ _ _ rfl rfl rfl hB2 ?_
    intro τ3 y3 hB3 F3 _ _ _ _
    exact ⟨hB3, Or.inl ⟨by omega, rfl, FQ.tr G1 (FQ.up (G := []) rfl (FQ.tr F2 F3))⟩⟩
  refine sw_m6 a b m hB2 ⟨by omega, rb, rm, trivial⟩ ?_
  intro τ3 y3 hB3 F3 _ _ _ _
  have G3 : FQ [(93, 0)] σ τ3 := FQ.tr G1 (FQ.up (G := []) rfl (FQ.tr F2 F3))
  refine Ok.cv rfl rfl rfl rfl rfl rfl rfl ?_
  refine (x_h163 b S hB3 rb (by rw [F3 93 2 rfl, F2 93 2 rfl]; exact c1)).use (by decide) (fun r τ4 q2 => ?_)
  obtain ⟨hB4, F4, ⟨q2, rfl, -⟩ | ⟨q2, rfl, -⟩⟩ := q2
  · refine sw_m10n _ _ _ rfl rfl rfl hB4 ?_
    intro τ5 y5 hB5 F5 _ _ _ _
    exact ⟨hB5, Or.inl ⟨by omega, rfl, FQ.tr G3 (FQ.up (G := []) rfl (FQ.tr F4 F5))⟩⟩
  refine sw_m10 a b m hB4 ⟨by omega, by omega, rm, trivial⟩ ?_
  intro τ5 y5 hB5 F5 _ _ _ _
  have G5 : FQ [(93, 0)] σ τ5 := FQ.tr G3 (FQ.up (G := []) rfl (FQ.tr F4 F5))
  refine Ok.ic rfl rfl (by omega) (by omega) (by omega) (by omega) (fun z => ?_) (fun z => ?_)
  · have z : a = b := z
    refine sw_m20 _ _ _ rfl rfl rfl hB5 ?_
    intro τ6 y6 hB6 F6 _ _ _ _
    exact ⟨hB6, Or.inl ⟨by omega, rfl, FQ.tr G5 (FQ.up (G := []) rfl F6)⟩⟩
  have z : a ≠ b := z
  refine sw_m14 a b m hB5 ⟨by omega, by omega, rm, trivial⟩ ?_ ?_ ?_
  · intro τ6 y6 hB6 F6 f6 _ _ _
    have f2 := f6.2.2.1
    exact ⟨hB6, Or.inl ⟨by omega, rfl, FQ.tr G5 (FQ.up (G := []) rfl F6)⟩⟩
  · intro τ6 y6 hB6 F6 f6 _ _ _
    have f2 := f6.2.2.1
    exact ⟨hB6, Or.inl ⟨by omega, rfl, FQ.tr G5 (FQ.up (G := []) rfl F6)⟩⟩
  · intro τ6 y6 hB6 F6 f6 _ d6 _
    have f2 := f6.2.2.1
    have a3 := mulD (by omega) (by omega) d6.1
    have a4 := addC (by omega) (by omega) d6.2.1
    have G6 : FQ [(93, 0)] σ τ6 := FQ.tr G5 (FQ.up (G := []) rfl F6)
    have x4 : y6 4 = a * 10 + b := by omega
    rw [x4]
    refine Ok.ast (n := 100) rfl rfl rfl (by decide) (by omega) (by omega) ?_
    have bd : ∀ j, (an_bd pm_B 95 j).1 ≤ ((Int32.ofInt (m + (-9)))).toInt ∧ ((Int32.ofInt (m + (-9)))).toInt ≤ (an_bd pm_B 95 j).2 := fun j => by
      show (-9 : Int) ≤ ((Int32.ofInt (m + (-9)))).toInt ∧ ((Int32.ofInt (m + (-9)))).toInt ≤ 90
      rw [ti_of (by omega) (by omega)]
      omega
    have hB7 : an_GB pm_B (put τ6 95 (a * 10 + b).toNat (Int32.ofInt (m + (-9)))) := put_GB hB6 (bd _)
    refine sw_m33 a b m hB7 ⟨by omega, by omega, by omega, trivial⟩ ?_
    intro τ8 y8 hB8 F8 f8 _ d8 _
    have e3 := mulD (by omega) (by omega) d8.1
    have e4 := addC (by omega) (by omega) d8.2.1
    have x8 : y8 4 = b * 10 + a := by omega
    rw [x8]
    refine Ok.ast (n := 100) rfl rfl rfl (by decide) (by omega) (by omega) ?_
    have hB9 : an_GB pm_B (put τ8 95 (b * 10 + a).toNat (Int32.ofInt (m + (-9)))) := put_GB hB8 (bd _)
    refine sw_m44 _ _ _ rfl rfl rfl hB9 ?_
    intro τa ya hBa Fa _ _ _ _
    refine ⟨hBa, Or.inr ⟨⟨q, q2, z, f2⟩, rfl, FQ.tr (FQ.up (G := [(93, 0)]) rfl G6) (FQ.tr (FQ.put rfl) (FQ.tr (FQ.up (G := []) rfl F8) (FQ.tr (FQ.put rfl) (FQ.up (G := []) rfl Fa)))), fun j => ?_⟩⟩
    rw [Fa 95 j rfl, put_get, F8 95 j rfl, put_get, G6 95 j rfl]
    by_cases e1 : j = (b * 10 + a).toNat
    · rw [if_pos ⟨rfl, e1⟩, if_pos (Or.inr e1)]
    · rw [if_neg (fun w => e1 w.2)]
      by_cases e2 : j = (a * 10 + b).toNat
      · rw [if_pos ⟨rfl, e2⟩, if_pos (Or.inl e2)]
      · rw [if_neg (fun w => e2 w.2), if_neg (fun w => w.elim e2 e1)]
set_option maxRecDepth 20000 in
theorem xc_wayE {σ : pm_S} (a b m S : Int) (hB : an_GB pm_B σ) (ra : (-2147483648) ≤ a ∧ a ≤ 2147483647) (rb : (-2147483648) ≤ b ∧ b ≤ 2147483647) (rm : (-2147483648) ≤ m ∧ m ≤ 2147483647) (hS : 0 ≤ S ∧ S ≤ 10) (eS : (σ.1 3 0).toInt = S) : Sp 130 21 [.ref 0, .int (Int32.ofInt a), .int (Int32.ofInt b), .int (Int32.ofInt m)] σ (QWy 5 [] (Int32.ofInt m) σ a b m S) := by
  refine Sp.at rfl rfl ?_
  refine sw_c0 a b m hB ⟨ra, rb, rm, trivial⟩ ?_
  intro τ y hB1 F1 _ _ _ _
  refine Ok.cv rfl rfl rfl rfl rfl rfl rfl ?_
  refine (x_tellE a b m S hB1 ra rb rm hS ((congrArg Int32.toInt (F1 3 0 rfl)).trans eS)).use (by decide) (fun r τ2 q => ?_)
  obtain ⟨hB2, ⟨q, rfl, F2⟩ | ⟨q, rfl, F2, q2⟩⟩ := q
  · refine sw_c7 a b m 0 hB2 ⟨ra, rb, rm, by decide, trivial⟩ ?_
    intro τ3 y3 hB3 F3 _ _ _ _
    exact ⟨hB3, Or.inl ⟨q, rfl, FQ.tr (FQ.tr F1 F2) F3⟩⟩
  · refine sw_c7 a b m 1 hB2 ⟨ra, rb, rm, by decide, trivial⟩ ?_
    intro τ3 y3 hB3 F3 _ _ _ _
    exact ⟨hB3, Or.inr ⟨q, rfl, FQ.tr (FQ.tr (FQ.up (G := []) rfl F1) F2) (FQ.up (G := []) rfl F3), fun j => by rw [F3 5 j rfl, q2 j, F1 5 j rfl]⟩⟩
