/-! way exactly; tours jointly -/
abbrev PWy (a b m S : Int) : Prop := (0 ≤ a ∧ a < S) ∧ (0 ≤ b ∧ b < S) ∧ a ≠ b ∧ (0 ≤ m ∧ m ≤ 99)
abbrev QWy (p : Nat) (F : List (Nat × Nat)) (v : Int32) (σ : pm_S) (a b m S : Int) : Option Value → pm_S → Prop := fun r τ => an_GB pm_B τ ∧ ((¬ PWy a b m S ∧ r = some (.int (Int32.ofInt 0)) ∧ FQ F σ τ) ∨ (PWy a b m S ∧ r = some (.int (Int32.ofInt 1)) ∧ FQ ((p, 9999) :: F) σ τ ∧ ∀ j, τ.1 p j = if j = (a * 10 + b).toNat ∨ j = (b * 10 + a).toNat then v else σ.1 p j))
set_option maxRecDepth 20000 in
theorem x_tellE {σ : pm_S} (a b m S : Int) (hB : an_GB pm_B σ) (ra : (-2147483648) ≤ a ∧ a ≤ 2147483647) (rb : (-2147483648) ≤ b ∧ b ≤ 2147483647) (rm : (-2147483648) ≤ m ∧ m ≤ 2147483647) (hS : 0 ≤ S ∧ S ≤ 10) (eS : (σ.1 3 0).toInt = S) : Sp 84 13 [.ref 3, .int (Int32.ofInt a), .int (Int32.ofInt b), .int (Int32.ofInt m)] σ (QWy 5 [] (Int32.ofInt m) σ a b m S) := by
  refine Sp.at rfl rfl ?_
  refine sw_0 a b m hB ⟨ra, rb, rm, trivial⟩ ?_
  intro τ y hB1 F1 _ _ _ _
  have G1 : FQ [] σ τ := F1
  have c1 : (τ.1 3 0).toInt = S := (congrArg Int32.toInt (F1 3 0 rfl)).trans eS
  refine Ok.cv rfl rfl rfl rfl rfl rfl rfl ?_
  refine (x_h82 a S hB1 ra c1).use (by decide) (fun r τ2 q => ?_)
  obtain ⟨hB2, F2, ⟨q, rfl, -⟩ | ⟨q, rfl, -⟩⟩ := q
  · refine sw_3n _ _ _ rfl rfl rfl hB2 ?_
    intro τ3 y3 hB3 F3 _ _ _ _
    exact ⟨hB3, Or.inl ⟨by omega, rfl, FQ.tr G1 (FQ.up (G := []) rfl (FQ.tr F2 F3))⟩⟩
  refine sw_3 a b m hB2 ⟨by omega, rb, rm, trivial⟩ ?_
  intro τ3 y3 hB3 F3 _ _ _ _
  have G3 : FQ [] σ τ3 := FQ.tr G1 (FQ.up (G := []) rfl (FQ.tr F2 F3))
  refine Ok.cv rfl rfl rfl rfl rfl rfl rfl ?_
  refine (x_h82 b S hB3 rb (by rw [F3 3 0 rfl, F2 3 0 rfl]; exact c1)).use (by decide) (fun r τ4 q2 => ?_)
  obtain ⟨hB4, F4, ⟨q2, rfl, -⟩ | ⟨q2, rfl, -⟩⟩ := q2
  · refine sw_7n _ _ _ rfl rfl rfl hB4 ?_
    intro τ5 y5 hB5 F5 _ _ _ _
    exact ⟨hB5, Or.inl ⟨by omega, rfl, FQ.tr G3 (FQ.up (G := []) rfl (FQ.tr F4 F5))⟩⟩
  refine sw_7 a b m hB4 ⟨by omega, by omega, rm, trivial⟩ ?_
  intro τ5 y5 hB5 F5 _ _ _ _
  have G5 : FQ [] σ τ5 := FQ.tr G3 (FQ.up (G := []) rfl (FQ.tr F4 F5))
  refine Ok.ic rfl rfl (by omega) (by omega) (by omega) (by omega) (fun z => ?_) (fun z => ?_)
  · have z : a = b := z
    refine sw_16 _ _ _ rfl rfl rfl hB5 ?_
    intro τ6 y6 hB6 F6 _ _ _ _
    exact ⟨hB6, Or.inl ⟨by omega, rfl, FQ.tr G5 (FQ.up (G := []) rfl F6)⟩⟩
  have z : a ≠ b := z
  refine sw_11 a b m hB5 ⟨by omega, by omega, rm, trivial⟩ ?_ ?_ ?_
  · intro τ6 y6 hB6 F6 f6 _ _ _
    have f2 := f6.2.2.1
    exact ⟨hB6, Or.inl ⟨by omega, rfl, FQ.tr G5 (FQ.up (G := []) rfl F6)⟩⟩
  · intro τ6 y6 hB6 F6 f6 _ d6 _
    have f2 := f6.2.2.1
    have a3 := mulC (by omega) (by omega) d6.1
    have a4 := addC (by omega) (by omega) d6.2.1
    have G6 : FQ [] σ τ6 := FQ.tr G5 (FQ.up (G := []) rfl F6)
    have x4 : y6 4 = a * 10 + b := by omega
    rw [x4]
    refine Ok.ast (n := 100) rfl rfl rfl (by decide) (by omega) (by omega) ?_
    have bd : ∀ j, (an_bd pm_B 5 j).1 ≤ ((Int32.ofInt m)).toInt ∧ ((Int32.ofInt m)).toInt ≤ (an_bd pm_B 5 j).2 := fun j => by
      show (0 : Int) ≤ ((Int32.ofInt m)).toInt ∧ ((Int32.ofInt m)).toInt ≤ 99
      rw [ti_of (by omega) (by omega)]
      omega
    have hB7 : an_GB pm_B (put τ6 5 (a * 10 + b).toNat (Int32.ofInt m)) := put_GB hB6 (bd _)
    refine sw_27 a b m hB7 ⟨by omega, by omega, by omega, trivial⟩ ?_
    intro τ8 y8 hB8 F8 f8 _ d8 _
    have e3 := mulC (by omega) (by omega) d8.1
    have e4 := addC (by omega) (by omega) d8.2.1
    have x8 : y8 4 = b * 10 + a := by omega
    rw [x8]
    refine Ok.ast (n := 100) rfl rfl rfl (by decide) (by omega) (by omega) ?_
    have hB9 : an_GB pm_B (put τ8 5 (b * 10 + a).toNat (Int32.ofInt m)) := put_GB hB8 (bd _)
    refine sw_36 _ _ _ rfl rfl rfl hB9 ?_
    intro τa ya hBa Fa _ _ _ _
    refine ⟨hBa, Or.inr ⟨⟨q, q2, z, f2⟩, rfl, FQ.tr (FQ.up (G := []) rfl G6) (FQ.tr (FQ.put rfl) (FQ.tr (FQ.up (G := []) rfl F8) (FQ.tr (FQ.put rfl) (FQ.up (G := []) rfl Fa)))), fun j => ?_⟩⟩
    rw [Fa 5 j rfl, put_get, F8 5 j rfl, put_get, G6 5 j rfl]
    by_cases e1 : j = (b * 10 + a).toNat
    · rw [if_pos ⟨rfl, e1⟩, if_pos (Or.inr e1)]
    · rw [if_neg (fun w => e1 w.2)]
      by_cases e2 : j = (a * 10 + b).toNat
      · rw [if_pos ⟨rfl, e2⟩, if_pos (Or.inl e2)]
      · rw [if_neg (fun w => e2 w.2), if_neg (fun w => w.elim e2 e1)]
  · intro τ6 y6 hB6 F6 f6 _ _ _
    have f2 := f6.2.2.1
    exact ⟨hB6, Or.inl ⟨by omega, rfl, FQ.tr G5 (FQ.up (G := []) rfl F6)⟩⟩
set_option maxRecDepth 20000 in
theorem xm_wayE {σ : pm_S} (a b m S : Int) (hB : an_GB pm_B σ) (ra : (-2147483648) ≤ a ∧ a ≤ 2147483647) (rb : (-2147483648) ≤ b ∧ b ≤ 2147483647) (rm : (-2147483648) ≤ m ∧ m ≤ 2147483647) (hS : 0 ≤ S ∧ S ≤ 10) (eS : (σ.1 93 2).toInt = S) : Sp 167 21 [.ref 93, .int (Int32.ofInt a), .int (Int32.ofInt b), .int (Int32.ofInt m)] σ (QWy 95 [(93, 0)] (Int32.ofInt (m + (-9))) σ a b m S) := by
  refine Sp.at rfl rfl ?_
  refine sw_m0 a b m S hB ⟨ra, rb, rm, hS, trivial⟩ ⟨eS, trivial⟩ ?_
  intro τ y hB1 F1 _ _ _ c
  have G1 : FQ [(93, 0)] σ τ := F1
  have c1 : (τ.1 93 2).toInt = S := c.1
  refine Ok.cv rfl rfl rfl rfl rfl rfl rfl ?_
  refine (x_h163 a S hB1 ra c1).use (by decide) (fun r τ2 q => ?_)
  obtain ⟨hB2, F2, ⟨q, rfl, -⟩ | ⟨q, rfl, -⟩⟩ := q
  · refine sw_m6n _ _ _ rfl rfl rfl hB2 ?_
    intro τ3 y3 hB3 F3 _ _ _ _
    exact ⟨hB3, Or.inl ⟨by omega, rfl, FQ.tr G1 (FQ.up (G := []) rfl (FQ.tr F2 F3))⟩⟩
  refine sw_m6 a b m hB2 ⟨by omega, rb, rm, trivial⟩ ?_
  intro τ3 y3 hB3 F3 _ _ _ _
  have G3 : FQ [(93, 0)] σ τ3 := FQ.tr G1 (FQ.up (G := []) rfl (FQ.tr F2 F3))
  refine Ok.cv rfl rfl rfl rfl rfl rfl rfl ?_
  refine (x_h163 b S hB3 rb (by rw [F3 93 2 rfl, F2 93 2 rfl]; exact c1)).use (by decide) (fun r τ4 q2 => ?_)
  obtain ⟨hB4, F4, ⟨q2, rfl, -⟩ | ⟨q2, rfl, -⟩⟩ := q2
  · refine sw_m10n _ _ _ rfl rfl rfl hB4 ?_
    intro τ5 y5 hB5 F5 _ _ _ _
    exact ⟨hB5, Or.inl ⟨by omega, rfl, FQ.tr G3 (FQ.up (G := []) rfl (FQ.tr F4 F5))⟩⟩
  refine sw_m10 a b m hB4 ⟨by omega, by omega, rm, trivial⟩ ?_
  intro τ5 y5 hB5 F5 _ _ _ _
  have G5 : FQ [(93, 0)] σ τ5 := FQ.tr G3 (FQ.up (G := []) rfl (FQ.tr F4 F5))
  refine Ok.ic rfl rfl (by omega) (by omega) (by omega) (by omega) (fun z => ?_) (fun z => ?_)
  · have z : a = b := z
    refine sw_m20 _ _ _ rfl rfl rfl hB5 ?_
    intro τ6 y6 hB6 F6 _ _ _ _
    exact ⟨hB6, Or.inl ⟨by omega, rfl, FQ.tr G5 (FQ.up (G := []) rfl F6)⟩⟩
  have z : a ≠ b := z
  refine sw_m14 a b m hB5 ⟨by omega, by omega, rm, trivial⟩ ?_ ?_ ?_
  · intro τ6 y6 hB6 F6 f6 _ _ _
    have f2 := f6.2.2.1
    exact ⟨hB6, Or.inl ⟨by omega, rfl, FQ.tr G5 (FQ.up (G := []) rfl F6)⟩⟩
  · intro τ6 y6 hB6 F6 f6 _ _ _
    have f2 := f6.2.2.1
    exact ⟨hB6, Or.inl ⟨by omega, rfl, FQ.tr G5 (FQ.up (G := []) rfl F6)⟩⟩
  · intro τ6 y6 hB6 F6 f6 _ d6 _
    have f2 := f6.2.2.1
    have a3 := mulD (by omega) (by omega) d6.1
    have a4 := addC (by omega) (by omega) d6.2.1
    have G6 : FQ [(93, 0)] σ τ6 := FQ.tr G5 (FQ.up (G := []) rfl F6)
    have x4 : y6 4 = a * 10 + b := by omega
    rw [x4]
    refine Ok.ast (n := 100) rfl rfl rfl (by decide) (by omega) (by omega) ?_
    have bd : ∀ j, (an_bd pm_B 95 j).1 ≤ ((Int32.ofInt (m + (-9)))).toInt ∧ ((Int32.ofInt (m + (-9)))).toInt ≤ (an_bd pm_B 95 j).2 := fun j => by
      show (-9 : Int) ≤ ((Int32.ofInt (m + (-9)))).toInt ∧ ((Int32.ofInt (m + (-9)))).toInt ≤ 90
      rw [ti_of (by omega) (by omega)]
      omega
    have hB7 : an_GB pm_B (put τ6 95 (a * 10 + b).toNat (Int32.ofInt (m + (-9)))) := put_GB hB6 (bd _)
    refine sw_m33 a b m hB7 ⟨by omega, by omega, by omega, trivial⟩ ?_
    intro τ8 y8 hB8 F8 f8 _ d8 _
    have e3 := mulD (by omega) (by omega) d8.1
    have e4 := addC (by omega) (by omega) d8.2.1
    have x8 : y8 4 = b * 10 + a := by omega
    rw [x8]
    refine Ok.ast (n := 100) rfl rfl rfl (by decide) (by omega) (by omega) ?_
    have hB9 : an_GB pm_B (put τ8 95 (b * 10 + a).toNat (Int32.ofInt (m + (-9)))) := put_GB hB8 (bd _)
    refine sw_m44 _ _ _ rfl rfl rfl hB9 ?_
    intro τa ya hBa Fa _ _ _ _
    refine ⟨hBa, Or.inr ⟨⟨q, q2, z, f2⟩, rfl, FQ.tr (FQ.up (G := [(93, 0)]) rfl G6) (FQ.tr (FQ.put rfl) (FQ.tr (FQ.up (G := []) rfl F8) (FQ.tr (FQ.put rfl) (FQ.up (G := []) rfl Fa)))), fun j => ?_⟩⟩
    rw [Fa 95 j rfl, put_get, F8 95 j rfl, put_get, G6 95 j rfl]
    by_cases e1 : j = (b * 10 + a).toNat
    · rw [if_pos ⟨rfl, e1⟩, if_pos (Or.inr e1)]
    · rw [if_neg (fun w => e1 w.2)]
      by_cases e2 : j = (a * 10 + b).toNat
      · rw [if_pos ⟨rfl, e2⟩, if_pos (Or.inl e2)]
      · rw [if_neg (fun w => e2 w.2), if_neg (fun w => w.elim e2 e1)]
set_option maxRecDepth 20000 in
theorem xc_wayE {σ : pm_S} (a b m S : Int) (hB : an_GB pm_B σ) (ra : (-2147483648) ≤ a ∧ a ≤ 2147483647) (rb : (-2147483648) ≤ b ∧ b ≤ 2147483647) (rm : (-2147483648) ≤ m ∧ m ≤ 2147483647) (hS : 0 ≤ S ∧ S ≤ 10) (eS : (σ.1 3 0).toInt = S) : Sp 130 21 [.ref 0, .int (Int32.ofInt a), .int (Int32.ofInt b), .int (Int32.ofInt m)] σ (QWy 5 [] (Int32.ofInt m) σ a b m S) := by
  refine Sp.at rfl rfl ?_
  refine sw_c0 a b m hB ⟨ra, rb, rm, trivial⟩ ?_
  intro τ y hB1 F1 _ _ _ _
  refine Ok.cv rfl rfl rfl rfl rfl rfl rfl ?_
  refine (x_tellE a b m S hB1 ra rb rm hS ((congrArg Int32.toInt (F1 3 0 rfl)).trans eS)).use (by decide) (fun r τ2 q => ?_)
  obtain ⟨hB2, ⟨q, rfl, F2⟩ | ⟨q, rfl, F2, q2⟩⟩ := q
  · refine sw_c7 a b m 0 hB2 ⟨ra, rb, rm, by decide, trivial⟩ ?_
    intro τ3 y3 hB3 F3 _ _ _ _
    exact ⟨hB3, Or.inl ⟨q, rfl, FQ.tr (FQ.tr F1 F2) F3⟩⟩
  · refine sw_c7 a b m 1 hB2 ⟨ra, rb, rm, by decide, trivial⟩ ?_
    intro τ3 y3 hB3 F3 _ _ _ _
    exact ⟨hB3, Or.inr ⟨q, rfl, FQ.tr (FQ.tr (FQ.up (G := []) rfl F1) F2) (FQ.up (G := []) rfl F3), fun j => by rw [F3 5 j rfl, q2 j, F1 5 j rfl]⟩⟩
def R19 : RL := fun t u => t 3 0 = u 1 ∧ ∀ a b, a < 10 → b < 10 → a ≠ b → (t 5 (a * 10 + b)).toInt = (u (12 + (a * 10 + b))).toInt + 9 ∧ u (12 + (a * 10 + b)) = u (12 + (b * 10 + a))
abbrev C19 : List (Nat × Nat) := (3, 0) :: (List.range 100).map (fun j => (5, j))
abbrev D19 : List Nat := 1 :: (List.range 100).map (fun j => 12 + j)
theorem R19.d : RD R19 C19 D19 := fun t t' u u' h1 h2 h => by
  have a1 : ∀ j, j < 100 → t' 5 j = t 5 j := fun j hj => h1 (5, j) (List.mem_cons_of_mem _ (List.mem_map.mpr ⟨j, List.mem_range.mpr hj, rfl⟩))
  have a2 : ∀ j, j < 100 → u' (12 + j) = u (12 + j) := fun j hj => h2 (12 + j) (List.mem_cons_of_mem _ (List.mem_map.mpr ⟨j, List.mem_range.mpr hj, rfl⟩))
  have a3 : t' 3 0 = t 3 0 := h1 (3, 0) List.mem_cons_self
  have a4 : u' 1 = u 1 := h2 1 List.mem_cons_self
  refine ⟨by rw [a3, a4]; exact h.1, fun a b ha hb hne => ?_⟩
  rw [a1 _ (by omega), a2 _ (by omega), a2 _ (by omega)]
  exact h.2 a b ha hb hne
theorem qs95 : ∀ j, j < 100 → qsI (12 + j) = (95, j) := by decide +kernel
theorem u95 {σ : pm_S} {j : Nat} (h : j < 100) : uS σ (12 + j) = σ.1 95 j := by
  show σ.1 (qsI (12 + j)).1 (qsI (12 + j)).2 = _
  rw [qs95 j h]
/-- the relation of the state, said of cells -/
theorem R19.s {σ : pm_S} (h : R19 (tS σ) (uS σ)) : σ.1 3 0 = σ.1 93 2 ∧ ∀ a b, a < 10 → b < 10 → a ≠ b → (σ.1 5 (a * 10 + b)).toInt = (σ.1 95 (a * 10 + b)).toInt + 9 ∧ σ.1 95 (a * 10 + b) = σ.1 95 (b * 10 + a) := ⟨h.1, fun a b ha hb hne => by
  have q := h.2 a b ha hb hne
  rw [u95 (by omega), u95 (by omega)] at q
  exact q⟩
theorem R19.m {σ : pm_S} (h : σ.1 3 0 = σ.1 93 2 ∧ ∀ a b, a < 10 → b < 10 → a ≠ b → (σ.1 5 (a * 10 + b)).toInt = (σ.1 95 (a * 10 + b)).toInt + 9 ∧ σ.1 95 (a * 10 + b) = σ.1 95 (b * 10 + a)) : R19 (tS σ) (uS σ) := ⟨h.1, fun a b ha hb hne => by
  rw [u95 (by omega), u95 (by omega)]
  exact h.2 a b ha hb hne⟩
/-- the miles between two spots -/
def Wf (σ : pm_S) (a b : Nat) : Int := if a = b ∨ 10 ≤ a ∨ 10 ≤ b then 0 else 9 + (σ.1 95 (a * 10 + b)).toInt
theorem Wf_b {σ : pm_S} (hB : an_GB pm_B σ) (a b : Nat) : 0 ≤ Wf σ a b ∧ Wf σ a b ≤ 99 := by
  unfold Wf
  split
  · decide
  · have g : (-9 : Int) ≤ (σ.1 95 (a * 10 + b)).toInt ∧ (σ.1 95 (a * 10 + b)).toInt ≤ 90 := hB 95 (a * 10 + b) (show a * 10 + b < 100 by omega)
    omega
theorem Wf_0 {σ : pm_S} (a : Nat) : Wf σ a a = 0 := if_pos (Or.inl rfl)
theorem Wf_s {σ : pm_S} (h : R19 (tS σ) (uS σ)) (a b : Nat) : Wf σ a b = Wf σ b a := by
  unfold Wf
  by_cases c : a = b ∨ 10 ≤ a ∨ 10 ≤ b
  · rw [if_pos c, if_pos (by omega)]
  · rw [if_neg c, if_neg (by omega), ((R19.s h).2 a b (by omega) (by omega) (by omega)).2]
theorem t19_tour (a1 a2 : Int32) : Two 1 true (IR R19) (IR R19) 145 225 [.int a1, .int a2] := by
  intro σ hI
  have hR := hI.2.2.2.1
  have k2 : (σ.1 3 0).toInt = cI σ 2 := congrArg Int32.toInt (R19.s hR).1
  have g2 : 0 ≤ cI σ 2 ∧ cI σ 2 ≤ 10 := hI.1 93 2 (by decide)
  rw [← oI a1, ← oI a2]
  refine (xc_tour (W := Wf σ) a1.toInt a2.toInt (cI σ 2) hI.1 (ai_rng a1) (ai_rng a2) g2 k2 (Wf_b hI.1) Wf_0 (Wf_s hR) (fun a c ha hc hne => ?_)).use (by decide) (fun r τ q => ?_)
  · have e : ((a : Int) * 10 + c).toNat = a * 10 + c := by omega
    rw [e, ((R19.s hR).2 a c (by omega) (by omega) hne).1]
    unfold Wf
    rw [if_neg (by omega)]
    omega
  · obtain ⟨hB1, F1, q⟩ := q
    have hPτ : mP τ := mP93 σ τ (fun p j hp => F1 p j (an_foot93 rfl hp)) hI.2.1
    have E1 : ER R19 τ := ER.x R19.d σ τ (KX.of (by decide +kernel) F1) hI.2.2
    have fin : ∀ (c : Int), (¬ (0 ≤ a1.toInt ∧ a1.toInt < cI σ 2 ∧ 0 ≤ a2.toInt ∧ a2.toInt < ((2 ^ (cI σ 2).toNat : Nat) : Int)) ∧ c = -1 ∨ (0 ≤ a1.toInt ∧ a1.toInt < cI σ 2 ∧ 0 ≤ a2.toInt ∧ a2.toInt < ((2 ^ (cI σ 2).toNat : Nat) : Int)) ∧ c = On (Wf σ) a1.toInt.toNat (cI σ 2).toNat (clrN a2.toInt.toNat a1.toInt.toNat) a1.toInt.toNat) → an_sh 1 (some (.int (Int32.ofInt c))) ∧ Sp 225 1200 (.ref 93 :: [.int (Int32.ofInt a1.toInt), .int (Int32.ofInt a2.toInt)]) τ (fun r2 τ2 => an_sh 1 r2 ∧ (true = true → some (Value.int (Int32.ofInt c)) = r2) ∧ IR R19 τ2) := by
      intro c hc
      refine ⟨⟨_, rfl⟩, (xm_tour (W := Wf σ) a1.toInt a2.toInt (cI σ 2) hB1 (ai_rng a1) (ai_rng a2) g2 (F1.c 2 rfl) (Wf_b hI.1) (fun a c ha hc => ?_)).use (by decide) (fun r2 τ2 p => ?_)⟩
      · rw [F1 95 _ rfl]
        unfold Wf
        by_cases e : a = c
        · rw [if_pos (Or.inl e), if_pos e]
        · rw [if_neg (by omega), if_neg e]
      · obtain ⟨hB2, F2, p⟩ := p
        have E2 : ER R19 τ2 := ER.x R19.d τ τ2 (KX.of (by decide +kernel) F2) E1
        rcases p with ⟨p, rfl⟩ | ⟨p, rfl⟩
        · rcases hc with ⟨hc, rfl⟩ | ⟨hc, rfl⟩
          · exact ⟨⟨_, rfl⟩, fun _ => rfl, hB2, mP.fr _ rfl rfl rfl rfl rfl rfl rfl rfl rfl rfl rfl rfl F2 hPτ, E2⟩
          · exact absurd hc p
        · rcases hc with ⟨hc, rfl⟩ | ⟨hc, rfl⟩
          · exact absurd p hc
          · exact ⟨⟨_, rfl⟩, fun _ => rfl, hB2, mP.fr _ rfl rfl rfl rfl rfl rfl rfl rfl rfl rfl rfl rfl F2 hPτ, E2⟩
    rcases q with ⟨q, rfl⟩ | ⟨q, rfl⟩
    · exact fin _ (Or.inl ⟨q, rfl⟩)
    · exact fin _ (Or.inr ⟨q, rfl⟩)
theorem t19_way (a1 a2 a3 : Int32) : Two 1 true (IR R19) (IR R19) 130 167 [.int a1, .int a2, .int a3] := by
  intro σ hI
  have hR := R19.s hI.2.2.2.1
  have k2 : (σ.1 3 0).toInt = cI σ 2 := congrArg Int32.toInt hR.1
  have g2 : 0 ≤ cI σ 2 ∧ cI σ 2 ≤ 10 := hI.1 93 2 (by decide)
  rw [← oI a1, ← oI a2, ← oI a3]
  refine (xc_wayE a1.toInt a2.toInt a3.toInt (cI σ 2) hI.1 (ai_rng a1) (ai_rng a2) (ai_rng a3) g2 k2).use (by decide) (fun r τ q => ?_)
  obtain ⟨hB1, q⟩ := q
  have F1 : FQ [(5, 9999)] σ τ := by
    rcases q with ⟨-, -, F⟩ | ⟨-, -, F, -⟩
    · exact FQ.up (G := []) rfl F
    · exact F
  have hPτ : mP τ := mP93 σ τ (fun p j hp => F1 p j (an_foot93 rfl hp)) hI.2.1
  rcases q with ⟨q, rfl, F0⟩ | ⟨q, rfl, -, q2⟩
  · refine ⟨⟨_, rfl⟩, (xm_wayE a1.toInt a2.toInt a3.toInt (cI σ 2) hB1 (ai_rng a1) (ai_rng a2) (ai_rng a3) g2 (F1.c 2 rfl)).use (by decide) (fun r2 τ2 p => ?_)⟩
    obtain ⟨hB2, ⟨p, rfl, F2⟩ | ⟨p, rfl, F2, p2⟩⟩ := p
    · exact ⟨⟨_, rfl⟩, fun _ => rfl, hB2, mP.fr _ rfl rfl rfl rfl rfl rfl rfl rfl rfl rfl rfl rfl F2 hPτ, ER.x R19.d τ τ2 (KX.of (by decide +kernel) F2) (ER.x R19.d σ τ (KX.of (by decide +kernel) F0) hI.2.2)⟩
    · exact absurd p q
  · refine ⟨⟨_, rfl⟩, (xm_wayE a1.toInt a2.toInt a3.toInt (cI σ 2) hB1 (ai_rng a1) (ai_rng a2) (ai_rng a3) g2 (F1.c 2 rfl)).use (by decide) (fun r2 τ2 p => ?_)⟩
    obtain ⟨hB2, ⟨p, rfl, F2⟩ | ⟨p, rfl, F2, p2⟩⟩ := p
    · exact absurd q p
    · have F2 : FQ [(95, 9999), (93, 0)] τ τ2 := F2
      have c5 : ∀ j, τ2.1 5 j = τ.1 5 j := fun j => F2 5 j rfl
      have c95 : ∀ j, τ.1 95 j = σ.1 95 j := fun j => F1 95 j rfl
      obtain ⟨qa, qb, qn, qm⟩ := q
      have ea : (Int32.ofInt a3.toInt).toInt = a3.toInt := ti_of (by omega) (by omega)
      have eb : (Int32.ofInt (a3.toInt + (-9))).toInt = a3.toInt + (-9) := ti_of (by omega) (by omega)
      refine ⟨⟨_, rfl⟩, fun _ => rfl, hB2, mP.fr _ rfl rfl rfl rfl rfl rfl rfl rfl rfl rfl rfl rfl F2 hPτ, ?_, R19.m ⟨?_, fun a b ha hb hne => ?_⟩, ?_⟩
      · rw [F2 0 2 rfl, F1 0 2 rfl, F2 93 64 rfl, F1 93 64 rfl]
        exact hI.2.2.1
      · rw [F2 3 0 rfl, F1 3 0 rfl, F2 93 2 rfl, F1 93 2 rfl]
        exact hR.1
      · rw [c5, q2, p2, p2, c95, c95]
        by_cases e : a * 10 + b = (a1.toInt * 10 + a2.toInt).toNat ∨ a * 10 + b = (a2.toInt * 10 + a1.toInt).toNat
        · rw [if_pos e, if_pos e, if_pos (by omega), ea, eb]
          exact ⟨by omega, rfl⟩
        · rw [if_neg e, if_neg e, if_neg (by omega)]
          exact hR.2 a b ha hb hne
      · refine R19.d _ _ _ _ (fun q hq => ?_) (fun i hi => ?_) hI.2.2.2.2
        · have z : q.1 + 33 ≠ 5 ∧ q.1 + 33 < 93 := (show ∀ q ∈ C19, q.1 + 33 ≠ 5 ∧ q.1 + 33 < 93 by decide +kernel) q hq
          show τ2.1 (q.1 + 33) q.2 = σ.1 (q.1 + 33) q.2
          rw [F2 _ _ (an_inP_ok (by
            show (([(95, 9999), (93, 0)] : List (Nat × Nat)).any _) = false
            rw [List.any_eq_false]
            intro w hw
            rcases List.mem_cons.mp hw with rfl | hw
            · simp only [Bool.or_eq_true, not_or]
              exact ⟨fun e => by have := Nat.eq_of_beq_eq_true e; omega, by decide⟩
            · rw [List.mem_singleton.mp hw]
              simp only [Bool.or_eq_true, not_or]
              exact ⟨fun e => by have := Nat.eq_of_beq_eq_true e; omega, by decide⟩) _), F1 _ _ (an_inP_ok (by
            show (([(5, 9999)] : List (Nat × Nat)).any _) = false
            rw [List.any_eq_false]
            intro w hw
            rw [List.mem_singleton.mp hw]
            simp only [Bool.or_eq_true, not_or]
            exact ⟨fun e => by have := Nat.eq_of_beq_eq_true e; omega, by decide⟩) _)]
        · show τ2.1 133 i = σ.1 133 i
          rw [F2 133 i rfl, F1 133 i rfl]
theorem t19_image (a1 : Int32) (hw : a1 = 0 ∨ a1 = 1) : Two 1 true (IR R19) (IR R19) 151 245 [.int a1] := tR_image R19.d (by decide +kernel) (by decide +kernel) a1 hw
theorem t19_spot (a1 : Int32) : Two 1 true (IR R19) (IR R19) 129 166 [.int a1] := by
  intro σ hI
  have hR := R19.s hI.2.2.2.1
  have e : (σ.1 3 0).toInt = cI σ 2 := congrArg Int32.toInt hR.1
  have g : 0 ≤ cI σ 2 ∧ cI σ 2 ≤ 10 := hI.1 93 2 (by decide)
  have fin : ∀ (τ τ2 : pm_S) (v n : Int), FQ [(3, 0), (4, 9999)] σ τ → FQ [(93, 0), (93, 2), (94, 9999)] τ τ2 → an_GB pm_B τ2 → (τ.1 3 0).toInt = n → (τ2.1 93 2).toInt = n → (n = cI σ 2 ∨ 1 ≤ n) → an_sh 1 (some (.int (Int32.ofInt v))) ∧ (true = true → some (Value.int (Int32.ofInt v)) = some (.int (Int32.ofInt v))) ∧ IR R19 τ2 := by
    intro τ τ2 v n hF1 hF2 hB2 c1 c2 h1
    have hPτ : mP τ := mP93 σ τ (fun p j hp => hF1 p j (an_foot93 rfl hp)) hI.2.1
    have e2 : cI τ 2 = cI σ 2 := hF1.c 2 rfl
    have e5 : cI τ2 5 = cI τ 5 := hF2.c 5 rfl
    have c2' : cI τ2 2 = n := c2
    refine ⟨⟨_, rfl⟩, fun _ => rfl, hB2, ⟨⟨pPP.fr _ rfl rfl rfl rfl rfl rfl rfl rfl hF2 hPτ.1.1, ?_⟩, mP_img (hF2.c 64 rfl) (fun i => hF2 133 i rfl) hPτ⟩, ?_, R19.m ⟨?_, fun a b ha hb hne => ?_⟩, ?_⟩
    · rcases h1 with h | h
      · unfold sPP
        rw [e5, c2', h, ← e2]
        exact hPτ.1.2
      · exact Or.inl (by omega)
    · rw [hF2 0 2 rfl, hF1 0 2 rfl, hF2 93 64 rfl, hF1 93 64 rfl]
      exact hI.2.2.1
    · refine Int32.toInt_inj.mp ?_
      rw [hF2 3 0 rfl]
      omega
    · rw [hF2 5 _ rfl, hF1 5 _ rfl, hF2 95 _ rfl, hF1 95 _ rfl, hF2 95 _ rfl, hF1 95 _ rfl]
      exact hR.2 a b ha hb hne
    · refine R19.d _ _ _ _ (fun q hq => ?_) (fun i hi => ?_) hI.2.2.2.2
      · have z : an_inP [(3, 0), (4, 9999)] (q.1 + 33) = false ∧ an_inP [(93, 0), (93, 2), (94, 9999)] (q.1 + 33) = false := (show ∀ q ∈ C19, an_inP [(3, 0), (4, 9999)] (q.1 + 33) = false ∧ an_inP [(93, 0), (93, 2), (94, 9999)] (q.1 + 33) = false by decide +kernel) q hq
        show τ2.1 (q.1 + 33) q.2 = σ.1 (q.1 + 33) q.2
        rw [hF2 _ _ (an_inP_ok z.2 _), hF1 _ _ (an_inP_ok z.1 _)]
      · show τ2.1 133 i = σ.1 133 i
        rw [hF2 133 i rfl, hF1 133 i rfl]
  refine Sp.up (D := 21) ?_ (by decide)
  refine Sp.at rfl rfl ?_
  show Ok 129 21 0 [.ref 0, .int a1] [] σ _
  rw [← oI a1]
  refine sg_csp a1.toInt (cI σ 2) hI.1 ⟨ai_rng a1, g, trivial⟩ ⟨e, trivial⟩ ?_ ?_ ?_ ?_ <;>
  · intro τ y hB1 hF1 f _ _ c
    have f1 := f.1
    have f2 := f.2.1
    refine ⟨⟨_, rfl⟩, Sp.up (D := 21) ?_ (by decide)⟩
    refine Sp.at rfl rfl ?_
    refine sg_msp a1.toInt (cI σ 2) hB1 ⟨ai_rng a1, g, trivial⟩ ⟨hF1.c 2 rfl, trivial⟩ ?_ ?_ ?_ ?_ <;>
    · intro τ2 y2 hB2 hF2 f3 _ _ c2
      have f4 := f3.1
      have f5 := f3.2.1
      first
        | (exfalso; omega)
        | exact fin τ τ2 _ _ hF1 hF2 hB2 c.1 c2.1 (by omega)
