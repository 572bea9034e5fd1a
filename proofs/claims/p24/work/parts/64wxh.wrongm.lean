/-! wrong: the model's side -/
theorem divC {a b y : Int} (ha : 0 ≤ a ∧ a ≤ 2147483647) (hb : 1 ≤ b ∧ b ≤ 2147483647) (h : (an_f 9 (Int32.ofInt a) (Int32.ofInt b)).toInt = y) : y = ((a.toNat / b.toNat : Nat) : Int) := by
  have e1 := ti_of (z := a) (by omega) (by omega)
  have e2 := ti_of (z := b) (by omega) (by omega)
  rw [← h]
  show (Int32.ofInt a / Int32.ofInt b).toInt = _
  have q0 : 0 ≤ a / b := Int.ediv_nonneg ha.1 (by omega)
  have ql : a / b ≤ a := Int.ediv_le_self _ ha.1
  rw [Int32.toInt_div, e1, e2, Int.tdiv_eq_ediv_of_nonneg ha.1, Int.bmod_eq_of_le (by omega) (by omega), Int.natCast_ediv, nOf ha.1, nOf (by omega)]
theorem mulE {a c y : Int} (ha : 0 ≤ a ∧ a ≤ 10000) (hc : 0 ≤ c ∧ c ≤ 10) (h : (an_f 2 (Int32.ofInt a) (Int32.ofInt c)).toInt = y) : y = a * c := by
  have e1 := ti_of (z := a) (by omega) (by omega)
  have e2 := ti_of (z := c) (by omega) (by omega)
  have m : 0 ≤ a * c ∧ a * c ≤ 100000 := by
    have := Int.mul_le_mul ha.2 hc.2 hc.1 (by decide)
    exact ⟨Int.mul_nonneg ha.1 hc.1, by omega⟩
  rw [← h]
  show (Int32.ofInt a * Int32.ofInt c).toInt = _
  rw [ai_mul] <;> rw [e1, e2] <;> omega
section WRM
variable {dy wh ot pl : Nat → Int} {D : Int}
abbrev wr_RM (σ : pm_S) (dy wh ot pl : Nat → Int) : Prop := ∀ l, l < 30 → sI σ 109 l = dy l ∧ sI σ 110 l = wh l ∧ sI σ 111 l = ot l ∧ sI σ 112 l = pl l
theorem wr_RM.fq {σ τ : pm_S} (h : wr_RM σ dy wh ot pl) {G : List (Nat × Nat)} (hG : (an_inP G 109 || an_inP G 110 || an_inP G 111 || an_inP G 112) = false) (F : FQ G σ τ) : wr_RM τ dy wh ot pl := fun l hl => by
  rw [Bool.or_eq_false_iff, Bool.or_eq_false_iff, Bool.or_eq_false_iff] at hG
  obtain ⟨a, b, c, d⟩ := h l hl
  exact ⟨(congrArg Int32.toInt (F 109 l (an_inP_ok hG.1.1.1 l))).trans a, (congrArg Int32.toInt (F 110 l (an_inP_ok hG.1.1.2 l))).trans b, (congrArg Int32.toInt (F 111 l (an_inP_ok hG.1.2 l))).trans c, (congrArg Int32.toInt (F 112 l (an_inP_ok hG.2 l))).trans d⟩
/-- a line is wrong with all at given spots -/
abbrev wr_bad (dy wh ot pl : Nat → Int) (D : Int) (g : Nat → Int) (l : Nat) : Bool := decide (dy l = D) && !(if ot l = -1 then decide (g (wh l).toNat = pl l) else decide (g (wh l).toNat = g (ot l).toNat))
def wr_cm (dy wh ot pl : Nat → Int) (D : Int) (g : Nat → Int) (N : Nat) : Int := wr_s (fun l => wr_b (wr_bad dy wh ot pl D g l)) N
theorem wr_cm_cg {g g' : Nat → Int} {N : Nat} (h : ∀ p, Nat.testBit (wr_set dy wh ot D N) p = true → g' p = g p) : wr_cm dy wh ot pl D g' N = wr_cm dy wh ot pl D g N := wr_s_cg (fun l hl => by
  unfold wr_bad
  by_cases e : dy l = D
  · have hin := wr_set_in (dy := dy) (wh := wh) (ot := ot) (D := D) hl e
    by_cases o : ot l = -1
    · rw [if_pos o, if_pos o, h _ hin.1]
    · rw [if_neg o, if_neg o, h _ hin.1, h _ (hin.2 o)]
  · rw [decide_eq_false e, Bool.false_and, Bool.false_and])
theorem wr_cm_b {g : Nat → Int} {N : Nat} : 0 ≤ wr_cm dy wh ot pl D g N ∧ wr_cm dy wh ot pl D g N ≤ N := ⟨wr_s_0 (fun _ _ => (wr_b_r _).1), wr_s_n (fun _ _ => (wr_b_r _).2)⟩
set_option maxRecDepth 20000 in
theorem x_ww24 {σ : pm_S} (N : Nat) (S P : Int) (hB : an_GB pm_B σ) (hD : 0 ≤ D ∧ D ≤ 9999) (hN : N ≤ 30) (hP : P ≤ 10) (eN : (σ.1 93 23).toInt = N) (hR : wr_RM σ dy wh ot pl) (hL : wr_L dy wh ot pl N S P) : Sp 240 15 [.ref 93, .int (Int32.ofInt D)] σ (fun r τ => r = some (.int (Int32.ofInt (wr_cm dy wh ot pl D (sI σ 132) N))) ∧ an_GB pm_B τ ∧ FQ [] σ τ) := by
  refine Sp.at rfl rfl ?_
  refine wzwq_0 D _ _ _ rfl rfl rfl hB ⟨hD, trivial⟩ ?_
  intro τ0 y0 v0 k0 hB0 F0 _ _ _ _
  refine Ok.loop (fun i L τ => 0 ≤ i ∧ i ≤ N ∧ an_GB pm_B τ ∧ FQ [] σ τ ∧ ∃ v4 : Value, v4.category = 1 ∧ L = [.ref 93, .int (Int32.ofInt D), .int (Int32.ofInt (wr_cm dy wh ot pl D (sI σ 132) i.toNat)), .int (Int32.ofInt i), v4]) N (fun i L τ h => h.2.1) ?_ 0 _ τ0 ⟨by decide, by omega, hB0, F0, v0, k0, rfl⟩
  rintro i L τ ⟨i0, i1, hB1, F1, v4, k4, rfl⟩ ih
  have b1 := wr_cm_b (dy := dy) (wh := wh) (ot := ot) (pl := pl) (D := D) (g := sI σ 132) (N := i.toNat)
  generalize eC : wr_cm dy wh ot pl D (sI σ 132) i.toNat = cc at b1 ⊢
  refine wzwq_4 D cc i N v4 k4 hB1 ⟨hD, by omega, by omega, by omega, trivial⟩ ⟨(congrArg Int32.toInt (F1 93 23 rfl)).trans eN, trivial⟩ ?_
  intro τ2 y2 v5 k5 hB2 F2 _ _ _ _
  have G2 : FQ [] σ τ2 := FQ.tr F1 F2
  refine Ok.ic rfl rfl (by omega) (by omega) (by omega) (by omega) (fun z => ?_) (fun z => ?_)
  · have z : (N : Int) ≤ i := z
    have e : i.toNat = N := by omega
    refine wzwq_64 D cc i v5 k5 hB2 ⟨hD, by omega, by omega, trivial⟩ ?_
    intro τ3 y3 hB3 F3 _ _ _ _
    exact ⟨by rw [← e, eC], hB3, FQ.tr G2 F3⟩
  · have z : i < N := z
    have hi30 : i.toNat < 30 := by omega
    have e1 : (i + 1).toNat = i.toNat + 1 := by omega
    have hl := hL i.toNat (by omega)
    have sC : ∀ b, wr_bad dy wh ot pl D (sI σ 132) i.toNat = b → wr_cm dy wh ot pl D (sI σ 132) (i + 1).toNat = cc + wr_b b := fun b hb => by
      rw [e1, ← hb, ← eC]
      rfl
    refine wzwq_8 D cc i v5 k5 hB2 ⟨hD, by omega, by omega, trivial⟩ ?_
    intro τ3 y3 v6 k6 hB3 F3 f3 _ _ c3
    have G3 : FQ [] σ τ3 := FQ.tr G2 F3
    have R3 := hR.fq (G := []) rfl G3 i.toNat hi30
    have d3 : y3 3 = dy i.toNat := by
      rw [← c3.1]
      exact R3.1
    have g3 := f3.2.2.2.1
    refine Ok.ic rfl rfl (by omega) (by omega) (by omega) (by omega) (fun z2 => ?_) (fun z2 => ?_)
    · have z2 : y3 3 = D := z2
      have dD : dy i.toNat = D := by rw [← d3]; exact z2
      have q132 : ∀ (τ' : pm_S), FQ [] τ3 τ' → ∀ p, (τ'.1 132 p).toInt = sI σ 132 p := fun τ' F p => congrArg Int32.toInt ((F 132 p rfl).trans (G3 132 p rfl))
      refine wzwq_15 D cc i v6 k6 hB3 ⟨hD, by omega, by omega, trivial⟩ ?_ ?_
      · intro τ4 y4 v7 k7 hB4 F4 f4 _ _ c4
        have G4 : FQ [] σ τ4 := FQ.tr G3 F4
        have R4 := hR.fq (G := []) rfl G4 i.toNat hi30
        have g3' := f4.2.2.2.1
        have g5 := f4.2.2.2.2.2.1
        have g6 := f4.2.2.2.2.2.2.1
        have w4 : y4 4 = wh i.toNat := by rw [← c4.1]; exact R4.2.1
        have o4 : y4 3 = ot i.toNat := by rw [← c4.2.1]; exact R4.2.2.1
        have s6 : y4 6 = sI σ 132 (ot i.toNat).toNat := by rw [← c4.2.2.1, q132 τ4 F4, o4]
        have s5 : y4 5 = sI σ 132 (wh i.toNat).toNat := by rw [← c4.2.2.2.1, q132 τ4 F4, w4]
        have ho : ot i.toNat ≠ -1 := by omega
        refine Ok.ic rfl rfl (by omega) (by omega) (by omega) (by omega) (fun z3 => ?_) (fun z3 => ?_)
        · have z3 : y4 5 ≠ y4 6 := z3
          refine wzwq_54 D cc i v7 k7 hB4 ⟨hD, by omega, by omega, trivial⟩ ?_
          intro τ5 y5 hB5 F5 _ _ _ _
          refine ih _ τ5 ⟨by omega, by omega, hB5, FQ.tr G4 F5, .int (Int32.ofInt 0), rfl, ?_⟩
          rw [sC true (by
            unfold wr_bad
            rw [decide_eq_true dD, if_neg ho, decide_eq_false (by rw [← s5, ← s6]; exact z3)]
            rfl)]
          rfl
        · have z3 : y4 5 = y4 6 := z3
          refine wzwq_52 D cc i v7 k7 hB4 ⟨hD, by omega, by omega, trivial⟩ ?_
          intro τ5 y5 hB5 F5 _ _ _ _
          refine ih _ τ5 ⟨by omega, by omega, hB5, FQ.tr G4 F5, .int (Int32.ofInt 1), rfl, ?_⟩
          rw [sC false (by
            unfold wr_bad
            rw [decide_eq_true dD, if_neg ho, decide_eq_true (by rw [← s5, ← s6]; exact z3)]
            rfl), show cc + wr_b false = cc from Int.add_zero cc]
      · intro τ4 y4 v7 k7 hB4 F4 f4 _ _ c4
        have G4 : FQ [] σ τ4 := FQ.tr G3 F4
        have R4 := hR.fq (G := []) rfl G4 i.toNat hi30
        have g3' := f4.2.2.2.1
        have g5 := f4.2.2.2.2.2.1
        have g6 := f4.2.2.2.2.2.2.1
        have w4 : y4 4 = wh i.toNat := by rw [← c4.1]; exact R4.2.1
        have o4 : y4 3 = ot i.toNat := by rw [← c4.2.1]; exact R4.2.2.1
        have s6 : y4 6 = pl i.toNat := by rw [← c4.2.2.1]; exact R4.2.2.2
        have s5 : y4 5 = sI σ 132 (wh i.toNat).toNat := by rw [← c4.2.2.2.1, q132 τ4 F4, w4]
        have ho : ot i.toNat = -1 := by omega
        refine Ok.ic rfl rfl (by omega) (by omega) (by omega) (by omega) (fun z3 => ?_) (fun z3 => ?_)
        · have z3 : y4 5 ≠ y4 6 := z3
          refine wzwq_35 D cc i v7 k7 hB4 ⟨hD, by omega, by omega, trivial⟩ ?_
          intro τ5 y5 hB5 F5 _ _ _ _
          refine ih _ τ5 ⟨by omega, by omega, hB5, FQ.tr G4 F5, .int (Int32.ofInt 0), rfl, ?_⟩
          rw [sC true (by
            unfold wr_bad
            rw [decide_eq_true dD, if_pos ho, decide_eq_false (by rw [← s5, ← s6]; exact z3)]
            rfl)]
          rfl
        · have z3 : y4 5 = y4 6 := z3
          refine wzwq_33 D cc i v7 k7 hB4 ⟨hD, by omega, by omega, trivial⟩ ?_
          intro τ5 y5 hB5 F5 _ _ _ _
          refine ih _ τ5 ⟨by omega, by omega, hB5, FQ.tr G4 F5, .int (Int32.ofInt 1), rfl, ?_⟩
          rw [sC false (by
            unfold wr_bad
            rw [decide_eq_true dD, if_pos ho, decide_eq_true (by rw [← s5, ← s6]; exact z3)]
            rfl), show cc + wr_b false = cc from Int.add_zero cc]
    · have z2 : y3 3 ≠ D := z2
      refine wzwq_62 D cc i v6 k6 hB3 ⟨hD, by omega, by omega, trivial⟩ ?_
      intro τ5 y5 v7 k7 hB5 F5 _ _ _ _
      refine ih _ τ5 ⟨by omega, by omega, hB5, FQ.tr G3 F5, v7, k7, ?_⟩
      rw [sC false (by
        unfold wr_bad
        rw [decide_eq_false (by rw [← d3]; exact z2), Bool.false_and]), show cc + wr_b false = cc from Int.add_zero cc]
/-- a way as digits -/
def wr_v (set S way : Nat) : Nat → Nat
  | 0 => way
  | p + 1 => if Nat.testBit set p = true then wr_v set S way p / S else wr_v set S way p
abbrev wr_dg (set S way p : Nat) : Int := ((wr_v set S way p % S : Nat) : Int)
theorem wr_v_le {set S way : Nat} : ∀ p, wr_v set S way p ≤ way
  | 0 => Nat.le_refl _
  | p + 1 => by
    have ih := wr_v_le (set := set) (S := S) (way := way) p
    unfold wr_v
    split
    · exact Nat.le_trans (Nat.div_le_self _ _) ih
    · exact ih
/-- what the model answers -/
abbrev wr_PM (dy wh ot pl : Nat → Int) (D : Int) (S N : Nat) (m : Int) : Prop := (∀ w, w < S ^ pcn 10 (wr_set dy wh ot D N) → m ≤ wr_cm dy wh ot pl D (wr_dg (wr_set dy wh ot D N) S w) N) ∧ ∃ w, w < S ^ pcn 10 (wr_set dy wh ot D N) ∧ m = wr_cm dy wh ot pl D (wr_dg (wr_set dy wh ot D N) S w) N
abbrev wr_FM : List (Nat × Nat) := [(93, 0), (132, 9999)]
theorem wr_pow {S j k : Nat} (hS : S ≤ 10) (hj : j ≤ k) (hk : k ≤ 5) : S ^ j ≤ 100000 := by
  have a : S ^ j ≤ 10 ^ j := Nat.pow_le_pow_left hS j
  have b : 10 ^ j ≤ 10 ^ 5 := Nat.pow_le_pow_right (by decide) (by omega)
  omega
theorem wr_pow4 {S j : Nat} (hS : S ≤ 10) (hj : j ≤ 4) : S ^ j ≤ 10000 := by
  have a : S ^ j ≤ 10 ^ j := Nat.pow_le_pow_left hS j
  have b : 10 ^ j ≤ 10 ^ 4 := Nat.pow_le_pow_right (by decide) hj
  omega
set_option maxRecDepth 20000 in
theorem xm_wrong {σ : pm_S} (N S P : Nat) (hB : an_GB pm_B σ) (hd : (-2147483648) ≤ D ∧ D ≤ 2147483647) (hN : N ≤ 30) (hP : P ≤ 10) (hS : S ≤ 10) (hSP : 1 ≤ P → 1 ≤ S) (eN : (σ.1 93 23).toInt = N) (eS : cI σ 2 = S) (eP : cI σ 5 = P) (hR : wr_RM σ dy wh ot pl) (hL : wr_L dy wh ot pl N S P) : Sp 241 31 [.ref 93, .int (Int32.ofInt D)] σ (fun r τ => ∃ v : Int, r = some (.int (Int32.ofInt v)) ∧ an_GB pm_B τ ∧ FQ wr_FM σ τ ∧ ((¬ (0 ≤ D ∧ D ≤ 9999) ∧ v = -1) ∨ ((0 ≤ D ∧ D ≤ 9999) ∧ 6 ≤ pcn 10 (wr_set dy wh ot D N) ∧ v = -1) ∨ ((0 ≤ D ∧ D ≤ 9999) ∧ pcn 10 (wr_set dy wh ot D N) ≤ 5 ∧ wr_PM dy wh ot pl D S N v))) := by
  refine Sp.at rfl rfl ?_
  refine wzwp_0 D _ _ _ _ _ _ rfl rfl rfl rfl rfl rfl hB ⟨hd, trivial⟩ ?_ ?_ ?_
  · intro τ y hB1 F1 f _ _ _
    exact ⟨-1, rfl, hB1, FQ.up (G := [(93, 0)]) rfl F1, Or.inl ⟨by omega, rfl⟩⟩
  · intro τ y hB1 F1 f _ _ _
    exact ⟨-1, rfl, hB1, FQ.up (G := [(93, 0)]) rfl F1, Or.inl ⟨by omega, rfl⟩⟩
  intro τ0 y0 v4 v5 v6 v7 k4 k5 k6 k7 hB0 F0 f0 _ _ _
  have hD := f0.1
  have G0 : FQ wr_FM σ τ0 := FQ.up (G := [(93, 0)]) rfl F0
  refine Ok.loop (fun i L τ => 0 ≤ i ∧ i ≤ N ∧ an_GB pm_B τ ∧ FQ wr_FM σ τ ∧ ∃ v4 v5 v6 v7 : Value, v4.category = 1 ∧ v5.category = 1 ∧ v6.category = 1 ∧ v7.category = 1 ∧ L = [.ref 93, .int (Int32.ofInt D), .int (Int32.ofInt ((wr_set dy wh ot D i.toNat : Nat) : Int)), .int (Int32.ofInt i), v4, v5, v6, v7]) N (fun i L τ h => h.2.1) ?_ 0 _ τ0 ⟨by decide, by omega, hB0, G0, v4, v5, v6, v7, k4, k5, k6, k7, rfl⟩
  rintro i L τ ⟨i0, i1, hB1, F1, v4, v5, v6, v7, k4, k5, k6, k7, rfl⟩ ih
  have l1 := wr_set_lt (D := D) hL (by omega) i.toNat (by omega)
  refine wzwp_15 D ((wr_set dy wh ot D i.toNat : Nat) : Int) i N v4 v5 v6 v7 k4 k5 k6 k7 hB1 ⟨hD, by omega, by omega, by omega, trivial⟩ ⟨(congrArg Int32.toInt (F1 93 23 rfl)).trans eN, trivial⟩ ?_
  intro τ2 y2 v4 v5 v6 v7 k4 k5 k6 k7 hB2 F2 _ _ _ _
  have G2 : FQ wr_FM σ τ2 := FQ.tr F1 (FQ.up (G := []) rfl F2)
  refine Ok.ic rfl rfl (by omega) (by omega) (by omega) (by omega) (fun z => ?_) (fun z => ?_)
  · have z : (N : Int) ≤ i := z
    have e : i.toNat = N := by omega
    clear ih
    rw [e] at l1 ⊢
    generalize hset : wr_set dy wh ot D N = set at l1 ⊢
    have bc : (an_f 16 (Int32.ofInt (set : Int)) (Int32.ofInt 0)).toInt = (pcn 10 set : Int) := bc_pcn set l1
    have pc10 := pcn_10 set l1
    refine wzwp_51 D (set : Int) i v4 v5 v6 v7 k4 k5 k6 k7 hB2 ⟨hD, by omega, by omega, trivial⟩ ?_ ?_
    · intro τ3 y3 v5 v6 v7 k5 k6 k7 hB3 F3 f3 _ d3 _
      have g3 := f3.2.2.2.1
      have k5' : pcn 10 set ≤ 5 := by
        have := d3.1
        omega
      have G3 : FQ wr_FM σ τ3 := FQ.tr G2 (FQ.up (G := []) rfl F3)
      -- how many ways
      refine Ok.loop (fun j L τ => 0 ≤ j ∧ j ≤ (pcn 10 set : Int) ∧ an_GB pm_B τ ∧ FQ wr_FM σ τ ∧ ∃ v5 v6 v7 : Value, v5.category = 1 ∧ v6.category = 1 ∧ v7.category = 1 ∧ L = [.ref 93, .int (Int32.ofInt D), .int (Int32.ofInt (set : Int)), .int (Int32.ofInt ((S ^ j.toNat : Nat) : Int)), .int (Int32.ofInt j), v5, v6, v7]) (pcn 10 set) (fun i L τ h => h.2.1) ?_ 0 _ τ3 ⟨by decide, by omega, hB3, G3, v5, v6, v7, k5, k6, k7, rfl⟩
      rintro j L τ ⟨j0, j1, hB4, F4, v5, v6, v7, k5, k6, k7, rfl⟩ ih
      have pj := wr_pow (S := S) (j := j.toNat) (k := pcn 10 set) hS (by omega) k5'
      refine wzwp_62 D (set : Int) ((S ^ j.toNat : Nat) : Int) j v5 v6 v7 k5 k6 k7 hB4 ⟨hD, by omega, by omega, by omega, trivial⟩ ?_
      intro τ5 y5 v5 v6 v7 k5 k6 k7 hB5 F5 f5 _ d5 _
      have e5 : y5 4 = (pcn 10 set : Int) := by rw [← d5.1]; exact bc
      have G5 : FQ wr_FM σ τ5 := FQ.tr F4 (FQ.up (G := []) rfl F5)
      refine Ok.ic rfl rfl (by omega) (by omega) (by omega) (by omega) (fun z => ?_) (fun z => ?_)
      · have z : y5 4 ≤ j := z
        have ej : j.toNat = pcn 10 set := by omega
        clear ih
        rw [ej] at pj ⊢
        generalize hW : S ^ pcn 10 set = W at pj ⊢
        have W1 : 1 ≤ W := by
          rw [← hW]
          rcases Nat.eq_zero_or_pos (pcn 10 set) with e0 | e0
          · rw [e0, Nat.pow_zero]
            exact Nat.le_refl 1
          · refine Nat.pow_pos ?_
            have : 1 ≤ P := by
              rcases Nat.eq_zero_or_pos P with p0 | p0
              · exfalso
                have n0 : N = 0 := by
                  rcases Nat.eq_zero_or_pos N with n0 | n0
                  · exact n0
                  · have := hL 0 n0
                    omega
                rw [← hset, n0] at e0
                exact absurd (show pcn 10 0 > 0 from e0) (by decide)
              · exact p0
            exact hSP this
        refine wzwp_74 D (set : Int) (W : Int) j v5 v6 v7 k5 k6 k7 hB5 ⟨hD, by omega, by omega, by omega, trivial⟩ ?_
        intro τ6 y6 v6 v7 k6 k7 hB6 F6 _ _ _ _
        have G6 : FQ wr_FM σ τ6 := FQ.tr G5 (FQ.up (G := []) rfl F6)
        -- all ways
        refine Ok.loop (fun w L τ => 0 ≤ w ∧ w ≤ (W : Int) ∧ an_GB pm_B τ ∧ FQ wr_FM σ τ ∧ ∃ (m : Int) (v6 v7 : Value), v6.category = 1 ∧ v7.category = 1 ∧ (0 ≤ m ∧ m ≤ 1000000000) ∧ (∀ w' : Nat, (w' : Int) < w → m ≤ wr_cm dy wh ot pl D (wr_dg set S w') N) ∧ (w = 0 ∨ ∃ w' : Nat, (w' : Int) < w ∧ m = wr_cm dy wh ot pl D (wr_dg set S w') N) ∧ (w = 0 → m = 1000000000) ∧ L = [.ref 93, .int (Int32.ofInt D), .int (Int32.ofInt (set : Int)), .int (Int32.ofInt (W : Int)), .int (Int32.ofInt m), .int (Int32.ofInt w), v6, v7]) W (fun i L τ h => h.2.1) ?_ 0 _ τ6 ⟨by decide, by omega, hB6, G6, 1000000000, v6, v7, k6, k7, by decide, fun w' h => by omega, Or.inl rfl, fun _ => rfl, rfl⟩
        rintro w L τ ⟨w0, w1, hB7, F7, m, v6, v7, k6, k7, hm, hall, hex, hm0, rfl⟩ ih
        refine wzwp_78 D (set : Int) (W : Int) m w v6 v7 k6 k7 hB7 ⟨hD, by omega, by omega, by omega, by omega, trivial⟩ ?_
        intro τ8 y8 v6 v7 k6 k7 hB8 F8 _ _ _ _
        have G8 : FQ wr_FM σ τ8 := FQ.tr F7 (FQ.up (G := []) rfl F8)
        refine Ok.ic rfl rfl (by omega) (by omega) (by omega) (by omega) (fun z => ?_) (fun z => ?_)
        · have z : (W : Int) ≤ w := z
          refine wzwp_124 D (set : Int) (W : Int) m w v6 v7 k6 k7 hB8 ⟨hD, by omega, by omega, by omega, by omega, trivial⟩ ?_
          intro τ9 y9 hB9 F9 _ _ _ _
          refine ⟨m, rfl, hB9, FQ.tr G8 (FQ.up (G := []) rfl F9), Or.inr (Or.inr ⟨hD, k5', fun w' hw' => ?_, ?_⟩)⟩
          · rw [hset, hW] at hw'
            rw [hset]
            exact hall w' (by omega)
          · rcases hex with h | ⟨w', h1, h2⟩
            · omega
            · exact ⟨w', by rw [hset, hW]; omega, by rw [hset]; exact h2⟩
        · have z : w < W := z
          obtain ⟨wn, rfl⟩ : ∃ wn : Nat, w = (wn : Int) := ⟨w.toNat, by omega⟩
          refine wzwp_81 D (set : Int) (W : Int) m wn v6 v7 k6 k7 hB8 ⟨hD, by omega, by omega, by omega, by omega, trivial⟩ ?_
          intro τ9 y9 hB9 F9 _ _ _ _
          have G9 : FQ wr_FM σ τ9 := FQ.tr G8 (FQ.up (G := []) rfl F9)
          -- a way's spots
          refine Ok.loop (fun p L τ => 0 ≤ p ∧ p ≤ (P : Int) ∧ an_GB pm_B τ ∧ FQ wr_FM σ τ ∧ L = [.ref 93, .int (Int32.ofInt D), .int (Int32.ofInt (set : Int)), .int (Int32.ofInt (W : Int)), .int (Int32.ofInt m), .int (Int32.ofInt (wn : Int)), .int (Int32.ofInt ((wr_v set S wn p.toNat : Nat) : Int)), .int (Int32.ofInt p)] ∧ ∀ q : Nat, (q : Int) < p → Nat.testBit set q = true → sI τ 132 q = wr_dg set S wn q) P (fun i L τ h => h.2.1) ?_ 0 _ τ9 ⟨by decide, by omega, hB9, G9, rfl, fun q h => by omega⟩
          rintro p L τ ⟨p0, p1, hBa, Fa, rfl, hdg⟩ ih2
          have vl := wr_v_le (set := set) (S := S) (way := wn) p.toNat
          refine wzwp_85 D (set : Int) (W : Int) m wn ((wr_v set S wn p.toNat : Nat) : Int) p P hBa ⟨hD, by omega, by omega, by omega, by omega, by omega, by omega, by omega, trivial⟩ ⟨(congrArg Int32.toInt (Fa 93 5 rfl)).trans eP, trivial⟩ ?_
          intro τb yb hBb Fb _ _ _ _
          have Gb : FQ wr_FM σ τb := FQ.tr Fa (FQ.up (G := []) rfl Fb)
          have db : ∀ q : Nat, (q : Int) < p → Nat.testBit set q = true → sI τb 132 q = wr_dg set S wn q := fun q h1 h2 => (congrArg Int32.toInt (Fb 132 q rfl)).trans (hdg q h1 h2)
          refine Ok.ic rfl rfl (by omega) (by omega) (by omega) (by omega) (fun z2 => ?_) (fun z2 => ?_)
          · have z2 : (P : Int) ≤ p := z2
            clear ih2
            refine wzwp_111 D (set : Int) (W : Int) m wn ((wr_v set S wn p.toNat : Nat) : Int) p hBb ⟨hD, by omega, by omega, by omega, by omega, by omega, by omega, trivial⟩ ?_
            intro τc yc hBc Fc _ _ _ _
            have Gc : FQ wr_FM σ τc := FQ.tr Gb (FQ.up (G := []) rfl Fc)
            refine Ok.cv rfl rfl rfl rfl rfl rfl rfl ?_
            refine (x_ww24 (D := D) N S P hBc hD hN (by omega) ((congrArg Int32.toInt (Gc 93 23 rfl)).trans eN) (hR.fq rfl Gc) hL).use (by decide) (fun r τd q => ?_)
            obtain ⟨rfl, hBd, Fd⟩ := q
            have inP : ∀ q, Nat.testBit set q = true → q < P := fun q hq => by
              have t : ∀ i, i ≤ N → Nat.testBit (wr_set dy wh ot D i) q = true → q < P := by
                intro i
                induction i with
                | zero => intro _ h; rw [show wr_set dy wh ot D 0 = 0 from rfl, Nat.zero_testBit] at h; cases h
                | succ i ihi =>
                  intro hi h
                  have hl := hL i (by omega)
                  unfold wr_set at h
                  split at h
                  · rw [Nat.testBit_or, wr_tb, Bool.or_eq_true, Bool.or_eq_true] at h
                    rcases h with (h | h) | h
                    · exact ihi (by omega) h
                    · have := of_decide_eq_true h
                      omega
                    · split at h
                      · rw [Nat.zero_testBit] at h
                        cases h
                      · rw [Nat.testBit_two_pow] at h
                        have := of_decide_eq_true h
                        omega
                  · exact ihi (by omega) h
              exact t N (Nat.le_refl N) (by rw [hset]; exact hq)
            have ecm : wr_cm dy wh ot pl D (sI τc 132) N = wr_cm dy wh ot pl D (wr_dg set S wn) N := wr_cm_cg (fun q hq => by
              rw [hset] at hq
              have hqP := inP q hq
              rw [show sI τc 132 q = sI τb 132 q from congrArg Int32.toInt (Fc 132 q rfl)]
              exact db q (by omega) hq)
            rw [ecm]
            have bcm := wr_cm_b (dy := dy) (wh := wh) (ot := ot) (pl := pl) (D := D) (g := wr_dg set S wn) (N := N)
            generalize eC : wr_cm dy wh ot pl D (wr_dg set S wn) N = cc at bcm ⊢
            have Gd : FQ wr_FM σ τd := FQ.tr Gc (FQ.up (G := []) rfl Fd)
            refine wzwp_114 D (set : Int) (W : Int) m wn ((wr_v set S wn p.toNat : Nat) : Int) cc _ rfl hBd ⟨hD, by omega, by omega, by omega, by omega, by omega, by omega, trivial⟩ ?_
            intro τe ye hBe Fe _ _ _ _
            have Ge : FQ wr_FM σ τe := FQ.tr Gd (FQ.up (G := []) rfl Fe)
            refine Ok.ic rfl rfl (by omega) (by omega) (by omega) (by omega) (fun z3 => ?_) (fun z3 => ?_)
            · have z3 : m ≤ cc := z3
              refine wzwp_120 D (set : Int) (W : Int) m wn ((wr_v set S wn p.toNat : Nat) : Int) cc hBe ⟨hD, by omega, by omega, by omega, by omega, by omega, by omega, trivial⟩ ?_
              intro τf yf hBf Ff _ _ _ _
              refine ih _ τf ⟨by omega, by omega, hBf, FQ.tr Ge (FQ.up (G := []) rfl Ff), m, _, _, rfl, rfl, hm, fun w' h => ?_, Or.inr ?_, fun h => by omega, rfl⟩
              · by_cases e : w' = wn
                · rw [e, eC]
                  exact z3
                · exact hall w' (by omega)
              · rcases hex with h | ⟨w', h1, h2⟩
                · exfalso
                  have := hm0 h
                  omega
                · exact ⟨w', by omega, h2⟩
            · have z3 : cc < m := z3
              refine wzwp_118 D (set : Int) (W : Int) m wn ((wr_v set S wn p.toNat : Nat) : Int) cc hBe ⟨hD, by omega, by omega, by omega, by omega, by omega, by omega, trivial⟩ ?_
              intro τf yf hBf Ff _ _ _ _
              refine ih _ τf ⟨by omega, by omega, hBf, FQ.tr Ge (FQ.up (G := []) rfl Ff), cc, _, _, rfl, rfl, by omega, fun w' h => ?_, Or.inr ⟨wn, by omega, eC.symm⟩, fun h => by omega, rfl⟩
              by_cases e : w' = wn
              · rw [e, eC]
                exact Int.le_refl _
              · have := hall w' (by omega)
                omega
          · have z2 : p < P := z2
            have S1 : 1 ≤ S := hSP (by omega)
            have ep : (p + 1).toNat = p.toNat + 1 := by omega
            have sv : wr_v set S wn (p + 1).toNat = if Nat.testBit set p.toNat = true then wr_v set S wn p.toNat / S else wr_v set S wn p.toNat := by rw [ep]; rfl
            refine wzwp_89 D (set : Int) (W : Int) m wn ((wr_v set S wn p.toNat : Nat) : Int) p S hBb ⟨hD, by omega, by omega, by omega, by omega, by omega, by omega, by omega, trivial⟩ ⟨(congrArg Int32.toInt (Gb 93 2 rfl)).trans eS, trivial⟩ ?_ ?_
            · intro τc yc hBc Fc fc _ dc cc
              have g9 := fc.2.2.2.2.2.2.2.2.2.1
              have bt := bitT (by omega) (by omega) dc.1 dc.2.1 (by omega)
              rw [Int.toNat_natCast] at bt
              have rm := remC (by omega) (by omega) dc.2.2.1
              rw [Int.toNat_natCast, Int.toNat_natCast] at rm
              have Gc : FQ wr_FM σ τc := FQ.tr Gb (FQ.up (G := []) rfl Fc)
              refine Ok.ast (n := 10) rfl rfl rfl (by decide) (by omega) (by omega) ?_
              have hBd : an_GB pm_B (put τc 132 p.toNat (Int32.ofInt (yc 10))) := put_GB hBc (ai_rng _)
              have Gd : FQ wr_FM σ (put τc 132 p.toNat (Int32.ofInt (yc 10))) := FQ.tr Gc (FQ.put rfl)
              have ml : wr_v set S wn p.toNat % S < S := Nat.mod_lt _ (by omega)
              refine wzwp_104 D (set : Int) (W : Int) m wn ((wr_v set S wn p.toNat : Nat) : Int) p S hBd ⟨hD, by omega, by omega, by omega, by omega, by omega, by omega, by omega, trivial⟩ ⟨(congrArg Int32.toInt (Gd 93 2 rfl)).trans eS, trivial⟩ ?_
              intro τe ye hBe Fe _ _ de _
              have dv := divC (by omega) (by omega) de.1
              rw [Int.toNat_natCast, Int.toNat_natCast] at dv
              refine ih2 _ τe ⟨by omega, by omega, hBe, FQ.tr Gd (FQ.up (G := []) rfl Fe), ?_, fun q h1 h2 => ?_⟩
              · rw [sv, if_pos bt, dv]
              · show (τe.1 132 q).toInt = _
                rw [Fe 132 q rfl, put_get]
                by_cases e : q = p.toNat
                · rw [if_pos ⟨rfl, e⟩, ti_of (by omega) (by omega), rm, e]
                · rw [if_neg (fun z => e z.2), Fc 132 q rfl]
                  exact db q (by omega) h2
            · intro τc yc hBc Fc fc _ dc _
              have g9 := fc.2.2.2.2.2.2.2.2.2.1
              have bf := bitF (by omega) (by omega) dc.1 dc.2.1 (by omega)
              rw [Int.toNat_natCast] at bf
              refine ih2 _ τc ⟨by omega, by omega, hBc, FQ.tr Gb (FQ.up (G := []) rfl Fc), ?_, fun q h1 h2 => ?_⟩
              · rw [sv, if_neg (by rw [bf]; decide)]
              · by_cases e : q = p.toNat
                · rw [e, bf] at h2
                  cases h2
                · rw [show sI τc 132 q = sI τb 132 q from congrArg Int32.toInt (Fc 132 q rfl)]
                  exact db q (by omega) h2
      · have z : j < y5 4 := z
        have pj4 := wr_pow4 (S := S) (j := j.toNat) hS (by omega)
        refine wzwp_67 D (set : Int) ((S ^ j.toNat : Nat) : Int) j S v5 v6 v7 k5 k6 k7 hB5 ⟨hD, by omega, by omega, by omega, by omega, trivial⟩ ⟨(congrArg Int32.toInt (G5 93 2 rfl)).trans eS, trivial⟩ ?_
        intro τ6 y6 v5 v6 v7 k5 k6 k7 hB6 F6 _ _ d6 _
        have m6 := mulE (by omega) (by omega) d6.1
        refine ih _ τ6 ⟨by omega, by omega, hB6, FQ.tr G5 (FQ.up (G := []) rfl F6), v5, v6, v7, k5, k6, k7, ?_⟩
        rw [show (j + 1).toNat = j.toNat + 1 by omega, Nat.pow_succ, Int.natCast_mul, m6]
    · intro τ3 y3 hB3 F3 f3 _ d3 _
      have g3 := f3.2.2.2.1
      have d31 := d3.1
      exact ⟨-1, rfl, hB3, FQ.tr G2 (FQ.up (G := []) rfl F3), Or.inr (Or.inl ⟨hD, by omega, rfl⟩)⟩
  · have z : i < N := z
    have hi30 : i.toNat < 30 := by omega
    have e1 : (i + 1).toNat = i.toNat + 1 := by omega
    have hl := hL i.toNat (by omega)
    have sN : wr_set dy wh ot D (i + 1).toNat = if dy i.toNat = D then (wr_set dy wh ot D i.toNat ||| 2 ^ (wh i.toNat).toNat) ||| (if ot i.toNat = -1 then 0 else 2 ^ (ot i.toNat).toNat) else wr_set dy wh ot D i.toNat := by rw [e1]; rfl
    refine wzwp_19 D ((wr_set dy wh ot D i.toNat : Nat) : Int) i v4 v5 v6 v7 k4 k5 k6 k7 hB2 ⟨hD, by omega, by omega, trivial⟩ ?_
    intro τ3 y3 v4 v5 v6 v7 k4 k5 k6 k7 hB3 F3 f3 _ _ c3
    have G3 : FQ wr_FM σ τ3 := FQ.tr G2 (FQ.up (G := []) rfl F3)
    have R3 := hR.fq rfl G3 i.toNat hi30
    have d3 : y3 3 = dy i.toNat := by rw [← c3.1]; exact R3.1
    have g3 := f3.2.2.2.1
    refine Ok.ic rfl rfl (by omega) (by omega) (by omega) (by omega) (fun z2 => ?_) (fun z2 => ?_)
    · have z2 : y3 3 ≠ D := z2
      refine wzwp_49 D ((wr_set dy wh ot D i.toNat : Nat) : Int) i v4 v5 v6 v7 k4 k5 k6 k7 hB3 ⟨hD, by omega, by omega, trivial⟩ ?_
      intro τ4 y4 v4 v5 v6 v7 k4 k5 k6 k7 hB4 F4 _ _ _ _
      refine ih _ τ4 ⟨by omega, by omega, hB4, FQ.tr G3 (FQ.up (G := []) rfl F4), v4, v5, v6, v7, k4, k5, k6, k7, ?_⟩
      rw [sN, if_neg (by rw [← d3]; exact z2)]
    · have z2 : y3 3 = D := z2
      have dD : dy i.toNat = D := by rw [← d3]; exact z2
      rw [if_pos dD] at sN
      refine wzwp_25 D ((wr_set dy wh ot D i.toNat : Nat) : Int) i v4 v5 v6 v7 k4 k5 k6 k7 hB3 ⟨hD, by omega, by omega, trivial⟩ ?_ ?_
      · intro τ4 y4 v4 v5 v6 v7 k4 k5 k6 k7 hB4 F4 f4 _ d4 c4
        have G4 : FQ wr_FM σ τ4 := FQ.tr G3 (FQ.up (G := []) rfl F4)
        have R4 := hR.fq rfl G4 i.toNat hi30
        have w4 : y4 3 = wh i.toNat := by rw [← c4.1]; exact R4.2.1
        have o4 : y4 6 = ot i.toNat := by rw [← c4.2.1]; exact R4.2.2.1
        have g6 := f4.2.2.2.2.2.2.1
        have ho : ot i.toNat ≠ -1 := by omega
        have a1 := orJ (by omega) (by omega) d4.1 d4.2.1
        rw [Int.toNat_natCast, w4] at a1
        have l2 := wr_or (p := (wh i.toNat).toNat) l1 (by omega)
        have a2 := orJ (by omega) (by omega) d4.2.2.1 d4.2.2.2.1
        rw [a1, Int.toNat_natCast, o4] at a2
        refine ih _ τ4 ⟨by omega, by omega, hB4, G4, v4, v5, v6, v7, k4, k5, k6, k7, ?_⟩
        rw [sN, if_neg ho, a2]
      · intro τ4 y4 v4 v5 v6 v7 k4 k5 k6 k7 hB4 F4 f4 _ d4 c4
        have G4 : FQ wr_FM σ τ4 := FQ.tr G3 (FQ.up (G := []) rfl F4)
        have R4 := hR.fq rfl G4 i.toNat hi30
        have w4 : y4 3 = wh i.toNat := by rw [← c4.1]; exact R4.2.1
        have o4 : y4 6 = ot i.toNat := by rw [← c4.2.1]; exact R4.2.2.1
        have g6 := f4.2.2.2.2.2.2.1
        have ho : ot i.toNat = -1 := by omega
        have a1 := orJ (by omega) (by omega) d4.1 d4.2.1
        rw [Int.toNat_natCast, w4] at a1
        have l2 := wr_or (p := (wh i.toNat).toNat) l1 (by omega)
        have a2 := bt5 _ l2
        rw [← a1, d4.2.2.1, a1] at a2
        refine ih _ τ4 ⟨by omega, by omega, hB4, G4, v4, v5, v6, v7, k4, k5, k6, k7, ?_⟩
        rw [sN, if_pos ho, Nat.or_zero, a2]
end WRM
