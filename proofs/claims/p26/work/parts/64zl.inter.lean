/-! a Sunday: interest, and home again: the class -/
theorem zbM {a b y : Int} (ha : (-2147483648) ≤ a ∧ a ≤ 2147483647) (hb : (-2147483648) ≤ b ∧ b ≤ 2147483647) (h : (an_f 11 (Int32.ofInt a) (Int32.ofInt b)).toInt = y) : y = min a b := by
  rw [← h]
  show (pm_min (Int32.ofInt a) (Int32.ofInt b)).toInt = _
  unfold pm_min
  have e1 := ti_of ha.1 ha.2
  have e2 := ti_of hb.1 hb.2
  split
  · rename_i z
    rw [Int32.lt_iff_toInt_lt, e1, e2] at z
    omega
  · rename_i z
    rw [Int32.lt_iff_toInt_lt, e1, e2] at z
    omega
theorem zbE {b : Int} (hb : (-2147483648) ≤ b ∧ b ≤ 2147483647) : (an_f 11 (Int32.ofInt 99999) (Int32.ofInt b)).toInt = min 99999 b := zbM (by decide) hb rfl
theorem zbB {x : Int32} (h : 0 ≤ x.toInt) : 0 ≤ (an_f 11 (Int32.ofInt 99999) x).toInt ∧ (an_f 11 (Int32.ofInt 99999) x).toInt ≤ 99999 := by
  have z := zbE (ai_rng x)
  rw [oI] at z
  rw [z]
  clear z
  generalize x.toInt = v at h
  omega
/-- a debt behind the Sunday su -/
def inC (su tu ra : Int32) (hw ma co : Nat → Int32) (d : Nat) : Int32 := if hw d = 0 ∧ an_f 10 (su - ma d) tu = 0 then an_f 11 (Int32.ofInt 99999) (co d + an_f 9 (co d * ra) (Int32.ofInt 100)) else co d
def inS (f co : Nat → Int32) (p : Nat) : Nat → Int32 := fun d => if d < p then f d else co d
theorem inS_0 (f co : Nat → Int32) : inS f co 0 = co := funext fun d => if_neg (Nat.not_lt_zero _)
theorem inS_p (f co : Nat → Int32) (p : Nat) : inS f co p p = co p := if_neg (Nat.lt_irrefl _)
theorem inS_u (f co : Nat → Int32) (p : Nat) : inS f co (p + 1) = rup (inS f co p) p (f p) := funext fun d => by
  unfold inS rup
  by_cases e : d = p
  · rw [e, if_pos (Nat.lt_succ_self p), if_pos rfl]
  · rw [if_neg e]
    show (if d < p + 1 then f d else co d) = if d < p then f d else co d
    by_cases c : d < p
    · rw [if_pos c, if_pos (by omega)]
    · rw [if_neg c, if_neg (by omega)]
theorem inS_n {f co : Nat → Int32} {p : Nat} (h : f p = co p) : inS f co (p + 1) = inS f co p := by
  rw [inS_u, h]
  funext d
  unfold rup
  by_cases e : d = p
  · rw [if_pos e, e, inS_p]
  · rw [if_neg e]
theorem inC_0 {su tu : Int32} {hw ma co : Nat → Int32} {d : Nat} (h : 0 ≤ (co d).toInt ∧ (co d).toInt ≤ 99999) : inC su tu 0 hw ma co d = co d := by
  unfold inC
  by_cases c : hw d = 0 ∧ an_f 10 (su - ma d) tu = 0
  · rw [if_pos c]
    have e1 : co d * 0 = 0 := by
      refine Int32.toInt_inj.mp ?_
      have z : (0 : Int32).toInt = 0 := rfl
      rw [Int32.toInt_mul, z, Int.mul_zero]
      rfl
    have e2 : an_f 9 0 (Int32.ofInt 100) = 0 := by decide
    have e3 : co d + 0 = co d := by
      refine Int32.toInt_inj.mp ?_
      have z : (0 : Int32).toInt = 0 := rfl
      rw [Int32.toInt_add, z, Int.add_zero, Int.bmod_eq_of_le (by omega) (by omega)]
    rw [e1, e2, e3]
    refine Int32.toInt_inj.mp ?_
    have m := zbE (b := (co d).toInt) (by omega)
    rw [oI] at m
    rw [m]
    clear m e1 e2 e3
    omega
  · rw [if_neg c]
section INC
variable {σ : pm_S} {D : Nat} {su tu ra : Int} {Q : Option Value → pm_S → Prop}
abbrev inKs (σ : pm_S) (su tu ra : Int) : Nat → Int32 := inC (Int32.ofInt su) (Int32.ofInt tu) (Int32.ofInt ra) (σ.1 20) (σ.1 18) (σ.1 16)
set_option maxRecDepth 20000 in
theorem x_ail (hD : D ≤ 30) (eD : sI σ 13 0 = (D : Int)) (hs : 0 ≤ su ∧ su ≤ 10000) (ht : 1 ≤ tu ∧ tu ≤ 52) (hr : 1 ≤ ra ∧ ra ≤ 99) (hc : ∀ d, d < D → 0 ≤ sI σ 16 d ∧ sI σ 16 d ≤ 99999) (hQ : ∀ τ : pm_S, an_GB pm_B τ → FQ [(16, 9999)] σ τ → τ.1 16 = inS (inKs σ su tu ra) (σ.1 16) D → Q none τ) : ∀ (k d : Nat) (τ : pm_S), d + k = D → an_GB pm_B τ → FQ [(16, 9999)] σ τ → τ.1 16 = inS (inKs σ su tu ra) (σ.1 16) d → Ok 9 4 2 [.ref 13, .int (Int32.ofInt su), .int (Int32.ofInt tu), .int (Int32.ofInt ra), .int (Int32.ofInt (d : Int))] [] τ Q := by
  intro k
  induction k with
  | zero =>
    intro d τ hd hB F r16
    refine pf_t2 su tu ra d D hB ⟨hs, ht, by omega, by omega, by omega, trivial⟩ ⟨(congrArg Int32.toInt (F 13 0 rfl)).trans eD, trivial⟩ ?_
    intro τ1 y1 hB1 F1 _ _ _ _
    refine Ok.ic rfl rfl (by omega) (by omega) (by omega) (by omega) (fun h => ?_) (fun h => ?_)
    · refine pf_t37 su tu ra _ rfl hB1 ⟨hs, ht, by omega, trivial⟩ ?_
      intro τ2 y2 hB2 F2 _ _ _ _
      have G2 : FQ [] τ τ2 := FQ.tr F1 F2
      rw [show d = D by omega] at r16
      exact hQ τ2 hB2 (FQ.tr F (FQ.up (G := []) rfl G2)) ((row_fq G2 rfl).trans r16)
    · have h : (d : Int) < (D : Int) := h
      exfalso
      omega
  | succ k ih =>
    intro d τ hd hB F r16
    have ed : ((d : Int)).toNat = d := by omega
    have hdD : d < D := by omega
    have cd := hc d hdD
    refine pf_t2 su tu ra d D hB ⟨hs, ht, by omega, by omega, by omega, trivial⟩ ⟨(congrArg Int32.toInt (F 13 0 rfl)).trans eD, trivial⟩ ?_
    intro τ1 y1 hB1 F1 _ _ _ _
    refine Ok.ic rfl rfl (by omega) (by omega) (by omega) (by omega) (fun h => ?_) (fun h => ?_)
    · have h : (D : Int) ≤ (d : Int) := h
      exfalso
      omega
    refine pf_t6 su tu ra d hB1 ⟨hs, ht, by omega, by omega, trivial⟩ ?_ ?_
    · intro τ2 y2 hB2 F2 f _ _ _
      have f3 := f.2.2.1
      exfalso
      omega
    intro τ2 y2 hB2 F2 _ _ _ _
    have g2 : FQ [] τ τ2 := FQ.tr F1 F2
    have G2 : FQ [(16, 9999)] σ τ2 := FQ.tr F (FQ.up (G := []) rfl g2)
    refine Ok.cv rfl rfl rfl rfl rfl rfl rfl ?_
    refine (x_opD d D hD hdD ((congrArg Int32.toInt (G2 13 0 rfl)).trans eD) hB2).use (by decide) (fun r τ3 q => ?_)
    obtain ⟨rfl, hB3, F3⟩ := q
    rw [show τ2.1 20 d = σ.1 20 d from G2 20 d rfl]
    have g3 : FQ [] τ τ3 := FQ.tr g2 F3
    have G3 : FQ [(16, 9999)] σ τ3 := FQ.tr F (FQ.up (G := []) rfl g3)
    have c16 : τ3.1 16 d = σ.1 16 d := by rw [row_fq g3 rfl, r16, inS_p]
    have w01 : 0 ≤ (if decide (σ.1 20 d = 0) = true then (1 : Int) else 0) ∧ (if decide (σ.1 20 d = 0) = true then (1 : Int) else 0) ≤ 1 := by split <;> decide
    -- nothing comes
    have skip : inKs σ su tu ra d = σ.1 16 d → ∀ τ' : pm_S, an_GB pm_B τ' → FQ [] τ τ' → Ok 9 4 2 [.ref 13, .int (Int32.ofInt su), .int (Int32.ofInt tu), .int (Int32.ofInt ra), .int (Int32.ofInt ((d : Int) + 1))] [] τ' Q := by
      intro e τ' hB' F'
      rw [show (d : Int) + 1 = ((d + 1 : Nat) : Int) by omega]
      refine ih (d + 1) τ' (by omega) hB' (FQ.tr F (FQ.up (G := []) rfl F')) ?_
      rw [inS_n e, row_fq F' rfl, r16]
    refine pf_t11 su tu ra d (if decide (σ.1 20 d = 0) = true then 1 else 0) (sI σ 18 d) (sI σ 16 d) hB3 ⟨hs, ht, hr, by omega, w01, ai_rng _, cd, trivial⟩ ⟨by rw [ed]; exact congrArg Int32.toInt (G3 18 d rfl), by rw [ed]; exact congrArg Int32.toInt c16, trivial⟩ ?_ ?_ ?_
    · intro τ4 y4 hB4 F4 f _ _ _
      have f5 := f.2.2.2.2.1
      have ne : ¬ σ.1 20 d = 0 := fun z => by
        rw [if_pos (decide_eq_true z)] at f5
        omega
      refine skip (if_neg (fun z => ne z.1)) τ4 hB4 (FQ.tr g3 F4)
    · intro τ4 y4 hB4 F4 f rl d4 _
      have ne : ¬ an_f 10 (Int32.ofInt su - σ.1 18 d) (Int32.ofInt tu) = 0 := fun z => by
        have e7 : Int32.ofInt (y4 7) = Int32.ofInt su - σ.1 18 d := by
          rw [← d4.1, oI, oI]
          rfl
        have e8 : y4 8 = 0 := by
          rw [← d4.2.1, e7, z]
          rfl
        exact rl.1 e8
      refine skip (if_neg (fun z => ne z.2)) τ4 hB4 (FQ.tr g3 F4)
    · intro τ4 y4 hB4 F4 f _ d4 _
      have f5 := f.2.2.2.2.1
      have f9 := f.2.2.2.2.2.2.2.2.1
      have e20 : σ.1 20 d = 0 := by
        by_cases z : σ.1 20 d = 0
        · exact z
        · rw [if_neg (by rw [decide_eq_false z]; decide)] at f5
          exfalso
          omega
      have e7 : Int32.ofInt (y4 7) = Int32.ofInt su - σ.1 18 d := by
        rw [← d4.1, oI, oI]
        rfl
      have e8 : an_f 10 (Int32.ofInt su - σ.1 18 d) (Int32.ofInt tu) = 0 := by
        refine Int32.toInt_inj.mp ?_
        rw [← e7, show (an_f 10 (Int32.ofInt (y4 7)) (Int32.ofInt tu)).toInt = y4 8 from d4.2.1]
        show y4 8 = 0
        omega
      have e9 : Int32.ofInt (y4 9) = σ.1 16 d * Int32.ofInt ra := by
        rw [← d4.2.2.1, oI, oI]
        rfl
      have e10 : Int32.ofInt (y4 10) = an_f 9 (σ.1 16 d * Int32.ofInt ra) (Int32.ofInt 100) := by
        rw [← d4.2.2.2.1, oI, e9]
      have e11 : Int32.ofInt (y4 11) = σ.1 16 d + an_f 9 (σ.1 16 d * Int32.ofInt ra) (Int32.ofInt 100) := by
        rw [← d4.2.2.2.2.1, oI, oI, e10]
        rfl
      have e12 : Int32.ofInt (y4 12) = inKs σ su tu ra d := by
        have q : inKs σ su tu ra d = an_f 11 (Int32.ofInt 99999) (σ.1 16 d + an_f 9 (σ.1 16 d * Int32.ofInt ra) (Int32.ofInt 100)) := if_pos ⟨e20, e8⟩
        rw [q, ← d4.2.2.2.2.2.1, oI, e11]
      rw [e12]
      refine Ok.ast (n := 30) rfl rfl rfl (by decide) (by omega) (by omega) ?_
      rw [ed]
      have g4 : FQ [] τ τ4 := FQ.tr g3 F4
      have hB5 : an_GB pm_B (put τ4 16 d (inKs σ su tu ra d)) := put_GB hB4 (ai_rng _)
      have P5 : FQ [(16, 9999)] τ4 (put τ4 16 d (inKs σ su tu ra d)) := FQ.put rfl
      have R5 : (put τ4 16 d (inKs σ su tu ra d)).1 16 = inS (inKs σ su tu ra) (σ.1 16) (d + 1) := by rw [row_put, row_fq g4 rfl, r16, inS_u]
      generalize put τ4 16 d (inKs σ su tu ra d) = τ5 at hB5 P5 R5 ⊢
      refine pf_t35 su tu ra d hB5 ⟨hs, ht, by omega, by omega, trivial⟩ ?_
      intro τ6 y6 hB6 F6 _ _ _ _
      rw [show (d : Int) + 1 = ((d + 1 : Nat) : Int) by omega]
      exact ih (d + 1) τ6 (by omega) hB6 (FQ.tr F (FQ.tr (FQ.up (G := []) rfl g4) (FQ.tr P5 (FQ.up (G := []) rfl F6)))) ((row_fq F6 rfl).trans R5)
end INC
theorem x_aic {σ : pm_S} {D : Nat} {su tu ra : Int} (hD : D ≤ 30) (eD : sI σ 13 0 = (D : Int)) (hs : 0 ≤ su ∧ su ≤ 10000) (ht : 1 ≤ tu ∧ tu ≤ 52) (hr : 0 ≤ ra ∧ ra ≤ 99) (hc : ∀ d, d < D → 0 ≤ sI σ 16 d ∧ sI σ 16 d ≤ 99999) (hB : an_GB pm_B σ) : Sp 9 4 [.ref 13, .int (Int32.ofInt su), .int (Int32.ofInt tu), .int (Int32.ofInt ra)] σ (fun r τ => r = none ∧ an_GB pm_B τ ∧ FQ [(16, 9999)] σ τ ∧ τ.1 16 = inS (inKs σ su tu ra) (σ.1 16) D) := by
  refine Sp.at rfl rfl ?_
  refine pf_t0 su tu ra _ rfl hB ⟨hs, ht, hr, trivial⟩ ?_
  intro τ1 y1 hB1 F1 _ _ _ _
  have r1 : τ1.1 16 = inS (inKs σ su tu ra) (σ.1 16) 0 := by rw [inS_0, row_fq F1 rfl]
  by_cases h : ra = 0
  · -- no rate
    subst h
    have all : inS (inKs σ su tu 0) (σ.1 16) D = σ.1 16 := by
      funext d
      unfold inS
      by_cases c : d < D
      · rw [if_pos c]
        exact inC_0 (hc d c)
      · rw [if_neg c]
    refine pf_t2 su tu 0 0 D hB1 ⟨hs, ht, by decide, by decide, by omega, trivial⟩ ⟨(congrArg Int32.toInt (F1 13 0 rfl)).trans eD, trivial⟩ ?_
    intro τ2 y2 hB2 F2 _ _ _ _
    have G2 : FQ [] σ τ2 := FQ.tr F1 F2
    refine Ok.ic rfl rfl (by omega) (by omega) (by omega) (by omega) (fun g => ?_) (fun g => ?_)
    · refine pf_t37 su tu 0 _ rfl hB2 ⟨hs, ht, by decide, trivial⟩ ?_
      intro τ3 y3 hB3 F3 _ _ _ _
      have G3 : FQ [] σ τ3 := FQ.tr G2 F3
      exact ⟨rfl, hB3, FQ.up (G := []) rfl G3, by rw [all, row_fq G3 rfl]⟩
    · have g : (0 : Int) < (D : Int) := g
      refine pf_t6 su tu 0 0 hB2 ⟨hs, ht, by decide, by decide, trivial⟩ ?_ ?_
      · intro τ3 y3 hB3 F3 _ _ _ _
        have G3 : FQ [] σ τ3 := FQ.tr G2 F3
        exact ⟨rfl, hB3, FQ.up (G := []) rfl G3, by rw [all, row_fq G3 rfl]⟩
      · intro τ3 y3 hB3 F3 f _ _ _
        have f3 := f.2.2.1
        exfalso
        omega
  · exact x_ail hD eD hs ht (by omega) hc (fun τ hB' F' e => ⟨rfl, hB', F', e⟩) D 0 τ1 (Nat.zero_add _) hB1 (FQ.up (G := []) rfl F1) r1
theorem x_aim {σ : pm_S} (hB : an_GB pm_B σ) : Sp 63 4 [.ref 7] σ (fun r τ => r = none ∧ an_GB pm_B τ ∧ FQ [(11, 9999)] σ τ ∧ ∀ j, j < 10 → τ.1 11 j = σ.1 8 j) := by
  have row : ∀ {σ : pm_S}, Sp 157 2 [.ref 8, .ref 11] σ (fun r τ => r = none ∧ FQ [(11, 9999)] σ τ ∧ CPR [(8, 11, 10)] σ τ) := by
    intro σ
    refine S_PaidWhereMade_copyRow [] 400 rfl (fun R cl Z hR hcl hZ => ?_)
    conv => whnf
    exact ⟨fun _ => hZ _ (cpy σ 8 11 10) ⟨rfl, cpy_F, cpy_C⟩, fun z => absurd (by decide) z⟩
  refine S_People_aimHome [] 400 rfl (fun R cl Z hR hcl hZ => ?_)
  conv => whnf
  refine hcl _ _ _ _ ((row).use (by decide) (fun r1 τ1 q1 => ?_))
  obtain ⟨rfl, f1, c1⟩ := q1
  conv => whnf
  exact hZ _ _ ⟨rfl, GB_cp rfl hB f1 c1, f1, fun j hj => c1 (8, 11, 10) List.mem_cons_self j hj⟩
