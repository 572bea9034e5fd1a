/-! wrong: the class's groups -/
theorem wr_n1 : ∀ v, v < 5 → ∀ g, g < 32 → (2 ^ v &&& g = 0 ↔ Nat.testBit g v = false) := by decide +kernel
theorem wr_n2 : ∀ v, v < 5 → ∀ u, u < 5 → ∀ g, g < 32 → ((2 ^ v ||| 2 ^ u) &&& g = 0 ↔ Nat.testBit g v = false ∧ Nat.testBit g u = false) := by decide +kernel
theorem wr_mx_up {f f' : Nat → Int} {q : Nat} (h1 : ∀ c, c ≠ q → f' c = f c) (h2 : f' q = f q + 1) : ∀ k, q < k → wr_mx f' k = max (wr_mx f k) (f q + 1) := by
  have lo : ∀ k, k ≤ q → wr_mx f' k = wr_mx f k := by
    intro k
    induction k with
    | zero => intro _; rfl
    | succ k ih =>
      intro h
      show max (wr_mx f' k) (f' k) = max (wr_mx f k) (f k)
      rw [ih (by omega), h1 k (by omega)]
  intro k
  induction k with
  | zero => intro h; exact absurd h (Nat.not_lt_zero q)
  | succ k ih =>
    intro h
    show max (wr_mx f' k) (f' k) = max (max (wr_mx f k) (f k)) (f q + 1)
    by_cases e : q = k
    · subst e
      rw [lo q (Nat.le_refl q), h2]
      omega
    · rw [ih (by omega), h1 k (fun z => e z.symm)]
      omega
theorem wr_mx_cg {f f' : Nat → Int} : ∀ {k : Nat}, (∀ c, c < k → f' c = f c) → wr_mx f' k = wr_mx f k
  | 0, _ => rfl
  | k + 1, h => by
    show max (wr_mx f' k) (f' k) = max (wr_mx f k) (f k)
    rw [wr_mx_cg (k := k) (fun c hc => h c (by omega)), h k (by omega)]
section WRG
variable {dy wh ot pl : Nat → Int} {D : Int}
abbrev wr_A (dy ot : Nat → Int) (D : Int) : Nat → Bool := fun l => decide (dy l = D) && decide (ot l = -1)
abbrev wr_B (dy ot : Nat → Int) (D : Int) : Nat → Bool := fun l => decide (dy l = D) && !decide (ot l = -1)
abbrev wr_w (st wh : Nat → Int) : Nat → Nat := fun l => (st (wh l).toNat).toNat
abbrev wr_q (pl : Nat → Int) : Nat → Nat := fun l => (pl l).toNat
/-- what seatNamed leaves: the lines' bits by seats below 5 -/
abbrev wr_H (σ : pm_S) (dy wh ot : Nat → Int) (D : Int) (st : Nat → Int) (N : Nat) : Prop := (∀ l, l < N → sI σ 26 l = ((wr_nm dy wh ot D st l : Nat) : Int)) ∧ ∀ l, l < N → dy l = D → (0 ≤ st (wh l).toNat ∧ st (wh l).toNat < 5) ∧ (ot l ≠ -1 → (0 ≤ st (ot l).toNat ∧ st (ot l).toNat < 5) ∧ st (ot l).toNat ≠ st (wh l).toNat)
theorem wr_H.fq {σ τ : pm_S} {st : Nat → Int} {N : Nat} (h : wr_H σ dy wh ot D st N) {G : List (Nat × Nat)} (hG : an_inP G 26 = false) (F : FQ G σ τ) : wr_H τ dy wh ot D st N := ⟨fun l hl => by rw [← h.1 l hl]; exact congrArg Int32.toInt (F 26 l (an_inP_ok hG l)), h.2⟩
theorem wr_nm32 {st : Nat → Int} {N l : Nat} {σ : pm_S} (h : wr_H σ dy wh ot D st N) (hl : l < N) (hw : wh l ≠ -1) : wr_nm dy wh ot D st l < 32 := by
  unfold wr_nm
  by_cases e : dy l = D
  · rw [if_pos e]
    obtain ⟨a, b⟩ := h.2 l hl e
    have l1 : wr_sb st (wh l) < 2 ^ 5 := wr_sb_lt (fun _ => by omega) (by decide)
    have l2 : wr_sb st (ot l) < 2 ^ 5 := wr_sb_lt (fun ho => (b ho).1) (by decide)
    exact Nat.or_lt_two_pow (n := 5) l1 l2
  · rw [if_neg e]
    decide
/-- a line that tells of a spot, met with a group -/
theorem wr_nA {st : Nat → Int} {N l g : Nat} {σ : pm_S} (h : wr_H σ dy wh ot D st N) (hl : l < N) (hw : wh l ≠ -1) (ho : ot l = -1) (hg : g < 32) : (wr_nm dy wh ot D st l &&& g = 0) ↔ (wr_A dy ot D l && Nat.testBit g (wr_w st wh l)) = false := by
  unfold wr_nm wr_A
  by_cases e : dy l = D
  · rw [if_pos e, decide_eq_true e, decide_eq_true ho]
    have a := (h.2 l hl e).1
    have e1 : wr_sb st (wh l) = 2 ^ (wr_w st wh l) := if_neg hw
    have e2 : wr_sb st (ot l) = 0 := if_pos ho
    rw [e1, e2, Nat.or_zero]
    exact wr_n1 _ (show (st (wh l).toNat).toNat < 5 by omega) g hg
  · rw [if_neg e, decide_eq_false e, Nat.zero_and]
    exact ⟨fun _ => rfl, fun _ => rfl⟩
theorem wr_nB {st : Nat → Int} {N l g : Nat} {σ : pm_S} (h : wr_H σ dy wh ot D st N) (hl : l < N) (hw : wh l ≠ -1) (hg : g < 32) : (wr_nm dy wh ot D st l &&& g = 0) ↔ ((wr_A dy ot D l && Nat.testBit g (wr_w st wh l)) || (wr_B dy ot D l && (Nat.testBit g (wr_w st wh l) || Nat.testBit g (wr_w st ot l)))) = false := by
  by_cases ho : ot l = -1
  · have q := wr_nA h hl hw ho hg
    have b : wr_B dy ot D l = false := by
      show (decide (dy l = D) && !decide (ot l = -1)) = false
      rw [decide_eq_true ho]
      cases decide (dy l = D) <;> rfl
    rw [b, Bool.false_and, Bool.or_false]
    exact q
  · have a0 : wr_A dy ot D l = false := by
      show (decide (dy l = D) && decide (ot l = -1)) = false
      rw [decide_eq_false ho]
      cases decide (dy l = D) <;> rfl
    rw [a0, Bool.false_and, Bool.false_or]
    unfold wr_nm wr_B
    by_cases e : dy l = D
    · rw [if_pos e, decide_eq_true e, decide_eq_false ho]
      obtain ⟨a, b⟩ := h.2 l hl e
      have b1 := (b ho).1
      have e1 : wr_sb st (wh l) = 2 ^ (wr_w st wh l) := if_neg hw
      have e2 : wr_sb st (ot l) = 2 ^ (wr_w st ot l) := if_neg ho
      rw [e1, e2]
      have q := wr_n2 (wr_w st wh l) (show (st (wh l).toNat).toNat < 5 by omega) (wr_w st ot l) (show (st (ot l).toNat).toNat < 5 by omega) g hg
      rw [q]
      cases Nat.testBit g (wr_w st wh l) <;> cases Nat.testBit g (wr_w st ot l) <;> decide
    · rw [if_neg e, decide_eq_false e, Nat.zero_and]
      exact ⟨fun _ => rfl, fun _ => rfl⟩
theorem andJ {x y z : Int} (hx : 0 ≤ x ∧ x ≤ 1023) (hy : 0 ≤ y ∧ y ≤ 1023) (d : (an_f 3 (Int32.ofInt x) (Int32.ofInt y)).toInt = z) : z = ((x.toNat &&& y.toNat : Nat) : Int) := by
  have h := andN (a := x.toNat) (b := y.toNat) (by omega) (by omega)
  rw [nOf hx.1, nOf hy.1] at h
  rw [← d, h]
set_option maxRecDepth 20000 in
theorem x_tog24 {σ : pm_S} (N g : Nat) (S P : Int) (st : Nat → Int) (hB : an_GB pm_B σ) (hN : N ≤ 30) (hS : S ≤ 10) (eN : (σ.1 21 0).toInt = N) (hR : wr_R σ dy wh ot pl) (hL : wr_L dy wh ot pl N S P) (hH : wr_H σ dy wh ot D st N) (hg : g < 32) : Sp 57 9 [.ref 21, .int (Int32.ofInt (g : Int))] σ (fun r τ => r = some (.int (Int32.ofInt (wr_W (wr_A dy ot D) (wr_w st wh) (wr_q pl) N g))) ∧ an_GB pm_B τ ∧ FQ [(28, 9999)] σ τ) := by
  refine Sp.at rfl rfl ?_
  refine wzwt_0 (g : Int) _ _ _ _ rfl rfl rfl rfl hB ⟨by omega, trivial⟩ ?_
  intro τ0 y0 v0 hv0 hB0 F0 _ _ _ c0
  have z0 : ∀ p, p < 10 → sI τ0 28 p = 0 := fun p hp => by
    obtain ⟨a0, a1, a2, a3, a4, a5, a6, a7, a8, a9, -⟩ := c0
    rcases (show p = 0 ∨ p = 1 ∨ p = 2 ∨ p = 3 ∨ p = 4 ∨ p = 5 ∨ p = 6 ∨ p = 7 ∨ p = 8 ∨ p = 9 by omega) with rfl | rfl | rfl | rfl | rfl | rfl | rfl | rfl | rfl | rfl <;> assumption
  refine Ok.loop (fun i L τ => 0 ≤ i ∧ i ≤ N ∧ an_GB pm_B τ ∧ FQ [(28, 9999)] σ τ ∧ ∃ v5 : Value, v5.category = 1 ∧ L = [.ref 21, .int (Int32.ofInt (g : Int)), .int (Int32.ofInt (wr_al (wr_A dy ot D) (wr_w st wh) i.toNat g)), .int (Int32.ofInt (wr_mx (wr_ty (wr_A dy ot D) (wr_w st wh) (wr_q pl) i.toNat g) 10)), .int (Int32.ofInt i), v5] ∧ ∀ c, c < 10 → sI τ 28 c = wr_ty (wr_A dy ot D) (wr_w st wh) (wr_q pl) i.toNat g c) N (fun i L τ h => h.2.1) ?_ 0 _ τ0 ⟨by decide, by omega, hB0, F0, v0, hv0, rfl, fun c hc => z0 c hc⟩
  rintro i L τ ⟨i0, i1, hB1, F1, v5, hv5, rfl, ht⟩ ih
  have b1 : 0 ≤ wr_al (wr_A dy ot D) (wr_w st wh) i.toNat g ∧ wr_al (wr_A dy ot D) (wr_w st wh) i.toNat g ≤ i := by
    have a := wr_s_n (F := fun l => wr_b (wr_A dy ot D l && Nat.testBit g (wr_w st wh l))) (n := i.toNat) (fun l _ => (wr_b_r _).2)
    have b := wr_s_0 (F := fun l => wr_b (wr_A dy ot D l && Nat.testBit g (wr_w st wh l))) (n := i.toNat) (fun l _ => (wr_b_r _).1)
    unfold wr_al
    omega
  have bt : ∀ c, 0 ≤ wr_ty (wr_A dy ot D) (wr_w st wh) (wr_q pl) i.toNat g c ∧ wr_ty (wr_A dy ot D) (wr_w st wh) (wr_q pl) i.toNat g c ≤ i := fun c => by
    have a := wr_s_n (F := fun l => wr_b (wr_A dy ot D l && Nat.testBit g (wr_w st wh l) && Nat.beq (wr_q pl l) c)) (n := i.toNat) (fun l _ => (wr_b_r _).2)
    have b := wr_s_0 (F := fun l => wr_b (wr_A dy ot D l && Nat.testBit g (wr_w st wh l) && Nat.beq (wr_q pl l) c)) (n := i.toNat) (fun l _ => (wr_b_r _).1)
    unfold wr_ty
    omega
  have b2 : 0 ≤ wr_mx (wr_ty (wr_A dy ot D) (wr_w st wh) (wr_q pl) i.toNat g) 10 ∧ wr_mx (wr_ty (wr_A dy ot D) (wr_w st wh) (wr_q pl) i.toNat g) 10 ≤ i := by
    have l0 : wr_ty (wr_A dy ot D) (wr_w st wh) (wr_q pl) i.toNat g 0 ≤ wr_mx (wr_ty (wr_A dy ot D) (wr_w st wh) (wr_q pl) i.toNat g) 10 := wr_mx_ge (by decide)
    have := bt 0
    rcases wr_mx_at (f := wr_ty (wr_A dy ot D) (wr_w st wh) (wr_q pl) i.toNat g) 10 with e | ⟨c, -, e⟩
    · omega
    · have := bt c
      omega
  generalize eAl : wr_al (wr_A dy ot D) (wr_w st wh) i.toNat g = al at b1 ⊢
  generalize eMo : wr_mx (wr_ty (wr_A dy ot D) (wr_w st wh) (wr_q pl) i.toNat g) 10 = mo at b2 ⊢
  refine wzwt_10 (g : Int) al mo i N v5 hv5 hB1 ⟨by omega, by omega, by omega, by omega, by omega, trivial⟩ ⟨(congrArg Int32.toInt (F1 21 0 rfl)).trans eN, trivial⟩ ?_
  intro τ2 y2 v6 hv6 hB2 F2 _ _ _ _
  have G2 : FQ [(28, 9999)] σ τ2 := FQ.tr F1 (FQ.up (G := []) rfl F2)
  have t2 : ∀ c, c < 10 → sI τ2 28 c = wr_ty (wr_A dy ot D) (wr_w st wh) (wr_q pl) i.toNat g c := fun c hc => (congrArg Int32.toInt (F2 28 c rfl)).trans (ht c hc)
  refine Ok.ic rfl rfl (by omega) (by omega) (by omega) (by omega) (fun z => ?_) (fun z => ?_)
  · have z : (N : Int) ≤ i := z
    have e : i.toNat = N := by omega
    refine wzwt_62 (g : Int) al mo i v6 hv6 hB2 ⟨by omega, by omega, by omega, by omega, trivial⟩ ?_
    intro τ3 y3 hB3 F3 _ _ d3 _
    have s3 := subC (by omega) (by omega) d3.1
    refine ⟨?_, hB3, FQ.tr G2 (FQ.up (G := []) rfl F3)⟩
    unfold wr_W
    rw [← e, eAl, eMo, s3]
  · have z : i < N := z
    have hi30 : i.toNat < 30 := by omega
    have hiN : i.toNat < N := by omega
    have e1 : (i + 1).toNat = i.toNat + 1 := by omega
    have hl := hL i.toNat hiN
    have R2 := hR.fq (G := [(28, 9999)]) rfl G2 i.toNat hi30
    have H2 := hH.fq (G := [(28, 9999)]) rfl G2
    have hw : wh i.toNat ≠ -1 := by omega
    have n32 := wr_nm32 H2 hiN hw
    have sAl : ∀ x, wr_b (wr_A dy ot D i.toNat && Nat.testBit g (wr_w st wh i.toNat)) = x → wr_al (wr_A dy ot D) (wr_w st wh) (i + 1).toNat g = al + x := fun x hx => by
      rw [e1, ← hx, ← eAl]
      rfl
    have sTy : ∀ c, wr_ty (wr_A dy ot D) (wr_w st wh) (wr_q pl) (i + 1).toNat g c = wr_ty (wr_A dy ot D) (wr_w st wh) (wr_q pl) i.toNat g c + wr_b (wr_A dy ot D i.toNat && Nat.testBit g (wr_w st wh i.toNat) && Nat.beq (wr_q pl i.toNat) c) := fun c => by rw [e1]; rfl
    -- a line that counts for nothing here
    have nix : ∀ (τ3 : pm_S) (u : Value), u.category = 1 → an_GB pm_B τ3 → FQ [] τ2 τ3 → (wr_A dy ot D i.toNat && Nat.testBit g (wr_w st wh i.toNat)) = false → Ok 57 9 60 [.ref 21, .int (Int32.ofInt (g : Int)), .int (Int32.ofInt al), .int (Int32.ofInt mo), .int (Int32.ofInt i), u] [] τ3 (fun r τ => r = some (.int (Int32.ofInt (wr_W (wr_A dy ot D) (wr_w st wh) (wr_q pl) N g))) ∧ an_GB pm_B τ ∧ FQ [(28, 9999)] σ τ) := by
      intro τ3 u hu hB3 F3 hA
      refine wzwt_60 (g : Int) al mo i u hu hB3 ⟨by omega, by omega, by omega, by omega, trivial⟩ ?_
      intro τ4 y4 v7 hv7 hB4 F4 _ _ _ _
      have sT : ∀ c, wr_ty (wr_A dy ot D) (wr_w st wh) (wr_q pl) (i + 1).toNat g c = wr_ty (wr_A dy ot D) (wr_w st wh) (wr_q pl) i.toNat g c := fun c => by
        rw [sTy, hA, Bool.false_and]
        exact Int.add_zero _
      refine ih _ τ4 ⟨by omega, by omega, hB4, FQ.tr G2 (FQ.up (G := []) rfl (FQ.tr F3 F4)), v7, hv7, ?_, fun c hc => ?_⟩
      · have sm : wr_mx (wr_ty (wr_A dy ot D) (wr_w st wh) (wr_q pl) (i + 1).toNat g) 10 = mo := by rw [← eMo]; exact wr_mx_cg (fun c _ => sT c)
        rw [sAl 0 (by rw [hA]; rfl), Int.add_zero, sm]
      · rw [sT, show sI τ4 28 c = sI τ2 28 c from (congrArg Int32.toInt (F4 28 c rfl)).trans (congrArg Int32.toInt (F3 28 c rfl))]
        exact t2 c hc
    refine wzwt_14 (g : Int) al mo i v6 hv6 hB2 ⟨by omega, by omega, by omega, by omega, trivial⟩ ?_ ?_ ?_
    · intro τ3 y3 hB3 F3 f3 _ _ c3
      have g4 := f3.2.2.2.2.1
      have p3 : y3 4 = pl i.toNat := by
        rw [← c3.1, F3 25 _ rfl]
        exact R2.2.2.2
      refine nix τ3 _ rfl hB3 F3 ?_
      have ho : ot i.toNat ≠ -1 := by omega
      show (decide (dy i.toNat = D) && decide (ot i.toNat = -1) && _) = false
      rw [decide_eq_false ho, Bool.and_false, Bool.false_and]
    · intro τ3 y3 hB3 F3 f3 _ d3 c3
      have g4 := f3.2.2.2.2.1
      have g6 := f3.2.2.2.2.2.2.1
      have p3 : y3 4 = pl i.toNat := by
        rw [← c3.1, F3 25 _ rfl]
        exact R2.2.2.2
      have n3 : y3 5 = ((wr_nm dy wh ot D st i.toNat : Nat) : Int) := by
        rw [← c3.2.1, F3 26 _ rfl]
        exact H2.1 i.toNat hiN
      have ho : ot i.toNat = -1 := by omega
      have a3 := andJ (by omega) (by omega) d3.1
      rw [n3, Int.toNat_natCast, Int.toNat_natCast] at a3
      exact nix τ3 _ rfl hB3 F3 ((wr_nA H2 hiN hw ho hg).mp (by omega))
    · intro τ3 y3 hB3 F3 f3 _ d3 c3
      have g4 := f3.2.2.2.2.1
      have g6 := f3.2.2.2.2.2.2.1
      have p3 : y3 4 = pl i.toNat := by
        rw [← c3.1, F3 25 _ rfl]
        exact R2.2.2.2
      have n3 : y3 5 = ((wr_nm dy wh ot D st i.toNat : Nat) : Int) := by
        rw [← c3.2.1, F3 26 _ rfl]
        exact H2.1 i.toNat hiN
      have ho : ot i.toNat = -1 := by omega
      have a3 := andJ (by omega) (by omega) d3.1
      rw [n3, Int.toNat_natCast, Int.toNat_natCast] at a3
      have hA : (wr_A dy ot D i.toNat && Nat.testBit g (wr_w st wh i.toNat)) = true := by
        cases e : (wr_A dy ot D i.toNat && Nat.testBit g (wr_w st wh i.toNat)) with
        | true => rfl
        | false =>
          have := (wr_nA H2 hiN hw ho hg).mpr e
          omega
      have q10 : wr_q pl i.toNat < 10 := by
        show (pl i.toNat).toNat < 10
        omega
      have t3 : y3 7 = wr_ty (wr_A dy ot D) (wr_w st wh) (wr_q pl) i.toNat g (wr_q pl i.toNat) := by
        rw [← c3.2.2.1, F3 28 _ rfl, p3]
        exact t2 _ q10
      have bq := bt (wr_q pl i.toNat)
      have a8 := addC (by omega) (by omega) d3.2.1
      refine Ok.ast (n := 10) rfl rfl rfl (by decide) (by omega) (by omega) ?_
      have hB4 : an_GB pm_B (put τ3 28 (y3 4).toNat (Int32.ofInt (y3 8))) := put_GB hB3 (ai_rng _)
      have eq : (y3 4).toNat = wr_q pl i.toNat := by rw [p3]
      have o8 : (Int32.ofInt (y3 8)).toInt = y3 8 := ti_of (by omega) (by omega)
      refine wzwt_50 (g : Int) (al + 1) mo i (y3 4) (y3 8) _ rfl hB4 ⟨by omega, by omega, by omega, by omega, by omega, by omega, trivial⟩ ⟨?_, ?_, trivial⟩ ?_
      · rw [put_nr (by decide), F3 25 _ rfl, p3]
        exact R2.2.2.2
      · rw [put_eq, o8]
      · intro τ5 y5 v7 hv7 hB5 F5 _ _ d5 _
        have m5 := maxC (by omega) (by omega) d5.1
        have sT : ∀ c, c ≠ wr_q pl i.toNat → wr_ty (wr_A dy ot D) (wr_w st wh) (wr_q pl) (i + 1).toNat g c = wr_ty (wr_A dy ot D) (wr_w st wh) (wr_q pl) i.toNat g c := fun c hc => by
          rw [sTy, hA, Bool.true_and, Bool.eq_false_iff.mpr (fun z => hc (Nat.eq_of_beq_eq_true z).symm)]
          exact Int.add_zero _
        have sQ : wr_ty (wr_A dy ot D) (wr_w st wh) (wr_q pl) (i + 1).toNat g (wr_q pl i.toNat) = wr_ty (wr_A dy ot D) (wr_w st wh) (wr_q pl) i.toNat g (wr_q pl i.toNat) + 1 := by
          rw [sTy, hA, Bool.true_and, Nat.beq_refl]
          rfl
        refine ih _ τ5 ⟨by omega, by omega, hB5, FQ.tr G2 (FQ.tr (FQ.up (G := []) rfl F3) (FQ.tr (FQ.put rfl) (FQ.up (G := []) rfl F5))), v7, hv7, ?_, fun c hc => ?_⟩
        · have sm := wr_mx_up (f := wr_ty (wr_A dy ot D) (wr_w st wh) (wr_q pl) i.toNat g) (f' := wr_ty (wr_A dy ot D) (wr_w st wh) (wr_q pl) (i + 1).toNat g) (q := wr_q pl i.toNat) sT sQ 10 q10
          rw [sAl 1 (by rw [hA]; rfl), sm, eMo, show y5 6 = max mo (wr_ty (wr_A dy ot D) (wr_w st wh) (wr_q pl) i.toNat g (wr_q pl i.toNat) + 1) by omega]
        · show (τ5.1 28 c).toInt = _
          rw [F5 28 c rfl, put_get]
          by_cases e : c = (y3 4).toNat
          · rw [if_pos ⟨rfl, e⟩, o8, e, eq, sQ]
            omega
          · rw [if_neg (fun z => e z.2), F3 28 c rfl, sT c (by omega)]
            exact t2 c hc
set_option maxRecDepth 20000 in
theorem x_meet24 {σ : pm_S} (N g h : Nat) (S P : Int) (st : Nat → Int) (hB : an_GB pm_B σ) (hN : N ≤ 30) (eN : (σ.1 21 0).toInt = N) (hL : wr_L dy wh ot pl N S P) (hH : wr_H σ dy wh ot D st N) (hg : g < 32) (hh : h < 32) (hd : ∀ t, (Nat.testBit g t && Nat.testBit h t) = false) : Sp 58 9 [.ref 21, .int (Int32.ofInt (g : Int)), .int (Int32.ofInt (h : Int))] σ (fun r τ => ∃ v : Int, r = some (.int (Int32.ofInt v)) ∧ v = wr_M (wr_B dy ot D) (wr_w st wh) (wr_w st ot) N g h ∧ (0 ≤ v ∧ v ≤ 30) ∧ an_GB pm_B τ ∧ FQ [] σ τ) := by
  refine Sp.at rfl rfl ?_
  refine wzwm_0 (g : Int) (h : Int) _ _ rfl rfl hB ⟨by omega, by omega, trivial⟩ ?_
  intro τ0 y0 hB0 F0 _ _ _ _
  refine Ok.loop (fun i L τ => 0 ≤ i ∧ i ≤ N ∧ an_GB pm_B τ ∧ FQ [] σ τ ∧ L = [.ref 21, .int (Int32.ofInt (g : Int)), .int (Int32.ofInt (h : Int)), .int (Int32.ofInt (wr_M (wr_B dy ot D) (wr_w st wh) (wr_w st ot) i.toNat g h)), .int (Int32.ofInt i)]) N (fun i L τ h => h.2.1) ?_ 0 _ τ0 ⟨by decide, by omega, hB0, F0, rfl⟩
  rintro i L τ ⟨i0, i1, hB1, F1, rfl⟩ ih
  have b1 : 0 ≤ wr_M (wr_B dy ot D) (wr_w st wh) (wr_w st ot) i.toNat g h ∧ wr_M (wr_B dy ot D) (wr_w st wh) (wr_w st ot) i.toNat g h ≤ i := by
    unfold wr_M
    have a := wr_s_n (F := fun l => wr_b (wr_B dy ot D l && ((Nat.testBit g (wr_w st wh l) && Nat.testBit h (wr_w st ot l)) || (Nat.testBit g (wr_w st ot l) && Nat.testBit h (wr_w st wh l))))) (n := i.toNat) (fun l _ => (wr_b_r _).2)
    have b := wr_s_0 (F := fun l => wr_b (wr_B dy ot D l && ((Nat.testBit g (wr_w st wh l) && Nat.testBit h (wr_w st ot l)) || (Nat.testBit g (wr_w st ot l) && Nat.testBit h (wr_w st wh l))))) (n := i.toNat) (fun l _ => (wr_b_r _).1)
    omega
  generalize eM : wr_M (wr_B dy ot D) (wr_w st wh) (wr_w st ot) i.toNat g h = mm at b1 ⊢
  refine wzwm_4 (g : Int) (h : Int) mm i N hB1 ⟨by omega, by omega, by omega, by omega, by omega, trivial⟩ ⟨(congrArg Int32.toInt (F1 21 0 rfl)).trans eN, trivial⟩ ?_
  intro τ2 y2 hB2 F2 _ _ _ _
  have G2 : FQ [] σ τ2 := FQ.tr F1 F2
  refine Ok.ic rfl rfl (by omega) (by omega) (by omega) (by omega) (fun z => ?_) (fun z => ?_)
  · have z : (N : Int) ≤ i := z
    have e : i.toNat = N := by omega
    refine wzwm_30 (g : Int) (h : Int) mm i hB2 ⟨by omega, by omega, by omega, by omega, trivial⟩ ?_
    intro τ3 y3 hB3 F3 _ _ _ _
    exact ⟨mm, rfl, by rw [← e, eM], by omega, hB3, FQ.tr G2 F3⟩
  · have z : i < N := z
    have hiN : i.toNat < N := by omega
    have e1 : (i + 1).toNat = i.toNat + 1 := by omega
    have hl := hL i.toNat hiN
    have hw : wh i.toNat ≠ -1 := by omega
    have H2 := hH.fq (G := []) rfl G2
    have n32 := wr_nm32 H2 hiN hw
    have sM : ∀ x, wr_b (wr_B dy ot D i.toNat && ((Nat.testBit g (wr_w st wh i.toNat) && Nat.testBit h (wr_w st ot i.toNat)) || (Nat.testBit g (wr_w st ot i.toNat) && Nat.testBit h (wr_w st wh i.toNat)))) = x → wr_M (wr_B dy ot D) (wr_w st wh) (wr_w st ot) (i + 1).toNat g h = mm + x := fun x hx => by
      rw [e1, ← hx, ← eM]
      rfl
    have ng := wr_nB H2 hiN hw hg
    have nh := wr_nB H2 hiN hw hh
    have dw := hd (wr_w st wh i.toNat)
    have dv := hd (wr_w st ot i.toNat)
    refine wzwm_8 (g : Int) (h : Int) mm i hB2 ⟨by omega, by omega, by omega, by omega, trivial⟩ ?_ ?_ ?_
    · intro τ3 y3 hB3 F3 f3 _ d3 c3
      have g5 := f3.2.2.2.2.2.1
      have n3 : y3 4 = ((wr_nm dy wh ot D st i.toNat : Nat) : Int) := by
        rw [← c3.1, F3 26 _ rfl]
        exact H2.1 i.toNat hiN
      have a3 := andJ (by omega) (by omega) d3.1
      rw [n3, Int.toNat_natCast, Int.toNat_natCast] at a3
      have q := ng.mp (by omega)
      refine ih _ τ3 ⟨by omega, by omega, hB3, FQ.tr G2 F3, ?_⟩
      rw [sM 0 (by
        revert q
        generalize Nat.testBit g (wr_w st wh i.toNat) = t1
        generalize Nat.testBit g (wr_w st ot i.toNat) = t2
        generalize Nat.testBit h (wr_w st wh i.toNat) = t3
        generalize Nat.testBit h (wr_w st ot i.toNat) = t4
        generalize wr_A dy ot D i.toNat = aa
        generalize wr_B dy ot D i.toNat = bb
        revert t1 t2 t3 t4 aa bb
        decide), Int.add_zero]
    · intro τ3 y3 hB3 F3 f3 _ d3 c3
      have g6 := f3.2.2.2.2.2.2.1
      have n3 : y3 4 = ((wr_nm dy wh ot D st i.toNat : Nat) : Int) := by
        rw [← c3.1, F3 26 _ rfl]
        exact H2.1 i.toNat hiN
      have a3 := andJ (by omega) (by omega) d3.2.1
      rw [n3, Int.toNat_natCast, Int.toNat_natCast] at a3
      have q := nh.mp (by omega)
      refine ih _ τ3 ⟨by omega, by omega, hB3, FQ.tr G2 F3, ?_⟩
      rw [sM 0 (by
        revert q
        generalize Nat.testBit g (wr_w st wh i.toNat) = t1
        generalize Nat.testBit g (wr_w st ot i.toNat) = t2
        generalize Nat.testBit h (wr_w st wh i.toNat) = t3
        generalize Nat.testBit h (wr_w st ot i.toNat) = t4
        generalize wr_A dy ot D i.toNat = aa
        generalize wr_B dy ot D i.toNat = bb
        revert t1 t2 t3 t4 aa bb
        decide), Int.add_zero]
    · intro τ3 y3 hB3 F3 f3 _ d3 c3
      have g5 := f3.2.2.2.2.2.1
      have g6 := f3.2.2.2.2.2.2.1
      have n3 : y3 4 = ((wr_nm dy wh ot D st i.toNat : Nat) : Int) := by
        rw [← c3.1, F3 26 _ rfl]
        exact H2.1 i.toNat hiN
      have a3 := andJ (by omega) (by omega) d3.1
      have a4 := andJ (by omega) (by omega) d3.2.1
      rw [n3, Int.toNat_natCast, Int.toNat_natCast] at a3 a4
      have q1 : ((wr_A dy ot D i.toNat && Nat.testBit g (wr_w st wh i.toNat)) || (wr_B dy ot D i.toNat && (Nat.testBit g (wr_w st wh i.toNat) || Nat.testBit g (wr_w st ot i.toNat)))) = true := by
        cases e : ((wr_A dy ot D i.toNat && Nat.testBit g (wr_w st wh i.toNat)) || (wr_B dy ot D i.toNat && (Nat.testBit g (wr_w st wh i.toNat) || Nat.testBit g (wr_w st ot i.toNat)))) with
        | true => rfl
        | false =>
          have := ng.mpr e
          omega
      have q2 : ((wr_A dy ot D i.toNat && Nat.testBit h (wr_w st wh i.toNat)) || (wr_B dy ot D i.toNat && (Nat.testBit h (wr_w st wh i.toNat) || Nat.testBit h (wr_w st ot i.toNat)))) = true := by
        cases e : ((wr_A dy ot D i.toNat && Nat.testBit h (wr_w st wh i.toNat)) || (wr_B dy ot D i.toNat && (Nat.testBit h (wr_w st wh i.toNat) || Nat.testBit h (wr_w st ot i.toNat)))) with
        | true => rfl
        | false =>
          have := nh.mpr e
          omega
      have ab : (wr_A dy ot D i.toNat && wr_B dy ot D i.toNat) = false := by
        show (decide (dy i.toNat = D) && decide (ot i.toNat = -1) && (decide (dy i.toNat = D) && !decide (ot i.toNat = -1))) = false
        cases decide (dy i.toNat = D) <;> cases decide (ot i.toNat = -1) <;> rfl
      refine ih _ τ3 ⟨by omega, by omega, hB3, FQ.tr G2 F3, ?_⟩
      rw [sM 1 (by
        revert q1 q2 ab dw dv
        generalize Nat.testBit g (wr_w st wh i.toNat) = t1
        generalize Nat.testBit g (wr_w st ot i.toNat) = t2
        generalize Nat.testBit h (wr_w st wh i.toNat) = t3
        generalize Nat.testBit h (wr_w st ot i.toNat) = t4
        generalize wr_A dy ot D i.toNat = aa
        generalize wr_B dy ot D i.toNat = bb
        revert t1 t2 t3 t4 aa bb
        decide)]
end WRG
