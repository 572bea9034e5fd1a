/-! rounds, the class: the first of the shortest -/
section FIND
variable {E : Nat → Prop} {D P : Nat}
/-- what stands while a round is looked for: how many people and debts, who owes whom, which count -/
abbrev lkR (E : Nat → Prop) (D P : Nat) (σ : pm_S) : Prop := D ≤ 30 ∧ P ≤ 10 ∧ sI σ 13 0 = (D : Int) ∧ sI σ 7 0 = (P : Int) ∧ (∀ d, E d → d < D ∧ nt (σ.1 14) d < P ∧ nt (σ.1 15) d < P) ∧ ctR E D (sI σ 76) ∧ owR E (nt (σ.1 14)) (nt (σ.1 15)) (sI σ 77)
theorem lkR.fq {σ τ : pm_S} {G : List (Nat × Nat)} (h : lkR E D P σ) (F : FQ G σ τ) (h13 : an_inP G 13 = false) (h7 : an_inP G 7 = false) (h14 : an_inP G 14 = false) (h15 : an_inP G 15 = false) (h76 : an_inP G 76 = false) (h77 : an_inP G 77 = false) : lkR E D P τ := by
  obtain ⟨a, b, c, e, f, g, o⟩ := h
  have e14 := row_fq F h14
  have e15 := row_fq F h15
  refine ⟨a, b, ?_, ?_, ?_, ?_, ?_⟩
  · show (τ.1 13 0).toInt = _
    rw [row_fq F h13]
    exact c
  · show (τ.1 7 0).toInt = _
    rw [row_fq F h7]
    exact e
  · rw [e14, e15]
    exact f
  · show ctR E D (fun j => (τ.1 76 j).toInt)
    rw [row_fq F h76]
    exact g
  · show owR E (nt (τ.1 14)) (nt (τ.1 15)) (fun j => (τ.1 77 j).toInt)
    rw [e14, e15, row_fq F h77]
    exact o
theorem dv_b {E : Nat → Prop} {Db Cr : Nat → Nat} {a b : Nat} {v : Int} (h : dv E Db Cr a b v) : 0 ≤ v ∧ v ≤ 99 := by
  rcases h with ⟨h, _⟩ | ⟨k, h1, h2, _⟩
  · omega
  · omega
theorem dv_y {E : Nat → Prop} {Db Cr : Nat → Nat} {a b t : Nat} (ht : t ≤ 9) (h : dv E Db Cr a b (t : Int)) : dst E Db Cr t a b := by
  rcases h with ⟨h, _⟩ | ⟨k, h1, h2, h3⟩
  · omega
  · rw [show t = k by omega]
    exact h3
theorem dv_n {E : Nat → Prop} {Db Cr : Nat → Nat} {a b t : Nat} {v : Int} (ht : t ≤ 9) (h : dv E Db Cr a b v) (hv : v ≠ (t : Int)) : ¬ dst E Db Cr t a b := fun g => by
  rcases h with ⟨_, h⟩ | ⟨k, h1, h2, h3⟩
  · exact h t ht g.1
  · exact hv (by rw [h2, h3.un g])
theorem nt_i {f : Nat → Int32} {d : Nat} (h : 0 ≤ (f d).toInt) : (f d).toInt = ((nt f d : Nat) : Int) := by
  show (f d).toInt = (((f d).toInt.toNat : Nat) : Int)
  omega
set_option maxRecDepth 20000 in
/-- the least debt that leads on -/
theorem x_ldt {σ : pm_S} {a b t : Nat} (h : lkR E D P σ) (ha : a < 10) (hb : b < 10) (ht : t ≤ 8) (hx : ∃ d, E d ∧ nt (σ.1 14) d = a ∧ dst E (nt (σ.1 14)) (nt (σ.1 15)) t (nt (σ.1 15) d) b) (hB0 : an_GB pm_B σ) : Sp 102 5 [.ref 74, .int (Int32.ofInt (a : Int)), .int (Int32.ofInt (b : Int)), .int (Int32.ofInt (t : Int))] σ (fun r τ => (∃ d : Nat, r = some (.int (Int32.ofInt (d : Int))) ∧ d < D ∧ E d ∧ nt (σ.1 14) d = a ∧ dst E (nt (σ.1 14)) (nt (σ.1 15)) t (nt (σ.1 15) d) b ∧ ∀ i, i < d → E i → nt (σ.1 14) i = a → ¬ dst E (nt (σ.1 14)) (nt (σ.1 15)) t (nt (σ.1 15) i) b) ∧ an_GB pm_B τ ∧ FQ [] σ τ) := by
  have h0 := h
  obtain ⟨hD, hP, eD, eP, hE, hc, ho⟩ := h
  have lp : ∀ (k d : Nat) (τ : pm_S) (v5 : Value), d + k = D → v5.category = 1 → an_GB pm_B τ → FQ [] σ τ → (∀ i, i < d → E i → nt (σ.1 14) i = a → ¬ dst E (nt (σ.1 14)) (nt (σ.1 15)) t (nt (σ.1 15) i) b) → Ok 102 5 2 [.ref 74, .int (Int32.ofInt (a : Int)), .int (Int32.ofInt (b : Int)), .int (Int32.ofInt (t : Int)), .int (Int32.ofInt (d : Int)), v5] [] τ (fun r τ => (∃ d : Nat, r = some (.int (Int32.ofInt (d : Int))) ∧ d < D ∧ E d ∧ nt (σ.1 14) d = a ∧ dst E (nt (σ.1 14)) (nt (σ.1 15)) t (nt (σ.1 15) d) b ∧ ∀ i, i < d → E i → nt (σ.1 14) i = a → ¬ dst E (nt (σ.1 14)) (nt (σ.1 15)) t (nt (σ.1 15) i) b) ∧ an_GB pm_B τ ∧ FQ [] σ τ) := by
    intro k
    induction k with
    | zero =>
      intro d τ v5 hd c5 hB F hn
      obtain ⟨d', x1, x2, x3⟩ := hx
      exact absurd x3 (hn d' (by have := (hE d' x1).1; omega) x1 x2)
    | succ k ih =>
      intro d τ v5 hd c5 hB F hn
      have hdD : d < D := by omega
      have ed : ((d : Int)).toNat = d := by omega
      have b14 : 0 ≤ sI σ 14 d ∧ sI σ 14 d ≤ 9 := hB0 14 d (show d < 30 by omega)
      have b15 : 0 ≤ sI σ 15 d ∧ sI σ 15 d ≤ 9 := hB0 15 d (show d < 30 by omega)
      have i14 : sI σ 14 d = ((nt (σ.1 14) d : Nat) : Int) := nt_i b14.1
      have i15 : sI σ 15 d = ((nt (σ.1 15) d : Nat) : Int) := nt_i b15.1
      refine rf_l2 a b t d D v5 c5 hB ⟨by omega, by omega, by omega, by omega, by omega, trivial⟩ ⟨(congrArg Int32.toInt (F 13 0 rfl)).trans eD, trivial⟩ ?_
      intro τ1 y1 w5 c6 hB1 F1 _ _ _ _
      refine Ok.ic rfl rfl (by omega) (by omega) (by omega) (by omega) (fun g => ?_) (fun g => ?_)
      · have g : (D : Int) ≤ (d : Int) := g
        exfalso
        omega
      have G1 : FQ [] σ τ1 := FQ.tr F F1
      -- on with the next one
      have nx : ∀ (τ' : pm_S) (w : Value), w.category = 1 → an_GB pm_B τ' → FQ [] σ τ' → (E d → nt (σ.1 14) d = a → ¬ dst E (nt (σ.1 14)) (nt (σ.1 15)) t (nt (σ.1 15) d) b) → Ok 102 5 2 [.ref 74, .int (Int32.ofInt (a : Int)), .int (Int32.ofInt (b : Int)), .int (Int32.ofInt (t : Int)), .int (Int32.ofInt ((d : Int) + 1)), w] [] τ' (fun r τ => (∃ d : Nat, r = some (.int (Int32.ofInt (d : Int))) ∧ d < D ∧ E d ∧ nt (σ.1 14) d = a ∧ dst E (nt (σ.1 14)) (nt (σ.1 15)) t (nt (σ.1 15) d) b ∧ ∀ i, i < d → E i → nt (σ.1 14) i = a → ¬ dst E (nt (σ.1 14)) (nt (σ.1 15)) t (nt (σ.1 15) i) b) ∧ an_GB pm_B τ ∧ FQ [] σ τ) := by
        intro τ' w cw hB' F' z
        rw [show (d : Int) + 1 = ((d + 1 : Nat) : Int) by omega]
        refine ih (d + 1) τ' w (by omega) cw hB' F' (fun i hi => ?_)
        by_cases e : i = d
        · rw [e]
          exact z
        · exact hn i (by omega)
      rcases hc d hdD with ⟨c0, nE⟩ | ⟨c1, yE⟩
      · refine rf_l8f a b t d w5 c6 hB1 ⟨by omega, by omega, by omega, by omega, trivial⟩ ⟨by rw [ed]; exact (congrArg Int32.toInt (G1 76 d rfl)).trans c0, trivial⟩ ?_
        intro τ2 y2 hB2 F2 _ _ _ _
        exact nx τ2 _ rfl hB2 (FQ.tr G1 F2) (fun z => absurd z nE)
      · refine rf_l8 a b t d ((nt (σ.1 14) d : Nat) : Int) w5 c6 hB1 ⟨by omega, by omega, by omega, by omega, by omega, trivial⟩ ⟨by rw [ed]; exact (congrArg Int32.toInt (G1 76 d rfl)).trans c1, by rw [ed]; exact (congrArg Int32.toInt (G1 14 d rfl)).trans i14, trivial⟩ ?_
        intro τ2 y2 w6 c7 hB2 F2 _ _ _ _
        have G2 : FQ [] σ τ2 := FQ.tr G1 F2
        refine Ok.ic rfl rfl (by omega) (by omega) (by omega) (by omega) (fun g => ?_) (fun g => ?_)
        · have g : ((nt (σ.1 14) d : Nat) : Int) ≠ (a : Int) := g
          refine rf_l23 a b t d w6 c7 hB2 ⟨by omega, by omega, by omega, by omega, trivial⟩ ?_
          intro τ3 y3 hB3 F3 _ _ _ _
          exact nx τ3 _ rfl hB3 (FQ.tr G2 F3) (fun _ z => absurd (congrArg (fun n : Nat => (n : Int)) z) g)
        · have g : ((nt (σ.1 14) d : Nat) : Int) = (a : Int) := g
          have ga : nt (σ.1 14) d = a := by omega
          refine rf_l21 a b t d ((nt (σ.1 15) d : Nat) : Int) w6 c7 hB2 ⟨by omega, by omega, by omega, by omega, by omega, trivial⟩ ⟨by rw [ed]; exact (congrArg Int32.toInt (G2 15 d rfl)).trans i15, trivial⟩ ?_
          intro τ3 y3 hB3 F3 _ _ _ _
          have G3 : FQ [] σ τ3 := FQ.tr G2 F3
          obtain ⟨_, _, eD3, eP3, hE3, hc3, ho3⟩ := h0.fq G3 rfl rfl rfl rfl rfl rfl
          refine Ok.cv rfl rfl rfl rfl rfl rfl rfl ?_
          refine (x_stb (E := E) (Db := nt (τ3.1 14)) (Cr := nt (τ3.1 15)) (a := nt (σ.1 15) d) (b := b) (P := P) (by omega) hb hP eP3 ho3 (fun d e => ⟨(hE3 d e).2.1, by have := (hE3 d e).2.2; omega⟩) hB3).use (by decide) (fun r τ4 q => ?_)
          obtain ⟨⟨v, rfl, hv⟩, hB4, F4⟩ := q
          rw [row_fq G3 (P := 14) rfl, row_fq G3 (P := 15) rfl] at hv
          have bv := dv_b hv
          have G4 : FQ [] σ τ4 := FQ.tr G3 F4
          refine rf_l36 a b t d v _ rfl hB4 ⟨by omega, by omega, by omega, by omega, bv, trivial⟩ ?_
          intro τ5 y5 w7 c8 hB5 F5 _ _ _ _
          have G5 : FQ [] σ τ5 := FQ.tr G4 F5
          refine Ok.ic rfl rfl (by omega) (by omega) (by omega) (by omega) (fun w => ?_) (fun w => ?_)
          · have w : v ≠ (t : Int) := w
            refine rf_l40 a b t d w7 c8 hB5 ⟨by omega, by omega, by omega, by omega, trivial⟩ ?_
            intro τ6 y6 w8 c9 hB6 F6 _ _ _ _
            exact nx τ6 w8 c9 hB6 (FQ.tr G5 F6) (fun _ _ => dv_n (by omega) hv w)
          · have w : v = (t : Int) := w
            rw [w] at hv
            refine rf_l38 a b t d w7 c8 hB5 ⟨by omega, by omega, by omega, by omega, trivial⟩ ?_
            intro τ6 y6 hB6 F6 _ _ _ _
            exact ⟨⟨d, rfl, hdD, yE, ga, dv_y (by omega) hv, hn⟩, hB6, FQ.tr G5 F6⟩
  refine Sp.at rfl rfl ?_
  refine rf_l0 a b t _ _ rfl rfl hB0 ⟨by omega, by omega, by omega, trivial⟩ ?_
  intro τ1 y1 v5 c5 hB1 F1 _ _ _ _
  exact lp D 0 τ1 v5 (Nat.zero_add _) c5 hB1 F1 (fun i hi => absurd hi (Nat.not_lt_zero _))
/-- the debts of the row that is kept -/
abbrev rwR (R : Nat → Nat) (i : Nat) (rw_ : Nat → Int) : Prop := ∀ j, j < i → rw_ j = ((R j : Nat) : Int)
/-- each next one is the least that leads on -/
abbrev trR (E : Nat → Prop) (Db Cr : Nat → Nat) (R : Nat → Nat) (n i : Nat) : Prop := ∀ j, 0 < j → j < i → E (R j) ∧ Db (R j) = Cr (R (j - 1)) ∧ dst E Db Cr (n - 1 - j) (Cr (R j)) (Db (R 0)) ∧ ∀ d, E d → Db d = Cr (R (j - 1)) → dst E Db Cr (n - 1 - j) (Cr d) (Db (R 0)) → R j ≤ d
abbrev FTrc : List (Nat × Nat) := [(74, 5), (78, 9999)]
set_option maxRecDepth 20000 in
/-- a round from its first debt -/
theorem x_trr {σ : pm_S} {g n : Nat} (h : lkR E D P σ) (hg : E g) (hn : 2 ≤ n ∧ n ≤ 10) (hd : dst E (nt (σ.1 14)) (nt (σ.1 15)) (n - 1) (nt (σ.1 15) g) (nt (σ.1 14) g)) (hB0 : an_GB pm_B σ) : Sp 101 7 [.ref 74, .int (Int32.ofInt (g : Int)), .int (Int32.ofInt (n : Int))] σ (fun r τ => r = none ∧ an_GB pm_B τ ∧ FQ FTrc σ τ ∧ sI τ 74 5 = (n : Int) ∧ ∃ R : Nat → Nat, R 0 = g ∧ rwR R n (sI τ 78) ∧ (∀ j, j < n → R j < D) ∧ trR E (nt (σ.1 14)) (nt (σ.1 15)) R n n) := by
  have h0 := h
  obtain ⟨hD, hP, eD, eP, hE, hc, ho⟩ := h
  have hgE := hE g hg
  have eg : ((g : Int)).toNat = g := by omega
  have lp : ∀ (m i : Nat) (R : Nat → Nat) (τ : pm_S) (v6 : Value), i + m = n → 1 ≤ i → v6.category = 1 → an_GB pm_B τ → FQ FTrc σ τ → sI τ 74 5 = (i : Int) → R 0 = g → rwR R i (sI τ 78) → (∀ j, j < i → R j < D) → E (R (i - 1)) → dst E (nt (σ.1 14)) (nt (σ.1 15)) m (nt (σ.1 15) (R (i - 1))) (nt (σ.1 14) g) → trR E (nt (σ.1 14)) (nt (σ.1 15)) R n i → Ok 101 7 26 [.ref 74, .int (Int32.ofInt (g : Int)), .int (Int32.ofInt (n : Int)), .int (Int32.ofInt ((nt (σ.1 14) g : Nat) : Int)), .int (Int32.ofInt ((nt (σ.1 15) (R (i - 1)) : Nat) : Int)), .int (Int32.ofInt (m : Int)), v6] [] τ (fun r τ => r = none ∧ an_GB pm_B τ ∧ FQ FTrc σ τ ∧ sI τ 74 5 = (n : Int) ∧ ∃ R : Nat → Nat, R 0 = g ∧ rwR R n (sI τ 78) ∧ (∀ j, j < n → R j < D) ∧ trR E (nt (σ.1 14)) (nt (σ.1 15)) R n n) := by
    intro m
    induction m with
    | zero =>
      intro i R τ v6 hi h1 c6 hB F e5 eR hr hl hEr hdm ht
      have at1 := (hE _ hEr).2.2
      have e : i = n := by omega
      subst e
      refine rf_t26 g i ((nt (σ.1 14) g : Nat) : Int) ((nt (σ.1 15) (R (i - 1)) : Nat) : Int) ((0 : Nat) : Int) i v6 c6 hB ⟨by omega, by omega, by omega, by omega, by omega, by omega, trivial⟩ ⟨e5, trivial⟩ ?_ ?_ ?_
      · intro τ1 y1 hB1 F1 _ _ _ _
        refine ⟨rfl, hB1, FQ.tr F (FQ.up (G := []) rfl F1), (congrArg Int32.toInt (F1 74 5 rfl)).trans e5, R, eR, fun j hj => (congrArg Int32.toInt (F1 78 j rfl)).trans (hr j hj), hl, ht⟩
      · intro τ1 y1 _ _ f _ _ _
        have f4 := f.2.2.2.2.1
        exfalso
        omega
      · intro τ1 y1 w6 _ _ _ f _ _ _
        have f4 := f.2.2.2.2.1
        exfalso
        omega
    | succ m ih =>
      intro i R τ v6 hi h1 c6 hB F e5 eR hr hl hEr hdm ht
      have at1 := (hE _ hEr).2.2
      refine rf_t26 g n ((nt (σ.1 14) g : Nat) : Int) ((nt (σ.1 15) (R (i - 1)) : Nat) : Int) ((m + 1 : Nat) : Int) i v6 c6 hB ⟨by omega, by omega, by omega, by omega, by omega, by omega, trivial⟩ ⟨e5, trivial⟩ ?_ ?_ ?_
      · intro τ1 y1 _ _ f _ _ _
        have f4 := f.2.2.2.2.1
        exfalso
        omega
      · intro τ1 y1 _ _ f _ _ _
        have f5 := f.2.2.2.2.2.1
        exfalso
        omega
      intro τ1 y1 w6 c7 hB1 F1 _ _ _ _
      have G1 : FQ FTrc σ τ1 := FQ.tr F (FQ.up (G := []) rfl F1)
      have e14 := row_fq G1 (P := 14) rfl
      have e15 := row_fq G1 (P := 15) rfl
      have L1 : lkR E D P τ1 := h0.fq G1 rfl rfl rfl rfl rfl rfl
      refine Ok.cv rfl rfl rfl rfl rfl rfl rfl ?_
      rw [show ((m + 1 : Nat) : Int) + (-1) = (m : Int) by omega]
      refine (x_ldt (E := E) (D := D) (P := P) (σ := τ1) (a := nt (σ.1 15) (R (i - 1))) (b := nt (σ.1 14) g) (t := m) L1 (by omega) (by omega) (by omega) ?_ hB1).use (by decide) (fun r τ2 q => ?_)
      · rw [e14, e15]
        obtain ⟨⟨d, x1, x2, x3⟩, x4⟩ := hdm
        exact ⟨d, x1, x2, x3, fun j hj w => x4 (j + 1) (by omega) ⟨d, x1, x2, w⟩⟩
      obtain ⟨⟨d, rfl, hdD, yE, q1, q2, q3⟩, hB2, F2⟩ := q
      rw [e14] at q1 q2 q3
      rw [e15] at q2 q3
      have G2 : FQ FTrc σ τ2 := FQ.tr G1 (FQ.up (G := []) rfl F2)
      have g2 : FQ [] τ τ2 := FQ.tr F1 F2
      have ed : ((d : Int)).toNat = d := by omega
      have ei : ((i : Int)).toNat = i := by omega
      refine rf_t41 g n ((nt (σ.1 14) g : Nat) : Int) ((nt (σ.1 15) (R (i - 1)) : Nat) : Int) ((m + 1 : Nat) : Int) d i w6 c7 hB2 ⟨by omega, by omega, by omega, by omega, by omega, by omega, by omega, trivial⟩ ⟨(congrArg Int32.toInt (g2 74 5 rfl)).trans e5, trivial⟩ ?_
      intro τ3 y3 hB3 F3 _ _ _ _
      have g3 : FQ [] τ τ3 := FQ.tr g2 F3
      refine Ok.ast (n := 10) rfl rfl rfl (by decide) (by omega) (by omega) ?_
      rw [ei]
      have hB4 : an_GB pm_B (put τ3 78 i (Int32.ofInt (d : Int))) := put_GB hB3 (show (0 : Int) ≤ (Int32.ofInt (d : Int)).toInt ∧ (Int32.ofInt (d : Int)).toInt ≤ 29 by rw [ti_of (by omega) (by omega)]; omega)
      have P4 : FQ [(78, 9999)] τ3 (put τ3 78 i (Int32.ofInt (d : Int))) := FQ.put rfl
      have v4 : ∀ j, sI (put τ3 78 i (Int32.ofInt (d : Int))) 78 j = if j = i then (d : Int) else sI τ3 78 j := fun j => by
        show ((put τ3 78 i (Int32.ofInt (d : Int))).1 78 j).toInt = _
        rw [put_get]
        by_cases e : j = i
        · rw [if_pos ⟨rfl, e⟩, if_pos e, ti_of (by omega) (by omega)]
        · rw [if_neg (fun z => e z.2), if_neg e]
      generalize put τ3 78 i (Int32.ofInt (d : Int)) = τ4 at hB4 P4 v4 ⊢
      have G4 : FQ FTrc σ τ4 := FQ.tr F (FQ.tr (FQ.up (G := []) rfl g3) (FQ.up (G := [(78, 9999)]) rfl P4))
      have hd15 := (hE d yE).2.2
      have i15 : sI τ4 15 d = ((nt (σ.1 15) d : Nat) : Int) := by
        have b15 : 0 ≤ sI σ 15 d ∧ sI σ 15 d ≤ 9 := hB0 15 d (show d < 30 by omega)
        exact (congrArg Int32.toInt (G4 15 d rfl)).trans (nt_i b15.1)
      have e54 : sI τ4 74 5 = (i : Int) := by
        rw [show sI τ4 74 5 = sI τ3 74 5 from congrArg Int32.toInt (P4 74 5 rfl), show sI τ3 74 5 = sI τ 74 5 from congrArg Int32.toInt (g3 74 5 rfl)]
        exact e5
      refine rf_t52 g n ((nt (σ.1 14) g : Nat) : Int) ((nt (σ.1 15) (R (i - 1)) : Nat) : Int) ((m + 1 : Nat) : Int) d i ((nt (σ.1 15) d : Nat) : Int) hB4 ⟨by omega, by omega, by omega, by omega, by omega, by omega, by omega, by omega, trivial⟩ ⟨e54, by rw [ed]; exact i15, trivial⟩ ?_
      intro τ5 y5 hB5 F5 _ _ _ c5
      have e55 : sI τ5 74 5 = (i : Int) + 1 := by
        have z := c5
        first
          | exact z.2.1
          | exact z.1
          | exact z.2.2.1
      have ne : ∀ j, j < i → j ≠ i := fun j hj => by omega
      let R' : Nat → Nat := fun j => if j = i then d else R j
      have R'i : R' i = d := if_pos rfl
      have R'n : ∀ j, j < i → R' j = R j := fun j hj => if_neg (ne j hj)
      have key := ih (i + 1) R' τ5 (.int (Int32.ofInt (d : Int))) (by omega) (by omega) rfl hB5 (FQ.tr G4 (FQ.up (G := [(74, 5)]) rfl F5)) (by rw [e55]; omega) (by rw [R'n 0 (by omega)]; exact eR) (fun j hj => ?_) (fun j hj => ?_) ?_ ?_ (fun j h0j hj => ?_)
      · rw [show i + 1 - 1 = i by omega, R'i] at key
        rw [show ((m + 1 : Nat) : Int) + (-1) = (m : Int) by omega]
        exact key
      · rw [show sI τ5 78 j = sI τ4 78 j from congrArg Int32.toInt (F5 78 j rfl), v4 j]
        by_cases e : j = i
        · rw [if_pos e, e, R'i]
        · rw [if_neg e, R'n j (by omega), show sI τ3 78 j = sI τ 78 j from congrArg Int32.toInt (g3 78 j rfl)]
          exact hr j (by omega)
      · by_cases e : j = i
        · rw [e, R'i]
          exact hdD
        · rw [R'n j (by omega)]
          exact hl j (by omega)
      · rw [show i + 1 - 1 = i by omega, R'i]
        exact yE
      · rw [show i + 1 - 1 = i by omega, R'i]
        exact q2
      · by_cases e : j = i
        · rw [e, R'i, R'n (i - 1) (by omega), R'n 0 (by omega), eR, show n - 1 - i = m by omega]
          refine ⟨yE, q1, q2, fun d' e1 e2 e3 => ?_⟩
          rcases Nat.lt_or_ge d' d with x | x
          · exact absurd e3 (q3 d' x e1 e2)
          · exact x
        · rw [R'n j (by omega), R'n (j - 1) (by omega), R'n 0 (by omega)]
          exact ht j h0j (by omega)
  refine Sp.at rfl rfl ?_
  refine rf_t0 g n _ _ _ _ rfl rfl rfl rfl hB0 ⟨by omega, by omega, trivial⟩ ?_
  intro τ1 y1 v3 v4 v5 v6 c3 c4 c5 c6 hB1 F1 _ _ _ _
  refine Ok.ast (n := 10) rfl rfl rfl (by decide) (by omega) (by omega) ?_
  have hB2 : an_GB pm_B (put τ1 78 (0 : Int).toNat (Int32.ofInt (g : Int))) := put_GB hB1 (show (0 : Int) ≤ (Int32.ofInt (g : Int)).toInt ∧ (Int32.ofInt (g : Int)).toInt ≤ 29 by rw [ti_of (by omega) (by omega)]; omega)
  have P2 : FQ [(78, 9999)] τ1 (put τ1 78 (0 : Int).toNat (Int32.ofInt (g : Int))) := FQ.put rfl
  have v2 : sI (put τ1 78 (0 : Int).toNat (Int32.ofInt (g : Int))) 78 0 = (g : Int) := by
    show ((put τ1 78 0 (Int32.ofInt (g : Int))).1 78 0).toInt = _
    rw [put_eq, ti_of (by omega) (by omega)]
  generalize put τ1 78 (0 : Int).toNat (Int32.ofInt (g : Int)) = τ2 at hB2 P2 v2 ⊢
  have G2 : FQ FTrc σ τ2 := FQ.tr (FQ.up (G := []) rfl F1) (FQ.up (G := [(78, 9999)]) rfl P2)
  have b14 : 0 ≤ sI σ 14 g ∧ sI σ 14 g ≤ 9 := hB0 14 g (show g < 30 by omega)
  have b15 : 0 ≤ sI σ 15 g ∧ sI σ 15 g ≤ 9 := hB0 15 g (show g < 30 by omega)
  refine rf_t5 g n ((nt (σ.1 14) g : Nat) : Int) ((nt (σ.1 15) g : Nat) : Int) v3 v4 v5 v6 c3 c4 c5 c6 hB2 ⟨by omega, by omega, by omega, by omega, trivial⟩ ⟨by rw [eg]; exact (congrArg Int32.toInt (G2 14 g rfl)).trans (nt_i b14.1), by rw [eg]; exact (congrArg Int32.toInt (G2 15 g rfl)).trans (nt_i b15.1), trivial⟩ ?_
  intro τ3 y3 w6 c7 hB3 F3 _ _ _ cc
  have e5 : sI τ3 74 5 = 1 := by
    have z := cc
    first
      | exact z.2.2.1
      | exact z.2.1
      | exact z.1
  have key := lp (n - 1) 1 (fun _ => g) τ3 w6 (by omega) (Nat.le_refl _) c7 hB3 (FQ.tr G2 (FQ.up (G := [(74, 5)]) rfl F3)) e5 rfl (fun j hj => ?_) (fun j _ => hgE.1) hg hd (fun j h0j hj => absurd hj (by omega))
  · rw [show (n : Int) + (-1) = ((n - 1 : Nat) : Int) by omega]
    exact key
  · rw [show j = 0 by omega, show sI τ3 78 0 = sI τ2 78 0 from congrArg Int32.toInt (F3 78 0 rfl)]
    exact v2
/-- the shortest so far: its length, its first debt -/
def frI (E : Nat → Prop) (Db Cr : Nat → Nat) (sh bg : Int) (d : Nat) : Prop := (bg = -1 ∧ sh = 99 ∧ ∀ i, i < d → E i → ∀ j, j ≤ 9 → ¬ pth E Db Cr j (Cr i) (Db i)) ∨ ∃ g k : Nat, bg = (g : Int) ∧ sh = (k : Int) + 1 ∧ k ≤ 9 ∧ g < d ∧ E g ∧ dst E Db Cr k (Cr g) (Db g) ∧ (∀ i, i < d → E i → ∀ j, j ≤ 9 → pth E Db Cr j (Cr i) (Db i) → k ≤ j) ∧ ∀ i, E i → i < g → ¬ pth E Db Cr k (Cr i) (Db i)
theorem frI_b {Db Cr : Nat → Nat} {sh bg : Int} {d : Nat} (hd : d ≤ 30) (h : frI E Db Cr sh bg d) : 0 ≤ sh ∧ sh ≤ 99 ∧ -1 ≤ bg ∧ bg ≤ 29 := by
  rcases h with ⟨h1, h2, _⟩ | ⟨g, k, h1, h2, h3, h4, _⟩
  · omega
  · omega
theorem frI_n {Db Cr : Nat → Nat} {sh bg : Int} {d : Nat} (h : frI E Db Cr sh bg d) (hd : E d → ∃ v, dv E Db Cr (Cr d) (Db d) v ∧ sh ≤ v + 1) : frI E Db Cr sh bg (d + 1) := by
  rcases h with ⟨h1, h2, h3⟩ | ⟨g, k, h1, h2, h3, h4, h5, h6, h7, h8⟩
  · refine Or.inl ⟨h1, h2, fun i hi e => ?_⟩
    by_cases c : i = d
    · rw [c] at e ⊢
      obtain ⟨v, hv, l⟩ := hd e
      rcases hv with ⟨_, z⟩ | ⟨k, z1, z2, _⟩
      · exact z
      · exfalso
        omega
    · exact h3 i (by omega) e
  · refine Or.inr ⟨g, k, h1, h2, h3, by omega, h5, h6, fun i hi e j hj p => ?_, h8⟩
    by_cases c : i = d
    · rw [c] at e p
      obtain ⟨v, hv, l⟩ := hd e
      rcases hv with ⟨_, z⟩ | ⟨k', z1, z2, z3⟩
      · exact absurd p (z j hj)
      · rcases Nat.lt_or_ge j k' with x | x
        · exact absurd p (z3.2 j x)
        · omega
    · exact h7 i (by omega) e j hj p
theorem frI_y {Db Cr : Nat → Nat} {sh bg v : Int} {d : Nat} (h : frI E Db Cr sh bg d) (e : E d) (hv : dv E Db Cr (Cr d) (Db d) v) (l : v + 1 < sh) : frI E Db Cr (v + 1) (d : Int) (d + 1) := by
  obtain ⟨k', z1, z2, z3⟩ : ∃ k : Nat, k ≤ 9 ∧ v = (k : Int) ∧ dst E Db Cr k (Cr d) (Db d) := by
    rcases hv with ⟨z, _⟩ | z
    · exfalso
      rcases h with ⟨_, h2, _⟩ | ⟨g, k, _, h2, h3, _⟩
      · omega
      · omega
    · exact z
  refine Or.inr ⟨d, k', rfl, by omega, z1, by omega, e, z3, fun i hi ei j hj p => ?_, fun i ei hi p => ?_⟩
  · by_cases c : i = d
    · rw [c] at p
      rcases Nat.lt_or_ge j k' with x | x
      · exact absurd p (z3.2 j x)
      · exact x
    · rcases h with ⟨_, _, h3⟩ | ⟨g, k, _, h2, _, _, _, _, h7, _⟩
      · exact absurd p (h3 i (by omega) ei j hj)
      · have := h7 i (by omega) ei j hj p
        omega
  · rcases h with ⟨_, _, h3⟩ | ⟨g, k, _, h2, _, _, _, _, h7, _⟩
    · exact h3 i hi ei k' z1 p
    · have := h7 i hi ei k' z1 p
      omega
abbrev FFr : List (Nat × Nat) := [(74, 5), (76, 9999), (77, 9999), (78, 9999)]
end FIND
section FRO
variable {σ : pm_S} {D P s : Nat}
set_option maxRecDepth 20000 in
/-- the first of the shortest rounds of a spot, or none -/
theorem x_fro (hs : s < 10) (hD : D ≤ 30) (hP : P ≤ 10) (eD : sI σ 13 0 = (D : Int)) (eP : sI σ 7 0 = (P : Int)) (hpp : ∀ d, d < D → nt (σ.1 14) d < P ∧ nt (σ.1 15) d < P) (hu : ∀ d, d < D → nt (σ.1 14) d ≠ nt (σ.1 15) d) (hB0 : an_GB pm_B σ) : Sp 98 10 [.ref 74, .int (Int32.ofInt (s : Int))] σ (fun r τ => an_GB pm_B τ ∧ FQ FFr σ τ ∧ ((r = some (.int (Int32.ofInt 0)) ∧ ∀ d, cEs σ D s d → ∀ j, j ≤ 9 → ¬ pth (cEs σ D s) (nt (σ.1 14)) (nt (σ.1 15)) j (nt (σ.1 15) d) (nt (σ.1 14) d)) ∨ (r = some (.int (Int32.ofInt 1)) ∧ ∃ R n, trc (cEs σ D s) (nt (σ.1 14)) (nt (σ.1 15)) R n ∧ sI τ 74 5 = (n : Int) ∧ rwR R n (sI τ 78) ∧ ∀ j, j < n → R j < D))) := by
  have fin : ∀ (sh bg : Int) (τ : pm_S) (v4 v5 : Value), v4.category = 1 → v5.category = 1 → an_GB pm_B τ → FQ FFr σ τ → lkR (cEs σ D s) D P τ → frI (cEs σ D s) (nt (σ.1 14)) (nt (σ.1 15)) sh bg D → Ok 98 10 46 [.ref 74, .int (Int32.ofInt (s : Int)), .int (Int32.ofInt sh), .int (Int32.ofInt bg), v4, v5] [] τ (fun r τ => an_GB pm_B τ ∧ FQ FFr σ τ ∧ ((r = some (.int (Int32.ofInt 0)) ∧ ∀ d, cEs σ D s d → ∀ j, j ≤ 9 → ¬ pth (cEs σ D s) (nt (σ.1 14)) (nt (σ.1 15)) j (nt (σ.1 15) d) (nt (σ.1 14) d)) ∨ (r = some (.int (Int32.ofInt 1)) ∧ ∃ R n, trc (cEs σ D s) (nt (σ.1 14)) (nt (σ.1 15)) R n ∧ sI τ 74 5 = (n : Int) ∧ rwR R n (sI τ 78) ∧ ∀ j, j < n → R j < D))) := by
    intro sh bg τ v4 v5 c4 c5 hB F L h
    have b := frI_b hD h
    refine rf_r46 s sh bg v4 v5 c4 c5 hB ⟨by omega, by omega, by omega, trivial⟩ ?_ ?_
    · intro τ1 y1 w4 w5 k4 k5 hB1 F1 f _ _ _
      have f2 := f.2.2.1
      rcases h with ⟨h1, _⟩ | ⟨g, k, h1, h2, h3, h4, h5, h6, h7, h8⟩
      · exfalso
        omega
      have G1 : FQ FFr σ τ1 := FQ.tr F (FQ.up (G := []) rfl F1)
      have e14 := row_fq G1 (P := 14) rfl
      have e15 := row_fq G1 (P := 15) rfl
      have k1 : 1 ≤ k := by
        rcases Nat.eq_zero_or_pos k with z | z
        · rw [z] at h6
          exact absurd h6.1 (fun w => hu g h4 w.symm)
        · exact z
      have h6' := h6
      rw [← e14, ← e15] at h6'
      refine Ok.cv rfl rfl rfl rfl rfl rfl rfl ?_
      rw [h1, h2, show (k : Int) + 1 = ((k + 1 : Nat) : Int) by omega]
      refine (x_trr (E := cEs σ D s) (D := D) (P := P) (σ := τ1) (g := g) (n := k + 1) (L.fq F1 rfl rfl rfl rfl rfl rfl) h5 ⟨by omega, by omega⟩ h6' hB1).use (by decide) (fun r τ2 q => ?_)
      obtain ⟨rfl, hB2, F2, e5, R, r0, r1, r2, r3⟩ := q
      rw [e14, e15] at r3
      refine rf_r55 s _ _ _ _ rfl rfl k4 k5 hB2 ⟨by omega, trivial⟩ ?_
      intro τ3 y3 hB3 F3 _ _ _ _
      refine ⟨hB3, FQ.tr G1 (FQ.tr (FQ.up (G := FTrc) rfl F2) (FQ.up (G := []) rfl F3)), Or.inr ⟨rfl, R, k + 1, ?_, (congrArg Int32.toInt (F3 74 5 rfl)).trans e5, fun j hj => (congrArg Int32.toInt (F3 78 j rfl)).trans (r1 j hj), r2⟩⟩
      refine ⟨by omega, by omega, by rw [r0]; exact h5, ?_, fun d e j hj p => ?_, fun d e l => ?_, r3⟩
      · rw [r0]
        exact h6
      · have := h7 d e.1 e j hj p
        omega
      · rw [r0] at l
        exact h8 d e l
    · intro τ1 y1 hB1 F1 f _ _ _
      have f2 := f.2.2.1
      rcases h with ⟨h1, _, h3⟩ | ⟨g, k, h1, _⟩
      · exact ⟨hB1, FQ.tr F (FQ.up (G := []) rfl F1), Or.inl ⟨rfl, fun d e => h3 d e.1 e⟩⟩
      · exfalso
        omega
  have lp : ∀ (k d : Nat) (sh bg : Int) (τ : pm_S) (v5 : Value), d + k = D → v5.category = 1 → an_GB pm_B τ → FQ FFr σ τ → lkR (cEs σ D s) D P τ → frI (cEs σ D s) (nt (σ.1 14)) (nt (σ.1 15)) sh bg d → Ok 98 10 9 [.ref 74, .int (Int32.ofInt (s : Int)), .int (Int32.ofInt sh), .int (Int32.ofInt bg), .int (Int32.ofInt (d : Int)), v5] [] τ (fun r τ => an_GB pm_B τ ∧ FQ FFr σ τ ∧ ((r = some (.int (Int32.ofInt 0)) ∧ ∀ d, cEs σ D s d → ∀ j, j ≤ 9 → ¬ pth (cEs σ D s) (nt (σ.1 14)) (nt (σ.1 15)) j (nt (σ.1 15) d) (nt (σ.1 14) d)) ∨ (r = some (.int (Int32.ofInt 1)) ∧ ∃ R n, trc (cEs σ D s) (nt (σ.1 14)) (nt (σ.1 15)) R n ∧ sI τ 74 5 = (n : Int) ∧ rwR R n (sI τ 78) ∧ ∀ j, j < n → R j < D))) := by
    intro k
    induction k with
    | zero =>
      intro d sh bg τ v5 hd c5 hB F L h
      have b := frI_b (by omega) h
      refine rf_r9 s sh bg d D v5 c5 hB ⟨by omega, by omega, by omega, by omega, by omega, trivial⟩ ⟨L.2.2.1, trivial⟩ ?_
      intro τ1 y1 w5 k5 hB1 F1 _ _ _ _
      refine Ok.ic rfl rfl (by omega) (by omega) (by omega) (by omega) (fun g => ?_) (fun g => ?_)
      · have e : d = D := by omega
        subst e
        exact fin sh bg τ1 _ w5 rfl k5 hB1 (FQ.tr F (FQ.up (G := []) rfl F1)) (L.fq F1 rfl rfl rfl rfl rfl rfl) h
      · have g : (d : Int) < (D : Int) := g
        exfalso
        omega
    | succ k ih =>
      intro d sh bg τ v5 hd c5 hB F L h
      have b := frI_b (by omega) h
      have hdD : d < D := by omega
      have ed : ((d : Int)).toNat = d := by omega
      refine rf_r9 s sh bg d D v5 c5 hB ⟨by omega, by omega, by omega, by omega, by omega, trivial⟩ ⟨L.2.2.1, trivial⟩ ?_
      intro τ1 y1 w5 k5 hB1 F1 _ _ _ _
      refine Ok.ic rfl rfl (by omega) (by omega) (by omega) (by omega) (fun g => ?_) (fun g => ?_)
      · have g : (D : Int) ≤ (d : Int) := g
        exfalso
        omega
      have G1 : FQ FFr σ τ1 := FQ.tr F (FQ.up (G := []) rfl F1)
      have L1 : lkR (cEs σ D s) D P τ1 := L.fq F1 rfl rfl rfl rfl rfl rfl
      rcases L1.2.2.2.2.2.1 d hdD with ⟨c0, nE⟩ | ⟨c1, yE⟩
      · refine rf_r15f s sh bg d w5 k5 hB1 ⟨by omega, by omega, by omega, by omega, trivial⟩ ⟨by rw [ed]; exact c0, trivial⟩ ?_
        intro τ2 y2 w6 k6 hB2 F2 _ _ _ _
        rw [show (d : Int) + 1 = ((d + 1 : Nat) : Int) by omega]
        exact ih (d + 1) sh bg τ2 w6 (by omega) k6 hB2 (FQ.tr G1 (FQ.up (G := []) rfl F2)) (L1.fq F2 rfl rfl rfl rfl rfl rfl) (frI_n h (fun z => absurd z nE))
      · have b14 : 0 ≤ sI σ 14 d ∧ sI σ 14 d ≤ 9 := hB0 14 d (show d < 30 by omega)
        have b15 : 0 ≤ sI σ 15 d ∧ sI σ 15 d ≤ 9 := hB0 15 d (show d < 30 by omega)
        have hp := hpp d hdD
        refine rf_r15 s sh bg d ((nt (σ.1 15) d : Nat) : Int) ((nt (σ.1 14) d : Nat) : Int) w5 k5 hB1 ⟨by omega, by omega, by omega, by omega, by omega, by omega, trivial⟩ ⟨by rw [ed]; exact c1, by rw [ed]; exact (congrArg Int32.toInt (G1 15 d rfl)).trans (nt_i b15.1), by rw [ed]; exact (congrArg Int32.toInt (G1 14 d rfl)).trans (nt_i b14.1), trivial⟩ ?_
        intro τ2 y2 w6 k6 hB2 F2 _ _ _ _
        have G2 : FQ FFr σ τ2 := FQ.tr G1 (FQ.up (G := []) rfl F2)
        have L2 : lkR (cEs σ D s) D P τ2 := L1.fq F2 rfl rfl rfl rfl rfl rfl
        obtain ⟨_, _, eD2, eP2, hE2, hc2, ho2⟩ := L2
        have L2 : lkR (cEs σ D s) D P τ2 := L1.fq F2 rfl rfl rfl rfl rfl rfl
        have e14 := row_fq G2 (P := 14) rfl
        have e15 := row_fq G2 (P := 15) rfl
        refine Ok.cv rfl rfl rfl rfl rfl rfl rfl ?_
        refine (x_stb (E := cEs σ D s) (Db := nt (τ2.1 14)) (Cr := nt (τ2.1 15)) (a := nt (σ.1 15) d) (b := nt (σ.1 14) d) (P := P) (by omega) (by omega) hP eP2 ho2 (fun d e => ⟨(hE2 d e).2.1, by have := (hE2 d e).2.2; omega⟩) hB2).use (by decide) (fun r τ3 q => ?_)
        obtain ⟨⟨v, rfl, hv⟩, hB3, F3⟩ := q
        rw [e14, e15] at hv
        have bv := dv_b hv
        have G3 : FQ FFr σ τ3 := FQ.tr G2 (FQ.up (G := []) rfl F3)
        refine rf_r35 s sh bg d v w6 k6 hB3 ⟨by omega, by omega, by omega, by omega, bv, trivial⟩ ?_
        intro τ4 y4 hB4 F4 _ _ _ _
        have G4 : FQ FFr σ τ4 := FQ.tr G3 (FQ.up (G := []) rfl F4)
        have L4 : lkR (cEs σ D s) D P τ4 := (L2.fq F3 rfl rfl rfl rfl rfl rfl).fq F4 rfl rfl rfl rfl rfl rfl
        refine Ok.ic rfl rfl (by omega) (by omega) (by omega) (by omega) (fun w => ?_) (fun w => ?_)
        · have w : sh ≤ v + 1 := w
          refine rf_r44 s sh bg d _ rfl hB4 ⟨by omega, by omega, by omega, by omega, trivial⟩ ?_
          intro τ5 y5 w7 k7 hB5 F5 _ _ _ _
          rw [show (d : Int) + 1 = ((d + 1 : Nat) : Int) by omega]
          exact ih (d + 1) sh bg τ5 w7 (by omega) k7 hB5 (FQ.tr G4 (FQ.up (G := []) rfl F5)) (L4.fq F5 rfl rfl rfl rfl rfl rfl) (frI_n h (fun _ => ⟨v, hv, w⟩))
        · have w : v + 1 < sh := w
          refine rf_r40 s sh bg d (v + 1) hB4 ⟨by omega, by omega, by omega, by omega, by omega, trivial⟩ ?_
          intro τ5 y5 hB5 F5 _ _ _ _
          rw [show (d : Int) + 1 = ((d + 1 : Nat) : Int) by omega]
          exact ih (d + 1) (v + 1) (d : Int) τ5 _ (by omega) rfl hB5 (FQ.tr G4 (FQ.up (G := []) rfl F5)) (L4.fq F5 rfl rfl rfl rfl rfl rfl) (frI_y h yE hv w)
  refine Sp.at rfl rfl ?_
  refine rf_r0 s _ _ _ _ rfl rfl rfl rfl hB0 ⟨by omega, trivial⟩ ?_
  intro τ1 y1 v2 v3 v4 v5 c2 c3 c4 c5 hB1 F1 _ _ _ _
  have cE1 : cEs τ1 D s = cEs σ D s := by
    unfold cEs
    rw [bsC_fq F1 rfl rfl rfl rfl, row_fq F1 (P := 17) rfl, row_fq F1 (P := 20) rfl]
  refine Ok.cv rfl rfl rfl rfl rfl rfl rfl ?_
  refine (x_now (σ := τ1) (s := s) (D := D) hs hD ((congrArg Int32.toInt (F1 13 0 rfl)).trans eD) hB1).use (by decide) (fun r τ2 q => ?_)
  obtain ⟨rfl, hB2, F2, q1, q2⟩ := q
  rw [cE1] at q1 q2
  rw [row_fq F1 (P := 14) rfl, row_fq F1 (P := 15) rfl] at q2
  have G2 : FQ FNo σ τ2 := FQ.tr (FQ.up (G := []) rfl F1) F2
  have L2 : lkR (cEs σ D s) D P τ2 := by
    refine ⟨hD, hP, (congrArg Int32.toInt (G2 13 0 rfl)).trans eD, (congrArg Int32.toInt (G2 7 0 rfl)).trans eP, fun d e => ?_, q1, ?_⟩
    · rw [row_fq G2 (P := 14) rfl, row_fq G2 (P := 15) rfl]
      exact ⟨e.1, hpp d e.1⟩
    · rw [row_fq G2 (P := 14) rfl, row_fq G2 (P := 15) rfl]
      exact q2
  refine rf_r3 s v2 v3 v4 v5 c2 c3 c4 c5 hB2 ⟨by omega, trivial⟩ ?_
  intro τ3 y3 w5 k5 hB3 F3 _ _ _ _
  exact lp D 0 99 (-1) τ3 w5 (Nat.zero_add _) k5 hB3 (FQ.tr (FQ.up (G := FNo) rfl G2) (FQ.up (G := []) rfl F3)) (L2.fq F3 rfl rfl rfl rfl rfl rfl) (Or.inl ⟨rfl, rfl, fun i hi => absurd hi (Nat.not_lt_zero _)⟩)
end FRO
