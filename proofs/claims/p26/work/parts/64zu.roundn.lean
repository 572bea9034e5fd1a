/-! rounds, the model: the first row of debts -/
abbrev mE (σ : pm_S) (D s : Nat) : Nat → Prop := eR (bsM σ) (σ.1 104) (σ.1 107) D s
/-- can a debt be the k-th -/
abbrev cbm (σ : pm_S) (D s : Nat) (R : Nat → Nat) (n k d : Nat) : Prop := mE σ D s d ∧ (k = 0 ∨ (nt (σ.1 101) d = nt (σ.1 102) (R (k - 1)) ∧ (k = n - 1 → nt (σ.1 102) d = nt (σ.1 101) (R 0)) ∧ (k ≠ n - 1 → ∀ j, j < k → nt (σ.1 102) d ≠ nt (σ.1 101) (R j))))
theorem bsM_fq {σ τ : pm_S} {G : List (Nat × Nat)} (F : FQ G σ τ) (h12 : an_inP G 100 = false) (h14 : an_inP G 101 = false) (h15 : an_inP G 102 = false) (h17 : an_inP G 104 = false) : bsM τ = bsM σ := funext fun d => by
  show (decide (sI τ 100 (sI τ 101 d).toNat = sI τ 104 d + 1) && decide (sI τ 100 (sI τ 102 d).toNat = sI τ 104 d + 1)) = (decide (sI σ 100 (sI σ 101 d).toNat = sI σ 104 d + 1) && decide (sI σ 100 (sI σ 102 d).toNat = sI σ 104 d + 1))
  unfold sI
  rw [row_fq F h12, row_fq F h14, row_fq F h15, row_fq F h17]
theorem mE_fq {σ τ : pm_S} {G : List (Nat × Nat)} {D s : Nat} (F : FQ G σ τ) (h12 : an_inP G 100 = false) (h14 : an_inP G 101 = false) (h15 : an_inP G 102 = false) (h17 : an_inP G 104 = false) (h20 : an_inP G 107 = false) : mE τ D s = mE σ D s := by
  unfold mE
  rw [bsM_fq F h12 h14 h15 h17, row_fq F h17, row_fq F h20]
section CBN
variable {σ : pm_S} {D s n : Nat}
set_option maxRecDepth 20000 in
theorem x_cbn (hs : s < 10) (hD : D ≤ 30) (hn : 2 ≤ n ∧ n ≤ 10) {R : Nat → Nat} {k d : Nat} (hk : k < n) (hd : d < D) (hr : rwR R k (sI σ 124)) (hl : ∀ j, j < k → R j < D) (hB0 : an_GB pm_B σ) : Sp 205 4 [.ref 93, .int (Int32.ofInt (d : Int)), .int (Int32.ofInt (k : Int)), .int (Int32.ofInt (s : Int)), .int (Int32.ofInt (n : Int))] σ (fun r τ => an_GB pm_B τ ∧ FQ [] σ τ ∧ ((r = some (.int (Int32.ofInt 1)) ∧ cbm σ D s R n k d) ∨ (r = some (.int (Int32.ofInt 0)) ∧ ¬ cbm σ D s R n k d))) := by
  have ed : ((d : Int)).toNat = d := by omega
  have bD : ∀ e, e < D → 0 ≤ sI σ 101 e ∧ sI σ 101 e ≤ 9 := fun e he => hB0 101 e (show e < 30 by omega)
  have bC : ∀ e, e < D → 0 ≤ sI σ 102 e ∧ sI σ 102 e ≤ 9 := fun e he => hB0 102 e (show e < 30 by omega)
  have iD : ∀ e, e < D → sI σ 101 e = ((nt (σ.1 101) e : Nat) : Int) := fun e he => nt_i (bD e he).1
  have iC : ∀ e, e < D → sI σ 102 e = ((nt (σ.1 102) e : Nat) : Int) := fun e he => nt_i (bC e he).1
  have b1 := bD d hd
  have b2 := bC d hd
  have i1 := iD d hd
  have i2 := iC d hd
  refine Sp.at rfl rfl ?_
  refine tf_b0 d k s n (sI σ 107 d) _ rfl hB0 ⟨by omega, by omega, by omega, by omega, ai_rng _, trivial⟩ ⟨by rw [ed], trivial⟩ ?_ ?_
  · intro τ1 y1 hB1 F1 _ rl _ _
    refine ⟨hB1, F1, Or.inr ⟨rfl, fun z => rl.1 ?_⟩⟩
    have e : σ.1 107 d = 0 := z.1.2.1
    show (σ.1 107 d).toInt = 0
    rw [e]
    rfl
  intro τ1 y1 v5 c5 hB1 F1 f1 _ _ _
  have f4 := f1.2.2.2.2.1
  have h0 : σ.1 107 d = 0 := Int32.toInt_inj.mp (by show sI σ 107 d = 0; omega)
  refine Ok.cv rfl rfl rfl rfl rfl rfl rfl ?_
  refine (x_aba d (s : Int) (by omega) (by omega) hB1).use (by decide) (fun r τ2 q => ?_)
  obtain ⟨rfl, hB2, F2⟩ := q
  have G2 : FQ [] σ τ2 := FQ.tr F1 F2
  have eAB : (decide (sI τ1 104 d = (s : Int)) && (decide (sI τ1 100 (sI τ1 101 d).toNat = (s : Int) + 1) && decide (sI τ1 100 (sI τ1 102 d).toNat = (s : Int) + 1))) = (decide (sI σ 104 d = (s : Int)) && (decide (sI σ 100 (sI σ 101 d).toNat = (s : Int) + 1) && decide (sI σ 100 (sI σ 102 d).toNat = (s : Int) + 1))) := by
    unfold sI
    rw [row_fq F1 (P := 104) rfl, row_fq F1 (P := 100) rfl, row_fq F1 (P := 101) rfl, row_fq F1 (P := 102) rfl]
  rw [eAB]
  have eE : mE σ D s d ↔ (decide (sI σ 104 d = (s : Int)) && (decide (sI σ 100 (sI σ 101 d).toNat = (s : Int) + 1) && decide (sI σ 100 (sI σ 102 d).toNat = (s : Int) + 1))) = true := by
    unfold mE eR bsM
    constructor
    · rintro ⟨_, _, c, e⟩
      have e : sI σ 104 d = (s : Int) := e
      rw [e] at c
      rw [decide_eq_true e, Bool.true_and]
      exact c
    · intro z
      rw [Bool.and_eq_true] at z
      have e : sI σ 104 d = (s : Int) := of_decide_eq_true z.1
      refine ⟨hd, h0, ?_, e⟩
      rw [e]
      exact z.2
  generalize (decide (sI σ 104 d = (s : Int)) && (decide (sI σ 100 (sI σ 101 d).toNat = (s : Int) + 1) && decide (sI σ 100 (sI σ 102 d).toNat = (s : Int) + 1))) = ab at eE ⊢
  have w01 : 0 ≤ (if ab = true then (1 : Int) else 0) ∧ (if ab = true then (1 : Int) else 0) ≤ 1 := by split <;> decide
  rcases Nat.eq_zero_or_pos k with hk0 | hk1
  · subst hk0
    refine tf_b8z d s n (if ab = true then 1 else 0) v5 c5 hB2 ⟨by omega, by omega, by omega, w01, trivial⟩ ?_ ?_
    · intro τ3 y3 hB3 F3 f _ _ _
      have f3 := f.2.2.2.1
      refine ⟨hB3, FQ.tr G2 F3, Or.inl ⟨rfl, eE.mpr ?_, Or.inl rfl⟩⟩
      cases ab with
      | true => rfl
      | false =>
        rw [if_neg (by decide)] at f3
        exfalso
        omega
    · intro τ3 y3 hB3 F3 f _ _ _
      have f3 := f.2.2.2.1
      refine ⟨hB3, FQ.tr G2 F3, Or.inr ⟨rfl, fun z => ?_⟩⟩
      have z := eE.mp z.1
      rw [z, if_pos rfl] at f3
      exfalso
      omega
  · have hRk := hl (k - 1) (by omega)
    have ek : ((k : Int) + (-1)).toNat = k - 1 := by omega
    have eRk : ((R (k - 1) : Nat) : Int).toNat = R (k - 1) := by omega
    have bRk := bC _ hRk
    have iRk := iC _ hRk
    refine tf_b8 d k s n (if ab = true then 1 else 0) ((nt (σ.1 101) d : Nat) : Int) ((R (k - 1) : Nat) : Int) ((nt (σ.1 102) (R (k - 1)) : Nat) : Int) v5 c5 hB2 ⟨by omega, by omega, by omega, by omega, w01, by omega, by omega, by omega, trivial⟩ ⟨by rw [ed]; exact (congrArg Int32.toInt (G2 101 d rfl)).trans i1, by rw [ek]; exact (congrArg Int32.toInt (G2 124 _ rfl)).trans (hr (k - 1) (by omega)), by rw [eRk]; exact (congrArg Int32.toInt (G2 102 _ rfl)).trans iRk, trivial⟩ ?_ ?_
    · intro τ3 y3 v6 c6 hB3 F3 f _ _ _
      have f4 := f.2.2.2.2.1
      have yE : mE σ D s d := eE.mpr (by
        cases ab with
        | true => rfl
        | false =>
          rw [if_neg (by decide)] at f4
          exfalso
          omega)
      have G3 : FQ [] σ τ3 := FQ.tr G2 F3
      refine Ok.ic rfl rfl (by omega) (by omega) (by omega) (by omega) (fun g => ?_) (fun g => ?_)
      · have g : ((nt (σ.1 101) d : Nat) : Int) = ((nt (σ.1 102) (R (k - 1)) : Nat) : Int) := g
        have g : nt (σ.1 101) d = nt (σ.1 102) (R (k - 1)) := by omega
        refine tf_b31 d k s n v6 c6 hB3 ⟨by omega, by omega, by omega, by omega, trivial⟩ ?_
        intro τ4 y4 v7 c7 hB4 F4 _ _ _ _
        have G4 : FQ [] σ τ4 := FQ.tr G3 F4
        refine Ok.ic rfl rfl (by omega) (by omega) (by omega) (by omega) (fun w => ?_) (fun w => ?_)
        · have w : (k : Int) ≠ (n : Int) + (-1) := w
          have kn : k ≠ n - 1 := by omega
          refine tf_b52 d k s n v7 c7 hB4 ⟨by omega, by omega, by omega, by omega, trivial⟩ ?_
          intro τ5 y5 hB5 F5 _ _ _ _
          have G5 : FQ [] σ τ5 := FQ.tr G4 F5
          have lp : ∀ (m i : Nat) (τ : pm_S), i + m = k → an_GB pm_B τ → FQ [] σ τ → (∀ j, j < i → nt (σ.1 102) d ≠ nt (σ.1 101) (R j)) → Ok 205 4 54 [.ref 93, .int (Int32.ofInt (d : Int)), .int (Int32.ofInt (k : Int)), .int (Int32.ofInt (s : Int)), .int (Int32.ofInt (n : Int)), .int (Int32.ofInt (i : Int))] [] τ (fun r τ => an_GB pm_B τ ∧ FQ [] σ τ ∧ ((r = some (.int (Int32.ofInt 1)) ∧ cbm σ D s R n k d) ∨ (r = some (.int (Int32.ofInt 0)) ∧ ¬ cbm σ D s R n k d))) := by
            intro m
            induction m with
            | zero =>
              intro i τ hi hB F hj
              refine tf_b54 d k s n i hB ⟨by omega, by omega, by omega, by omega, by omega, trivial⟩ ?_
              intro τ6 y6 hB6 F6 _ _ _ _
              refine Ok.ic rfl rfl (by omega) (by omega) (by omega) (by omega) (fun x => ?_) (fun x => ?_)
              · refine tf_b73 d k s n i hB6 ⟨by omega, by omega, by omega, by omega, by omega, trivial⟩ ?_
                intro τ7 y7 hB7 F7 _ _ _ _
                exact ⟨hB7, FQ.tr F (FQ.tr F6 F7), Or.inl ⟨rfl, yE, Or.inr ⟨g, fun z => absurd z kn, fun _ j hj' => hj j (by omega)⟩⟩⟩
              · have x : (i : Int) < (k : Int) := x
                exfalso
                omega
            | succ m ih =>
              intro i τ hi hB F hj
              have hRi := hl i (by omega)
              have ei : ((i : Int)).toNat = i := by omega
              have eRi : ((R i : Nat) : Int).toNat = R i := by omega
              have bRi := bD _ hRi
              have iRi := iD _ hRi
              refine tf_b54 d k s n i hB ⟨by omega, by omega, by omega, by omega, by omega, trivial⟩ ?_
              intro τ6 y6 hB6 F6 _ _ _ _
              refine Ok.ic rfl rfl (by omega) (by omega) (by omega) (by omega) (fun x => ?_) (fun x => ?_)
              · have x : (k : Int) ≤ (i : Int) := x
                exfalso
                omega
              have G6 : FQ [] σ τ6 := FQ.tr F F6
              refine tf_b57 d k s n i ((nt (σ.1 102) d : Nat) : Int) ((R i : Nat) : Int) ((nt (σ.1 101) (R i) : Nat) : Int) hB6 ⟨by omega, by omega, by omega, by omega, by omega, by omega, by omega, by omega, trivial⟩ ⟨by rw [ed]; exact (congrArg Int32.toInt (G6 102 d rfl)).trans i2, by rw [ei]; exact (congrArg Int32.toInt (G6 124 i rfl)).trans (hr i (by omega)), by rw [eRi]; exact (congrArg Int32.toInt (G6 101 _ rfl)).trans iRi, trivial⟩ ?_
              intro τ7 y7 hB7 F7 _ _ _ _
              have G7 : FQ [] σ τ7 := FQ.tr G6 F7
              refine Ok.ic rfl rfl (by omega) (by omega) (by omega) (by omega) (fun x => ?_) (fun x => ?_)
              · have x : ((nt (σ.1 102) d : Nat) : Int) ≠ ((nt (σ.1 101) (R i) : Nat) : Int) := x
                refine tf_b71 d k s n i hB7 ⟨by omega, by omega, by omega, by omega, by omega, trivial⟩ ?_
                intro τ8 y8 hB8 F8 _ _ _ _
                rw [show (i : Int) + 1 = ((i + 1 : Nat) : Int) by omega]
                refine ih (i + 1) τ8 (by omega) hB8 (FQ.tr G7 F8) (fun j hj' => ?_)
                by_cases e : j = i
                · rw [e]
                  exact fun z => x (congrArg (fun a : Nat => (a : Int)) z)
                · exact hj j (by omega)
              · have x : ((nt (σ.1 102) d : Nat) : Int) = ((nt (σ.1 101) (R i) : Nat) : Int) := x
                refine tf_b69 d k s n i hB7 ⟨by omega, by omega, by omega, by omega, by omega, trivial⟩ ?_
                intro τ8 y8 hB8 F8 _ _ _ _
                refine ⟨hB8, FQ.tr G7 F8, Or.inr ⟨rfl, fun z => ?_⟩⟩
                rcases z.2 with z | ⟨_, _, z⟩
                · omega
                · exact z kn i (by omega) (by omega)
          exact lp k 0 τ5 (Nat.zero_add _) hB5 G5 (fun j hj => absurd hj (Nat.not_lt_zero _))
        · have w : (k : Int) = (n : Int) + (-1) := w
          have kn : k = n - 1 := by omega
          have hR0 := hl 0 (by omega)
          have eR0 : ((R 0 : Nat) : Int).toNat = R 0 := by omega
          have bR0 := bD _ hR0
          have iR0 := iD _ hR0
          refine tf_b36 d k s n ((nt (σ.1 102) d : Nat) : Int) ((R 0 : Nat) : Int) ((nt (σ.1 101) (R 0) : Nat) : Int) v7 c7 hB4 ⟨by omega, by omega, by omega, by omega, by omega, by omega, by omega, trivial⟩ ⟨by rw [ed]; exact (congrArg Int32.toInt (G4 102 d rfl)).trans i2, (congrArg Int32.toInt (G4 124 0 rfl)).trans (hr 0 (by omega)), by rw [eR0]; exact (congrArg Int32.toInt (G4 101 _ rfl)).trans iR0, trivial⟩ ?_
          intro τ5 y5 v8 c8 hB5 F5 _ _ _ _
          have G5 : FQ [] σ τ5 := FQ.tr G4 F5
          refine Ok.ic rfl rfl (by omega) (by omega) (by omega) (by omega) (fun x => ?_) (fun x => ?_)
          · have x : ((nt (σ.1 102) d : Nat) : Int) ≠ ((nt (σ.1 101) (R 0) : Nat) : Int) := x
            refine tf_b50 d k s n v8 c8 hB5 ⟨by omega, by omega, by omega, by omega, trivial⟩ ?_
            intro τ6 y6 hB6 F6 _ _ _ _
            refine ⟨hB6, FQ.tr G5 F6, Or.inr ⟨rfl, fun z => ?_⟩⟩
            rcases z.2 with z | ⟨_, z, _⟩
            · omega
            · exact x (congrArg (fun a : Nat => (a : Int)) (z kn))
          · have x : ((nt (σ.1 102) d : Nat) : Int) = ((nt (σ.1 101) (R 0) : Nat) : Int) := x
            refine tf_b48 d k s n v8 c8 hB5 ⟨by omega, by omega, by omega, by omega, trivial⟩ ?_
            intro τ6 y6 hB6 F6 _ _ _ _
            exact ⟨hB6, FQ.tr G5 F6, Or.inl ⟨rfl, yE, Or.inr ⟨g, fun _ => by omega, fun z => absurd kn z⟩⟩⟩
      · have g : ((nt (σ.1 101) d : Nat) : Int) ≠ ((nt (σ.1 102) (R (k - 1)) : Nat) : Int) := g
        refine tf_b29 d k s n v6 c6 hB3 ⟨by omega, by omega, by omega, by omega, trivial⟩ ?_
        intro τ4 y4 hB4 F4 _ _ _ _
        refine ⟨hB4, FQ.tr G3 F4, Or.inr ⟨rfl, fun z => ?_⟩⟩
        rcases z.2 with z | ⟨z, _⟩
        · omega
        · exact g (congrArg (fun a : Nat => (a : Int)) z)
    · intro τ3 y3 hB3 F3 f _ _ _
      have f4 := f.2.2.2.2.1
      refine ⟨hB3, FQ.tr G2 F3, Or.inr ⟨rfl, fun z => ?_⟩⟩
      have z := eE.mp z.1
      rw [z, if_pos rfl] at f4
      exfalso
      omega
end CBN
/-! the search -/
/-- no round has these first ones and a lesser next one -/
def nR (E : Nat → Prop) (Db Cr : Nat → Nat) (n : Nat) (R : Nat → Nat) (k x : Nat) : Prop := ∀ r, rnd E Db Cr r n → (∀ j, j < k → (∀ i, i < j → r i = R i) → R j ≤ r j) ∧ ((∀ i, i < k → r i = R i) → x ≤ r k)
section NR
variable {E : Nat → Prop} {Db Cr : Nat → Nat} {n k x : Nat} {R : Nat → Nat}
theorem nR_0 (R : Nat → Nat) : nR E Db Cr n R 0 0 := fun r _ => ⟨fun j hj => absurd hj (Nat.not_lt_zero _), fun _ => Nat.zero_le _⟩
theorem nR_c {R' : Nat → Nat} (h : nR E Db Cr n R k x) (e : ∀ i, i < k → R i = R' i) : nR E Db Cr n R' k x := fun r hr => ⟨fun j hj hi => by
  rw [← e j hj]
  exact (h r hr).1 j hj (fun i hij => by rw [e i (by omega)]; exact hi i hij), fun hi => (h r hr).2 (fun i hik => by rw [e i hik]; exact hi i hik)⟩
/-- the next one can't be x -/
theorem nR_n (h : nR E Db Cr n R k x) (hn : ∀ r, rnd E Db Cr r n → (∀ i, i < k → r i = R i) → r k ≠ x) : nR E Db Cr n R k (x + 1) := fun r hr => ⟨(h r hr).1, fun hi => by
  have a := (h r hr).2 hi
  have b := hn r hr hi
  omega⟩
/-- one more -/
theorem nR_u (h : nR E Db Cr n R k x) (hk : k + 1 < n) : nR E Db Cr n (fun i => if i = k then x else R i) (k + 1) ((if 0 = k then x else R 0) + 1) := fun r hr => ⟨fun j hj hi => by
  have a := h r hr
  by_cases c : j = k
  · show (if j = k then x else R j) ≤ r j
    rw [if_pos c, c]
    refine a.2 (fun i hik => ?_)
    have q : r i = (if i = k then x else R i) := hi i (by omega)
    rw [if_neg (Nat.ne_of_lt hik)] at q
    exact q
  · show (if j = k then x else R j) ≤ r j
    rw [if_neg c]
    refine a.1 j (by omega) (fun i hij => ?_)
    have q : r i = (if i = k then x else R i) := hi i hij
    rw [if_neg (show ¬ i = k by omega)] at q
    exact q, fun hi => by
  have e := hi 0 (by omega)
  have b := (hr (k + 1) hk).2
  rcases b with z | ⟨z, _⟩
  · omega
  · have e : r 0 = (if 0 = k then x else R 0) := e
    rw [← e]
    omega⟩
/-- back to the one ahead -/
theorem nR_d (h : nR E Db Cr n R (k + 1) x) (hx : ∀ r, rnd E Db Cr r n → r (k + 1) < x) : nR E Db Cr n R k (R k + 1) := fun r hr => ⟨fun j hj hi => (h r hr).1 j (by omega) hi, fun hi => by
  have a := (h r hr).1 k (Nat.lt_succ_self k) hi
  have b := hx r hr
  by_cases c : r k = R k
  · have := (h r hr).2 (fun i hik => by
      by_cases e : i = k
      · rw [e]
        exact c
      · exact hi i (by omega))
    omega
  · omega⟩
end NR
