/-! who goes where, the class: miles, one goes -/
theorem x_mB2 {σ : pm_S} (a b S : Nat) (hS : S ≤ 10) (ha : a < S) (hb : b < S) (eS : sI σ 3 0 = (S : Int)) (hB : an_GB pm_B σ) : Sp 85 4 [.ref 3, .int (Int32.ofInt (a : Int)), .int (Int32.ofInt (b : Int))] σ (fun r τ => r = some (.int (Int32.ofInt (sI σ 5 (a * 10 + b)))) ∧ an_GB pm_B τ ∧ FQ [] σ τ) := by
  refine Sp.at rfl rfl ?_
  refine pf_m0 a b hB ⟨by omega, by omega, trivial⟩ ?_
  intro τ1 y1 hB1 F1 _ _ _ _
  refine Ok.cv rfl rfl rfl rfl rfl rfl rfl ?_
  refine (x_h82 a S hB1 (by omega) ((congrArg Int32.toInt (F1 3 0 rfl)).trans eS)).use (by decide) (fun r τ2 q => ?_)
  obtain ⟨hB2, F2, ⟨q, rfl, -⟩ | ⟨q, rfl, -⟩⟩ := q
  · exfalso
    omega
  refine pf_m3 a b 1 hB2 ⟨by omega, by omega, by decide, trivial⟩ ?_ ?_
  · intro τ3 y3 hB3 F3 f _ _ _
    have f3 := f.2.2.1
    exfalso
    omega
  intro τ3 y3 hB3 F3 _ _ _ _
  have G3 := FQ.tr F1 (FQ.tr F2 F3)
  refine Ok.cv rfl rfl rfl rfl rfl rfl rfl ?_
  refine (x_h82 b S hB3 (by omega) ((congrArg Int32.toInt (G3 3 0 rfl)).trans eS)).use (by decide) (fun r τ4 q => ?_)
  obtain ⟨hB4, F4, ⟨q, rfl, -⟩ | ⟨q, rfl, -⟩⟩ := q
  · exfalso
    omega
  refine pf_m7 a b 1 hB4 ⟨by omega, by omega, by decide, trivial⟩ ?_ ?_
  · intro τ5 y5 hB5 F5 f _ _ _
    have f3 := f.2.2.1
    exfalso
    omega
  intro τ5 y5 hB5 F5 _ _ d5 _
  have e3 := mulC (by omega) (by omega) d5.1
  have e4 := addC (by omega) (by omega) d5.2.1
  have G5 := FQ.tr G3 (FQ.tr F4 F5)
  refine Ok.ald (n := 100) rfl rfl rfl (by decide) (by omega) (by omega) ?_
  have ev : τ5.1 5 (y5 4).toNat = σ.1 5 (a * 10 + b) := by
    rw [G5 5 _ rfl, show (y5 4).toNat = a * 10 + b by omega]
  rw [ev]
  have last : ∀ τ : pm_S, an_GB pm_B τ → FQ [] σ τ → Ok 85 4 16 [.ref 3, .int (Int32.ofInt (a : Int)), .int (Int32.ofInt (b : Int))] [.int (Int32.ofInt (sI σ 5 (a * 10 + b)))] τ (fun r τ => r = some (.int (Int32.ofInt (sI σ 5 (a * 10 + b)))) ∧ an_GB pm_B τ ∧ FQ [] σ τ) := fun τ hB' F' => by
    refine pf_m16 a b (sI σ 5 (a * 10 + b)) hB' ⟨by omega, by omega, ai_rng _, trivial⟩ ?_
    intro τ6 y6 hB6 F6 _ _ _ _
    exact ⟨rfl, hB6, FQ.tr F' F6⟩
  exact last τ5 hB5 G5
abbrev FSa : List (Nat × Nat) := [(1, 2), (9, 9999), (12, 9999)]
set_option maxRecDepth 20000 in
theorem x_sa {σ : pm_S} (p s S : Nat) (hp : p < 10) (hS : S ≤ 10) (hs : s < S) (eS : sI σ 3 0 = (S : Int)) (hh : sI σ 8 p < (S : Int)) (hB : an_GB pm_B σ) : Sp 92 7 [.ref 74, .int (Int32.ofInt (p : Int)), .int (Int32.ofInt (s : Int))] σ (fun r τ => r = none ∧ an_GB pm_B τ ∧ FQ FSa σ τ ∧ ((sI σ 4 s ≤ sI σ 9 p ∧ τ.1 9 = rup (σ.1 9) p (σ.1 9 p - σ.1 4 s) ∧ τ.1 12 = rup (σ.1 12) p (Int32.ofInt (s : Int)) ∧ τ.1 1 2 = σ.1 1 2 + 2 * σ.1 5 ((sI σ 8 p).toNat * 10 + s)) ∨ (¬ sI σ 4 s ≤ sI σ 9 p ∧ τ.1 9 = σ.1 9 ∧ τ.1 12 = σ.1 12 ∧ τ.1 1 2 = σ.1 1 2))) := by
  have ep : ((p : Int)).toNat = p := by omega
  have es : ((s : Int)).toNat = s := by omega
  have bp : 0 ≤ sI σ 4 s ∧ sI σ 4 s ≤ 99 := hB 4 s (show s < 10 by omega)
  have bh : 0 ≤ sI σ 8 p ∧ sI σ 8 p ≤ 9 := hB 8 p (show p < 10 from hp)
  refine Sp.at rfl rfl ?_
  refine pf_a0 p s hB ⟨by omega, by omega, trivial⟩ ?_
  intro τ1 y1 hB1 F1 _ _ _ _
  refine Ok.cv rfl rfl rfl rfl rfl rfl rfl ?_
  refine (x_h82 s S hB1 (by omega) ((congrArg Int32.toInt (F1 3 0 rfl)).trans eS)).use (by decide) (fun r τ2 q => ?_)
  obtain ⟨hB2, F2, ⟨q, rfl, -⟩ | ⟨q, rfl, -⟩⟩ := q
  · exfalso
    omega
  have G2 : FQ [] σ τ2 := FQ.tr F1 F2
  refine pf_a5 p s 1 (sI σ 9 p) (sI σ 4 s) hB2 ⟨by omega, by omega, by decide, ai_rng _, bp, trivial⟩ ⟨by rw [ep]; exact congrArg Int32.toInt (G2 9 p rfl), by rw [es]; exact congrArg Int32.toInt (G2 4 s rfl), trivial⟩ ?_ ?_
  · intro τ3 y3 hB3 F3 f _ _ _
    have f3 := f.2.2.1
    exfalso
    omega
  intro τ3 y3 hB3 F3 _ _ _ _
  have G3 : FQ [] σ τ3 := FQ.tr G2 F3
  have rp : (-2147483648) ≤ sI σ 9 p ∧ sI σ 9 p ≤ 2147483647 := ai_rng _
  refine Ok.ic rfl rfl (by omega) (by omega) (by omega) (by omega) (fun h => ?_) (fun h => ?_)
  · have h : sI σ 9 p < sI σ 4 s := h
    refine pf_a60 p s hB3 ⟨by omega, by omega, trivial⟩ ?_
    intro τ4 y4 hB4 F4 _ _ _ _
    have G4 : FQ [] σ τ4 := FQ.tr G3 F4
    exact ⟨rfl, hB4, FQ.up (G := []) rfl G4, Or.inr ⟨by omega, row_fq G4 rfl, row_fq G4 rfl, G4 1 2 rfl⟩⟩
  · have h : sI σ 4 s ≤ sI σ 9 p := h
    refine pf_a19 p s (sI σ 9 p) (sI σ 4 s) hB3 ⟨by omega, by omega, ai_rng _, bp, trivial⟩ ⟨by rw [ep]; exact congrArg Int32.toInt (G3 9 p rfl), by rw [es]; exact congrArg Int32.toInt (G3 4 s rfl), trivial⟩ ?_
    intro τ4 y4 hB4 F4 _ _ d4 _
    have G4 : FQ [] σ τ4 := FQ.tr G3 F4
    have e4 : Int32.ofInt (y4 4) = σ.1 9 p - σ.1 4 s := by
      rw [← d4.1, oI, oI, oI]
      rfl
    rw [e4]
    refine Ok.ast (n := 10) rfl rfl rfl (by decide) (by omega) (by omega) ?_
    rw [ep]
    have hB5 : an_GB pm_B (put τ4 9 p (σ.1 9 p - σ.1 4 s)) := put_GB hB4 (ai_rng _)
    have P5 : FQ [(9, 9999)] τ4 (put τ4 9 p (σ.1 9 p - σ.1 4 s)) := FQ.put rfl
    have R5 : (put τ4 9 p (σ.1 9 p - σ.1 4 s)).1 9 = rup (σ.1 9) p (σ.1 9 p - σ.1 4 s) := by
      rw [row_put, row_fq G4 rfl]
    generalize put τ4 9 p (σ.1 9 p - σ.1 4 s) = τ5 at hB5 P5 R5 ⊢
    refine pf_a34 p s hB5 ⟨by omega, by omega, trivial⟩ ?_
    intro τ6 y6 hB6 F6 _ _ _ _
    refine Ok.ast (n := 10) rfl rfl rfl (by decide) (by omega) (by omega) ?_
    rw [ep]
    have hB7 : an_GB pm_B (put τ6 12 p (Int32.ofInt (s : Int))) := put_GB hB6 (by
      rw [ti_of (by omega) (by omega)]
      show (-1 : Int) ≤ _ ∧ _ ≤ (9 : Int)
      omega)
    have G6 : FQ [(9, 9999)] σ τ6 := FQ.tr (FQ.up (G := []) rfl G4) (FQ.tr P5 (FQ.up (G := []) rfl F6))
    have P7 : FQ [(12, 9999)] τ6 (put τ6 12 p (Int32.ofInt (s : Int))) := FQ.put rfl
    have R7 : (put τ6 12 p (Int32.ofInt (s : Int))).1 12 = rup (σ.1 12) p (Int32.ofInt (s : Int)) := by
      rw [row_put, row_fq G6 rfl]
    generalize put τ6 12 p (Int32.ofInt (s : Int)) = τ7 at hB7 P7 R7 ⊢
    have G7 : FQ FSa σ τ7 := FQ.tr (FQ.up (G := [(9, 9999)]) rfl G6) (FQ.up (G := [(12, 9999)]) rfl P7)
    have m7 : τ7.1 1 2 = σ.1 1 2 := (P7 1 2 rfl).trans (G6 1 2 rfl)
    refine pf_a41 p s (sI σ 8 p) (sI σ 1 2) hB7 ⟨by omega, by omega, bh, ai_rng _, trivial⟩ ⟨by rw [ep]; exact congrArg Int32.toInt (G7 8 p rfl), congrArg Int32.toInt m7, trivial⟩ ?_
    intro τ8 y8 hB8 F8 _ _ _ _
    have G8 : FQ FSa σ τ8 := FQ.tr G7 (FQ.up (G := []) rfl F8)
    refine Ok.cv rfl rfl rfl rfl rfl rfl rfl ?_
    have mb := x_mB2 (σ := τ8) (sI σ 8 p).toNat s S hS (by omega) hs ((congrArg Int32.toInt (G8 3 0 rfl)).trans eS) hB8
    rw [show (((sI σ 8 p).toNat : Nat) : Int) = sI σ 8 p by omega] at mb
    refine mb.use (by decide) (fun r τ9 q => ?_)
    obtain ⟨rfl, hB9, F9⟩ := q
    refine pf_a57 p s (sI τ8 5 ((sI σ 8 p).toNat * 10 + s)) (sI σ 1 2) hB9 ⟨by omega, by omega, ai_rng _, ai_rng _, trivial⟩ ?_
    intro τ10 y10 hB10 F10 _ _ d10 c10
    have e10 : τ10.1 1 2 = σ.1 1 2 + 2 * σ.1 5 ((sI σ 8 p).toNat * 10 + s) := by
      have e5 : Int32.ofInt (y10 5) = σ.1 1 2 + 2 * σ.1 5 ((sI σ 8 p).toNat * 10 + s) := by
        rw [← d10.2.1, oI, ← d10.1, oI, oI, oI, ← G8 5 _ rfl]
        rfl
      rw [← e5, ← c10.1, oI]
    have r9 : τ10.1 9 = τ7.1 9 := row_fq (FQ.tr (FQ.up (G := []) rfl F8) (FQ.tr (FQ.up (G := []) rfl F9) F10)) rfl
    have r12 : τ10.1 12 = τ7.1 12 := row_fq (FQ.tr (FQ.up (G := []) rfl F8) (FQ.tr (FQ.up (G := []) rfl F9) F10)) rfl
    refine ⟨rfl, hB10, FQ.tr G8 (FQ.tr (FQ.up (G := []) rfl F9) (FQ.up (G := [(1, 2)]) rfl F10)), Or.inl ⟨h, ?_, r12.trans R7, e10⟩⟩
    rw [r9, row_fq P7 rfl, row_fq F6 rfl, R5]
