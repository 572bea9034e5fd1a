/-! shares: both calls whole -/
abbrev PSh (f r p w S P : Int) : Prop := (0 ≤ f ∧ f < S) ∧ (0 ≤ r ∧ r < ((2 ^ P.toNat : Nat) : Int)) ∧ (0 ≤ p ∧ p < P) ∧ (w = 0 ∨ w = 1) ∧ Nat.testBit r.toNat p.toNat = true ∧ bcI r.toNat ≤ 6
section SHARE
variable {W : Nat → Nat → Int}
set_option maxRecDepth 20000 in
theorem xc_share {σ : pm_S} (f r p w S P : Int) (hB : an_GB pm_B σ) (rf : (-2147483648) ≤ f ∧ f ≤ 2147483647) (rr : (-2147483648) ≤ r ∧ r ≤ 2147483647) (rp : (-2147483648) ≤ p ∧ p ≤ 2147483647) (rw' : (-2147483648) ≤ w ∧ w ≤ 2147483647) (hS : 0 ≤ S ∧ S ≤ 10) (hP : 0 ≤ P ∧ P ≤ 10) (eS : (σ.1 3 0).toInt = S) (eP : (σ.1 7 0).toInt = P) (hh : ∀ i, i < P.toNat → (hoC σ i : Int) < S) (hW : ∀ a b, 0 ≤ W a b ∧ W a b ≤ 99) (hW0 : ∀ a, W a a = 0) (hWs : ∀ a c, W a c = W c a) (h5 : ∀ a c : Nat, (a : Int) < S → (c : Int) < S → a ≠ c → (σ.1 5 ((a : Int) * 10 + c).toNat).toInt = W a c) : Sp 146 31 [.ref 0, .int (Int32.ofInt f), .int (Int32.ofInt r), .int (Int32.ofInt p), .int (Int32.ofInt w)] σ (fun v τ => an_GB pm_B τ ∧ FQ FPr σ τ ∧ ((¬ PSh f r p w S P ∧ v = some (.int (Int32.ofInt (-1)))) ∨ (PSh f r p w S P ∧ v = some (.int (Int32.ofInt (shA (fun a => On W f.toNat S.toNat (clrN (img (hoC σ) P.toNat a) f.toNat) f.toNat) r.toNat p.toNat (decide (w = 0)))))))) := by
  refine Sp.at rfl rfl ?_
  refine sr_0 f r p w _ rfl hB ⟨rf, rr, rp, rw', trivial⟩ ?_
  intro τ y v5 k5 hB1 F1 _ _ _ _
  refine Ok.cv rfl rfl rfl rfl rfl rfl rfl ?_
  refine (x_h82 f S hB1 rf ((congrArg Int32.toInt (F1 3 0 rfl)).trans eS)).use (by decide) (fun r0 τ2 q => ?_)
  obtain ⟨hB2, F2, ⟨q, rfl, -⟩ | ⟨q, rfl, -⟩⟩ := q
  · refine sr_5n _ _ _ _ v5 rfl rfl rfl rfl k5 hB2 ?_
    intro τ3 y3 hB3 F3 _ _ _ _
    exact ⟨hB3, FQ.up (G := []) rfl (FQ.tr (FQ.tr F1 F2) F3), Or.inl ⟨(fun z => absurd z.1 q), rfl⟩⟩
  have G2 : FQ [] σ τ2 := FQ.tr F1 F2
  refine sr_5 f r p w P v5 k5 hB2 ⟨by omega, rr, rp, rw', hP, trivial⟩ ⟨(congrArg Int32.toInt (G2 7 0 rfl)).trans eP, trivial⟩ ?_
  intro τ3 y3 v5' k5' hB3 F3 _ _ _ _
  refine Ok.cs rfl rfl rfl rfl rfl rfl ?_
  refine (x_so r P hB3 rr hP).use (by decide) (fun r0 τ4 q2 => ?_)
  obtain ⟨hB4, F4, ⟨q2, rfl⟩ | ⟨q2, rfl⟩⟩ := q2
  · refine sr_12n _ _ _ _ v5' rfl rfl rfl rfl k5' hB4 ?_
    intro τ5 y5 hB5 F5 _ _ _ _
    exact ⟨hB5, FQ.up (G := []) rfl (FQ.tr (FQ.tr (FQ.tr G2 F3) F4) F5), Or.inl ⟨(fun z => absurd z.2.1 q2), rfl⟩⟩
  have G4 : FQ [] σ τ4 := FQ.tr (FQ.tr G2 F3) F4
  have pp10 : P.toNat ≤ 10 := by omega
  have p10 : 2 ^ P.toNat ≤ 1024 := Nat.pow_le_pow_right (by decide) pp10
  refine sr_12 f r p w v5' k5' hB4 ⟨by omega, by omega, rp, rw', trivial⟩ ?_
  intro τ5 y5 v6 k6 hB5 F5 _ _ _ _
  have G5 : FQ [] σ τ5 := FQ.tr G4 F5
  refine Ok.cv rfl rfl rfl rfl rfl rfl rfl ?_
  refine (x_h61 p P hB5 rp ((congrArg Int32.toInt (G5 7 0 rfl)).trans eP)).use (by decide) (fun r0 τ6 q3 => ?_)
  obtain ⟨hB6, F6, ⟨q3, rfl, -⟩ | ⟨q3, rfl, -⟩⟩ := q3
  · refine sr_18n _ _ _ _ v6 rfl rfl rfl rfl k6 hB6 ?_
    intro τ7 y7 hB7 F7 _ _ _ _
    exact ⟨hB7, FQ.up (G := []) rfl (FQ.tr (FQ.tr G5 F6) F7), Or.inl ⟨(fun z => absurd z.2.2.1 q3), rfl⟩⟩
  have G6 : FQ [] σ τ6 := FQ.tr G5 F6
  have call : ∀ (ab : Int) (τ7 : pm_S) (L : List Value), (0 ≤ ab ∧ ab ≤ 1) → (w = 0 ∨ w = 1) → decide (ab = 1) = decide (w = 0) → an_GB pm_B τ7 → FQ [] σ τ7 → Sp 109 29 [.ref 85, .int (Int32.ofInt f), .int (Int32.ofInt r), .int (Int32.ofInt p), .int (Int32.ofInt ab)] τ7 (fun v τ => an_GB pm_B τ ∧ FQ FPr σ τ ∧ ∃ z : Int, ((-2147483648) ≤ z ∧ z ≤ 2147483647) ∧ v = some (.int (Int32.ofInt z)) ∧ ((¬ PSh f r p w S P ∧ z = -1) ∨ (PSh f r p w S P ∧ z = shA (fun a => On W f.toNat S.toNat (clrN (img (hoC σ) P.toNat a) f.toNat) f.toNat) r.toNat p.toNat (decide (w = 0))))) := by
    intro ab τ7 L hab hw1 hd hB7 G7
    have e8 : ∀ b, img (hoC τ7) P.toNat b = img (hoC σ) P.toNat b := fun b => img_cg (fun i hi => by show (τ7.1 8 i).toInt.toNat = _; rw [G7 8 i rfl])
    have ec : (fun a => On W f.toNat S.toNat (clrN (img (hoC τ7) P.toNat a) f.toNat) f.toNat) = (fun a => On W f.toNat S.toNat (clrN (img (hoC σ) P.toNat a) f.toNat) f.toNat) := funext (fun a => by rw [e8])
    refine (x_csh (W := W) (σ := τ7) f r p ab S P hB7 q hS.2 (by omega) (by omega) hab hP ((congrArg Int32.toInt (G7 3 0 rfl)).trans eS) ((congrArg Int32.toInt (G7 7 0 rfl)).trans eP) (fun i hi => by show (((τ7.1 8 i).toInt.toNat : Nat) : Int) < S; rw [G7 8 i rfl]; exact hh i hi) hW hW0 hWs (fun a c ha hc hne => by rw [G7 5 _ rfl]; exact h5 a c ha hc hne)).mono (fun v τ g => ?_)
    obtain ⟨g1, g2, g3⟩ := g
    rw [ec, hd] at g3
    refine ⟨g1, FQ.tr (FQ.up (G := []) rfl G7) g2, ?_⟩
    rcases g3 with ⟨g3, rfl⟩ | ⟨g3, rfl⟩
    · exact ⟨-1, by decide, rfl, Or.inl ⟨(fun z => g3 z.2.2.2.2), rfl⟩⟩
    · exact ⟨_, ai_rng _, rfl, Or.inr ⟨⟨q, q2, q3, hw1, g3⟩, rfl⟩⟩
  have last : ∀ (τ8 : pm_S) (z : Int) (v1 v2 v3 v4 v5 : Value), v1.category = 1 → v2.category = 1 → v3.category = 1 → v4.category = 1 → v5.category = 1 → an_GB pm_B τ8 → FQ FPr σ τ8 → ((-2147483648) ≤ z ∧ z ≤ 2147483647) → ((¬ PSh f r p w S P ∧ z = -1) ∨ (PSh f r p w S P ∧ z = shA (fun a => On W f.toNat S.toNat (clrN (img (hoC σ) P.toNat a) f.toNat) f.toNat) r.toNat p.toNat (decide (w = 0)))) → Ok 146 31 43 [.ref 0, v1, v2, v3, v4, v5] [.int (Int32.ofInt z)] τ8 (fun v τ => an_GB pm_B τ ∧ FQ FPr σ τ ∧ ((¬ PSh f r p w S P ∧ v = some (.int (Int32.ofInt (-1)))) ∨ (PSh f r p w S P ∧ v = some (.int (Int32.ofInt (shA (fun a => On W f.toNat S.toNat (clrN (img (hoC σ) P.toNat a) f.toNat) f.toNat) r.toNat p.toNat (decide (w = 0)))))))) := by
    intro τ8 z v1 v2 v3 v4 v5 n1 n2 n3 n4 n5 hB8 F8 hz hc
    refine sr_43 z v1 v2 v3 v4 v5 n1 n2 n3 n4 n5 hB8 ⟨hz, trivial⟩ ?_
    intro τ9 y9 hB9 F9 _ _ _ _
    refine ⟨hB9, FQ.tr F8 (FQ.up (G := []) rfl F9), ?_⟩
    rcases hc with ⟨hc, rfl⟩ | ⟨hc, rfl⟩
    · exact Or.inl ⟨hc, rfl⟩
    · exact Or.inr ⟨hc, rfl⟩
  refine sr_18 f r p w v6 k6 hB6 ⟨by omega, by omega, by omega, rw', trivial⟩ ?_ ?_ ?_
  · intro τ7 y7 hB7 F7 g _ _ _
    have g3 := g.2.2.2.1
    have w0 : w = 0 := by omega
    refine Ok.cv rfl rfl rfl rfl rfl rfl rfl ?_
    refine (call 1 τ7 [] (by decide) (Or.inl w0) (by rw [w0]; rfl) hB7 (FQ.tr G6 F7)).use (by decide) (fun r0 τ8 q8 => ?_)
    obtain ⟨hB8, F8, z, hz, rfl, hc⟩ := q8
    exact last τ8 z _ _ _ _ _ rfl rfl rfl rfl rfl hB8 F8 hz hc
  · intro τ7 y7 hB7 F7 g _ _ _
    have g3 := g.2.2.2.1
    have w1 : w = 1 := by omega
    refine Ok.cv rfl rfl rfl rfl rfl rfl rfl ?_
    refine (call 0 τ7 [] (by decide) (Or.inr w1) (by rw [w1]; rfl) hB7 (FQ.tr G6 F7)).use (by decide) (fun r0 τ8 q8 => ?_)
    obtain ⟨hB8, F8, z, hz, rfl, hc⟩ := q8
    exact last τ8 z _ _ _ _ _ rfl rfl rfl rfl rfl hB8 F8 hz hc
  · intro τ7 y7 hB7 F7 g rl _ _
    have r1 := rl.1
    have r2 := rl.2.1
    exact ⟨hB7, FQ.up (G := []) rfl (FQ.tr G6 F7), Or.inl ⟨(fun z => z.2.2.2.1.elim r2 r1), rfl⟩⟩
end SHARE
