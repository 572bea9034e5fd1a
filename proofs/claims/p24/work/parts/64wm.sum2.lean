/-! shares: the model's sum -/
section SUMM
variable {c : Nat → Int}
set_option maxRecDepth 20000 in
theorem x_sumM {σ : pm_S} {Q : Option Value → pm_S → Prop} (f m p w o n tot : Int) (hf : 0 ≤ f ∧ f ≤ 9) (hm : 0 ≤ m ∧ m ≤ 1023) (hp : 0 ≤ p ∧ p ≤ 9) (hw : 0 ≤ w ∧ w ≤ 1) (ho : 0 ≤ o ∧ o ≤ 1023) (hn : 0 ≤ n ∧ n ≤ 10) (hcb : ∀ a, 0 ≤ c a ∧ c a ≤ 110000)
    (hc : ∀ (τ : pm_S) (a : Nat), an_GB pm_B τ → FQ FOn σ τ → sbs a o.toNat → Sp 228 23 [.ref 93, .int (Int32.ofInt f), .int (Int32.ofInt (a : Int))] τ (fun r τ' => r = some (.int (Int32.ofInt (c a))) ∧ an_GB pm_B τ' ∧ FQ FOn τ τ') ∧ Sp 228 23 [.ref 93, .int (Int32.ofInt f), .int (Int32.ofInt ((a ||| 2 ^ p.toNat : Nat) : Int))] τ (fun r τ' => r = some (.int (Int32.ofInt (c (a ||| 2 ^ p.toNat)))) ∧ an_GB pm_B τ' ∧ FQ FOn τ τ'))
    (ex : ∀ (τ : pm_S) (pt : Int) (v10 v11 v12 : Value), v10.category = 1 → v11.category = 1 → v12.category = 1 → (0 ≤ pt ∧ pt ≤ 1023) → an_GB pm_B τ → FQ FOn σ τ → Ok 229 25 106 [.ref 93, .int (Int32.ofInt f), .int (Int32.ofInt m), .int (Int32.ofInt p), .int (Int32.ofInt w), .int (Int32.ofInt o), .int (Int32.ofInt n), .int (Int32.ofInt tot), .int (Int32.ofInt pt), .int (Int32.ofInt 0), v10, v11, v12] [] τ Q) :
    ∀ (k pt : Nat), pt ≤ k → sbs pt o.toNat → ∀ (τ : pm_S) (s : Int) (v10 v11 v12 : Value), v10.category = 1 → v11.category = 1 → v12.category = 1 → ((-2147483648) ≤ s ∧ s ≤ 2147483647) → an_GB pm_B τ → FQ FOn σ τ → sFrom (trm c n p.toNat) o.toNat pt s = tot → Ok 229 25 59 [.ref 93, .int (Int32.ofInt f), .int (Int32.ofInt m), .int (Int32.ofInt p), .int (Int32.ofInt w), .int (Int32.ofInt o), .int (Int32.ofInt n), .int (Int32.ofInt s), .int (Int32.ofInt (pt : Int)), .int (Int32.ofInt 1), v10, v11, v12] [] τ Q := by
  have main : ∀ (k pt : Nat), pt ≤ k → (∀ pt', pt' < pt → sbs pt' o.toNat → ∀ (τ : pm_S) (s : Int) (v10 v11 v12 : Value), v10.category = 1 → v11.category = 1 → v12.category = 1 → ((-2147483648) ≤ s ∧ s ≤ 2147483647) → an_GB pm_B τ → FQ FOn σ τ → sFrom (trm c n p.toNat) o.toNat pt' s = tot → Ok 229 25 59 [.ref 93, .int (Int32.ofInt f), .int (Int32.ofInt m), .int (Int32.ofInt p), .int (Int32.ofInt w), .int (Int32.ofInt o), .int (Int32.ofInt n), .int (Int32.ofInt s), .int (Int32.ofInt (pt' : Int)), .int (Int32.ofInt 1), v10, v11, v12] [] τ Q) → sbs pt o.toNat → ∀ (τ : pm_S) (s : Int) (v10 v11 v12 : Value), v10.category = 1 → v11.category = 1 → v12.category = 1 → ((-2147483648) ≤ s ∧ s ≤ 2147483647) → an_GB pm_B τ → FQ FOn σ τ → sFrom (trm c n p.toNat) o.toNat pt s = tot → Ok 229 25 59 [.ref 93, .int (Int32.ofInt f), .int (Int32.ofInt m), .int (Int32.ofInt p), .int (Int32.ofInt w), .int (Int32.ofInt o), .int (Int32.ofInt n), .int (Int32.ofInt s), .int (Int32.ofInt (pt : Int)), .int (Int32.ofInt 1), v10, v11, v12] [] τ Q := by
    intro k pt hk ih hsb τ s v10 v11 v12 h10 h11 h12 hs hB1 F1 et
    have ple : pt ≤ o.toNat := by
      have := sbs_and hsb
      have l : pt &&& o.toNat ≤ o.toNat := Nat.and_le_right
      omega
    refine sy_m59 f m p w o n s (pt : Int) 1 v10 v11 v12 h10 h11 h12 hB1 ⟨hf, hm, hp, hw, ho, hn, hs, by omega, by decide, trivial⟩ ?_ ?_
    · intro τ2 y2 w10 w11 w12 k10 k11 k12 hB2 F2 g _ _ _
      exfalso
      have := g.2.2.2.2.2.2.2.2.1
      omega
    · intro τ2 y2 w10 w11 w12 k10 k11 k12 hB2 F2 g _ d _
      have G2 : FQ FOn σ τ2 := FQ.tr F1 (FQ.up (G := []) rfl F2)
      have y9 : y2 9 = bcI pt := d.1.symm
      have b9 := g.2.2.2.2.2.2.2.2.2.1
      refine Ok.cv rfl rfl rfl rfl rfl rfl rfl ?_
      refine (x_fct (y2 9) hB2 (by omega)).use (by decide) (fun r τ3 q => ?_)
      obtain ⟨rfl, hB3, F3⟩ := q
      refine sy_m67 f m p w o n s (pt : Int) 1 (fctI (y2 9)) w10 w11 w12 k10 k11 k12 hB3 ⟨hf, hm, hp, hw, ho, hn, hs, by omega, by decide, fctI_b _, trivial⟩ ?_
      intro τ4 y4 u10 u11 u12 n10 n11 n12 hB4 F4 g4 _ d4 _
      have G4 : FQ FOn σ τ4 := FQ.tr G2 (FQ.up (G := []) rfl (FQ.tr F3 F4))
      have y10 : y4 10 = bcI pt := d4.1.symm
      have b10 := g4.2.2.2.2.2.2.2.2.2.2.1
      have b11 := g4.2.2.2.2.2.2.2.2.2.2.2.1
      have x11 := subC (by omega) (by omega) d4.2.1
      refine Ok.cv rfl rfl rfl rfl rfl rfl rfl ?_
      refine (x_fct (y4 11) hB4 (by omega)).use (by decide) (fun r τ5 q => ?_)
      obtain ⟨rfl, hB5, F5⟩ := q
      refine sy_m76 f m p w o n s (pt : Int) 1 (fctI (y2 9)) (fctI (y4 11)) u10 u11 u12 n10 n11 n12 hB5 ⟨hf, hm, hp, hw, ho, hn, hs, by omega, by decide, fctI_b _, fctI_b _, trivial⟩ ?_
      intro τ6 y6 x10 x11' x12 j10 j11 j12 hB6 F6 g6 _ d6 _
      have G6 : FQ FOn σ τ6 := FQ.tr G4 (FQ.up (G := []) rfl (FQ.tr F5 F6))
      have b6 := g6.2.2.2.2.2.2.2.2.2.2.2.1
      have y13 := orJ (x := (pt : Int)) hp (by omega) d6.2.1 d6.2.2.1
      rw [Int.toNat_natCast] at y13
      rw [y13]
      refine Ok.cv rfl rfl rfl rfl rfl rfl rfl ?_
      refine (hc τ6 pt hB6 G6 hsb).2.use (by decide) (fun r τ7 q => ?_)
      obtain ⟨rfl, hB7, F7⟩ := q
      have G7 : FQ FOn σ τ7 := FQ.tr G6 F7
      refine sy_m85 f m p w o n s (pt : Int) 1 (c (pt ||| 2 ^ p.toNat)) (y6 11) x10 x11' x12 j10 j11 j12 hB7 ⟨hf, hm, hp, hw, ho, hn, hs, by omega, by decide, hcb _, b6, trivial⟩ ?_
      intro τ8 y8 t10 t11 t12 l10 l11 l12 hB8 F8 _ _ _ _
      have G8 : FQ FOn σ τ8 := FQ.tr G7 (FQ.up (G := []) rfl F8)
      refine Ok.cv rfl rfl rfl rfl rfl rfl rfl ?_
      refine (hc τ8 pt hB8 G8 hsb).1.use (by decide) (fun r τ9 q => ?_)
      obtain ⟨rfl, hB9, F9⟩ := q
      have G9 : FQ FOn σ τ9 := FQ.tr G8 F9
      have tr : ∀ (y14 dd y13 : Int), (an_f 1 (Int32.ofInt (c (pt ||| 2 ^ p.toNat))) (Int32.ofInt (c pt))).toInt = dd → (an_f 2 (Int32.ofInt (y6 11)) (Int32.ofInt dd)).toInt = y13 → (an_f 0 (Int32.ofInt s) (Int32.ofInt y13)).toInt = y14 → y14 = trm c n p.toNat s pt := fun y14 dd y13' e1 e2 e3 => trm_e (by rw [y9]) (by rw [x11, y10]) rfl rfl e1 d6.1 e2 e3
      refine sy_m89 f m p w o n s (pt : Int) 1 (c (pt ||| 2 ^ p.toNat)) (y6 11) (c pt) t10 t11 t12 l10 l11 l12 hB9 ⟨hf, hm, hp, hw, ho, hn, hs, by omega, by decide, hcb _, b6, hcb _, trivial⟩ ?_ ?_
      · intro τa ya z10 z11 z12 i10 i11 i12 hBa Fa ga _ da _
        have Ga : FQ FOn σ τa := FQ.tr G9 (FQ.up (G := []) rfl Fa)
        have a7 := ga.2.2.2.2.2.2.2.1
        have a14 := ga.2.2.2.2.2.2.2.2.2.2.2.2.2.2.1
        have a15 := ga.2.2.2.2.2.2.2.2.2.2.2.2.2.2.2.1
        have e0 : pt = 0 := by omega
        have et14 := tr (ya 14) _ _ da.1 da.2.1 da.2.2.1
        have etot : ya 14 = tot := by
          rw [et14, e0]
          rw [e0] at et
          exact et
        rw [etot] at a14 ⊢
        refine sy_m59 f m p w o n tot (ya 15) 0 z10 z11 z12 i10 i11 i12 hBa ⟨hf, hm, hp, hw, ho, hn, a14, a15, by decide, trivial⟩ ?_ ?_
        · intro τb yb q10 q11 q12 r10 r11 r12 hBb Fb _ _ _ _
          exact ex τb (ya 15) q10 q11 q12 r10 r11 r12 a15 hBb (FQ.tr Ga (FQ.up (G := []) rfl Fb))
        · intro τb yb q10 q11 q12 r10 r11 r12 hBb Fb gb _ _ _
          exfalso
          have := gb.2.2.2.2.2.2.2.2.1
          omega
      · intro τa ya z10 z11 z12 i10 i11 i12 hBa Fa ga _ da _
        have Ga : FQ FOn σ τa := FQ.tr G9 (FQ.up (G := []) rfl Fa)
        have a7 := ga.2.2.2.2.2.2.2.1
        have a14 := ga.2.2.2.2.2.2.2.2.2.2.2.2.2.2.1
        have et14 := tr (ya 14) _ _ da.1 da.2.1 da.2.2.1
        have y15 : ya 15 = (((pt - 1) &&& o.toNat : Nat) : Int) := by
          have h := andN (a := pt - 1) (b := o.toNat) (by omega) (by omega)
          rw [show ((pt - 1 : Nat) : Int) = (pt : Int) + (-1) by omega, nOf ho.1] at h
          rw [← da.2.2.2.1]
          exact h
        rw [y15]
        have l : (pt - 1) &&& o.toNat ≤ pt - 1 := Nat.and_le_left
        refine ih ((pt - 1) &&& o.toNat) (by omega) and_sbs τa (ya 14) z10 z11 z12 i10 i11 i12 a14 hBa Ga ?_
        rw [et14, ← sFrom_nx hsb (by omega)]
        exact et
  intro k
  induction k with
  | zero =>
    intro pt hpt
    exact main 0 pt hpt (fun pt' h => absurd h (by omega))
  | succ k ihk =>
    intro pt hpt
    exact main (k + 1) pt hpt (fun pt' h => ihk pt' (by omega))
end SUMM
