/-! spots, people, debts, lines as keys: the calls that touch them -/
abbrev Kq : KY := [(3, 0, 93, 2), (7, 0, 93, 5), (13, 0, 93, 11), (21, 0, 93, 23), (0, 2, 93, 64), (36, 0, 133, 1), (40, 0, 133, 192), (46, 0, 133, 250), (54, 0, 133, 461)]
def KU (K : KY) (q0 : Nat × Nat × Nat × Nat) (G1 G2 : List (Nat × Nat)) : Bool := K.all (fun q => decide (q = q0) || (!an_inF G1 q.1 q.2.1 && !an_inF G1 q.2.2.1 q.2.2.2 && !an_inF G2 q.1 q.2.1 && !an_inF G2 q.2.2.1 q.2.2.2))
theorem KE.upd {K : KY} {q0 : Nat × Nat × Nat × Nat} {G1 G2 : List (Nat × Nat)} {σ τ υ : pm_S} (hc : KU K q0 G1 G2 = true) (hF1 : FQ G1 σ τ) (hF2 : FQ G2 τ υ) (he : KE K σ) (h0 : (υ.1 q0.1 q0.2.1).toInt = (υ.1 q0.2.2.1 q0.2.2.2).toInt) : KE K υ := fun q hq => by
  have h1 := List.all_eq_true.mp hc q hq
  rw [Bool.or_eq_true] at h1
  rcases h1 with h1 | h1
  · have e : q = q0 := of_decide_eq_true h1
    rw [e]
    exact Int32.toInt_inj.mp h0
  · rw [Bool.and_eq_true, Bool.and_eq_true, Bool.and_eq_true, Bool.not_eq_true', Bool.not_eq_true', Bool.not_eq_true', Bool.not_eq_true'] at h1
    rw [hF2 _ _ h1.1.2, hF2 _ _ h1.2, hF1 _ _ h1.1.1.1, hF1 _ _ h1.1.1.2]
    exact he q hq
theorem tq_spot (a1 : Int32) : Two 1 true (IK Kq) (IK Kq) 129 166 [.int a1] := by
  intro σ hI
  have e : (σ.1 3 0).toInt = cI σ 2 := hI.2.2.g (q := (3, 0, 93, 2)) (by decide)
  have g : 0 ≤ cI σ 2 ∧ cI σ 2 ≤ 10 := hI.1 93 2 (by decide)
  have fin : ∀ (τ τ2 : pm_S) (v n : Int), FQ [(3, 0), (4, 9999)] σ τ → FQ [(93, 0), (93, 2), (94, 9999)] τ τ2 → an_GB pm_B τ2 → (τ.1 3 0).toInt = n → (τ2.1 93 2).toInt = n → (n = cI σ 2 ∨ 1 ≤ n) → an_sh 1 (some (.int (Int32.ofInt v))) ∧ (true = true → some (Value.int (Int32.ofInt v)) = some (.int (Int32.ofInt v))) ∧ IK Kq τ2 := by
    intro τ τ2 v n hF1 hF2 hB2 c1 c2 h1
    have hPτ : mP τ := mP93 σ τ (fun p j hp => hF1 p j (an_foot93 rfl hp)) hI.2.1
    have e2 : cI τ 2 = cI σ 2 := hF1.c 2 rfl
    have e5 : cI τ2 5 = cI τ 5 := hF2.c 5 rfl
    have c2' : cI τ2 2 = n := c2
    refine ⟨⟨_, rfl⟩, fun _ => rfl, hB2, ⟨⟨pPP.fr _ rfl rfl rfl rfl rfl rfl rfl rfl hF2 hPτ.1.1, ?_⟩, mP_img (hF2.c 64 rfl) (fun i => hF2 133 i rfl) hPτ⟩, KE.upd (q0 := (3, 0, 93, 2)) rfl hF1 hF2 hI.2.2 ?_⟩
    · rcases h1 with h | h
      · unfold sPP
        rw [e5, c2', h, ← e2]
        exact hPτ.1.2
      · exact Or.inl (by omega)
    · show (τ2.1 3 0).toInt = (τ2.1 93 2).toInt
      rw [hF2 3 0 rfl]
      omega
  refine Sp.up (D := 21) ?_ (by decide)
  refine Sp.at rfl rfl ?_
  show Ok 129 21 0 [.ref 0, .int a1] [] σ _
  rw [← oI a1]
  refine sg_csp a1.toInt (cI σ 2) hI.1 ⟨ai_rng a1, g, trivial⟩ ⟨e, trivial⟩ ?_ ?_ ?_ ?_ <;>
  · intro τ y hB1 hF1 f _ _ c
    have f1 := f.1
    have f2 := f.2.1
    refine ⟨⟨_, rfl⟩, Sp.up (D := 21) ?_ (by decide)⟩
    refine Sp.at rfl rfl ?_
    refine sg_msp a1.toInt (cI σ 2) hB1 ⟨ai_rng a1, g, trivial⟩ ⟨hF1.c 2 rfl, trivial⟩ ?_ ?_ ?_ ?_ <;>
    · intro τ2 y2 hB2 hF2 f3 _ _ c2
      have f4 := f3.1
      have f5 := f3.2.1
      first
        | (exfalso; omega)
        | exact fin τ τ2 _ _ hF1 hF2 hB2 c.1 c2.1 (by omega)
theorem tq_way (a1 a2 a3 : Int32) : Two 1 true (IK Kq) (IK Kq) 130 167 [.int a1, .int a2, .int a3] := by
  intro σ hI
  have k2 : (σ.1 3 0).toInt = cI σ 2 := hI.2.2.g (q := (3, 0, 93, 2)) (by decide)
  have g2 : 0 ≤ cI σ 2 ∧ cI σ 2 ≤ 10 := hI.1 93 2 (by decide)
  rw [← oI a1, ← oI a2, ← oI a3]
  have o_a1 := ai_rng a1
  have o_a2 := ai_rng a2
  have o_a3 := ai_rng a3
  refine (xc_way a1.toInt a2.toInt a3.toInt (cI σ 2) hI.1 (ai_rng a1) (ai_rng a2) (ai_rng a3) g2 k2).use (by decide) (fun r τ q => ?_)
  obtain ⟨hB1, F1, q⟩ := q
  have F1 : FQ [(5, 9999)] σ τ := F1
  have hPτ : mP τ := mP93 σ τ (fun p j hp => F1 p j (an_foot93 rfl hp)) hI.2.1
  have s2 : cI τ 2 = cI σ 2 := F1.c 2 rfl
  rcases q with ⟨q, rfl, c⟩ | ⟨q, rfl, c⟩
  · refine ⟨⟨_, rfl⟩, (xm_way a1.toInt a2.toInt a3.toInt (cI σ 2) hB1 (ai_rng a1) (ai_rng a2) (ai_rng a3) g2 s2).use (by decide) (fun r2 τ2 p => ?_)⟩
    obtain ⟨hB2, F2, ⟨p, rfl, d⟩ | ⟨p, rfl, d⟩⟩ := p
    · have F2 : FQ [(93, 0), (95, 9999)] τ τ2 := F2
      exact ⟨⟨_, rfl⟩, fun _ => rfl, hB2, mP.fr _ rfl rfl rfl rfl rfl rfl rfl rfl rfl rfl rfl rfl F2 hPτ, (KX.of rfl F2).ke ((KX.of rfl F1).ke hI.2.2)⟩
    · exfalso
      omega
  · refine ⟨⟨_, rfl⟩, (xm_way a1.toInt a2.toInt a3.toInt (cI σ 2) hB1 (ai_rng a1) (ai_rng a2) (ai_rng a3) g2 s2).use (by decide) (fun r2 τ2 p => ?_)⟩
    obtain ⟨hB2, F2, ⟨p, rfl, d⟩ | ⟨p, rfl, d⟩⟩ := p
    · exfalso
      omega
    · have F2 : FQ [(93, 0), (95, 9999)] τ τ2 := F2
      exact ⟨⟨_, rfl⟩, fun _ => rfl, hB2, mP.fr _ rfl rfl rfl rfl rfl rfl rfl rfl rfl rfl rfl rfl F2 hPτ, (KX.of rfl F2).ke ((KX.of rfl F1).ke hI.2.2)⟩
theorem tq_goal (a1 a2 : Int32) : Two 1 true (IK Kq) (IK Kq) 134 173 [.int a1, .int a2] := by
  intro σ hI
  have k2 : (σ.1 3 0).toInt = cI σ 2 := hI.2.2.g (q := (3, 0, 93, 2)) (by decide)
  have g2 : 0 ≤ cI σ 2 ∧ cI σ 2 ≤ 10 := hI.1 93 2 (by decide)
  have k5 : (σ.1 7 0).toInt = cI σ 5 := hI.2.2.g (q := (7, 0, 93, 5)) (by decide)
  have g5 : 0 ≤ cI σ 5 ∧ cI σ 5 ≤ 10 := hI.1 93 5 (by decide)
  rw [← oI a1, ← oI a2]
  have o_a1 := ai_rng a1
  have o_a2 := ai_rng a2
  refine (xc_goal a1.toInt a2.toInt (cI σ 2) (cI σ 5) hI.1 (ai_rng a1) (ai_rng a2) g2 g5 k2 k5).use (by decide) (fun r τ q => ?_)
  obtain ⟨hB1, F1, q⟩ := q
  have F1 : FQ [(11, 9999)] σ τ := F1
  have hPτ : mP τ := mP93 σ τ (fun p j hp => F1 p j (an_foot93 rfl hp)) hI.2.1
  have s2 : cI τ 2 = cI σ 2 := F1.c 2 rfl
  have s5 : cI τ 5 = cI σ 5 := F1.c 5 rfl
  rcases q with ⟨q, rfl, c⟩ | ⟨q, rfl, c⟩
  · refine ⟨⟨_, rfl⟩, (xm_goal a1.toInt a2.toInt (cI σ 2) (cI σ 5) hB1 (ai_rng a1) (ai_rng a2) g2 g5 s2 s5).use (by decide) (fun r2 τ2 p => ?_)⟩
    obtain ⟨hB2, F2, ⟨p, rfl, d⟩ | ⟨p, rfl, d⟩⟩ := p
    · have F2 : FQ [(93, 0), (99, 9999)] τ τ2 := F2
      exact ⟨⟨_, rfl⟩, fun _ => rfl, hB2, mP.fr _ rfl rfl rfl rfl rfl rfl rfl rfl rfl rfl rfl rfl F2 hPτ, (KX.of rfl F2).ke ((KX.of rfl F1).ke hI.2.2)⟩
    · exfalso
      omega
  · refine ⟨⟨_, rfl⟩, (xm_goal a1.toInt a2.toInt (cI σ 2) (cI σ 5) hB1 (ai_rng a1) (ai_rng a2) g2 g5 s2 s5).use (by decide) (fun r2 τ2 p => ?_)⟩
    obtain ⟨hB2, F2, ⟨p, rfl, d⟩ | ⟨p, rfl, d⟩⟩ := p
    · exfalso
      omega
    · have F2 : FQ [(93, 0), (99, 9999)] τ τ2 := F2
      exact ⟨⟨_, rfl⟩, fun _ => rfl, hB2, mP.fr _ rfl rfl rfl rfl rfl rfl rfl rfl rfl rfl rfl rfl F2 hPτ, (KX.of rfl F2).ke ((KX.of rfl F1).ke hI.2.2)⟩
theorem tq_line (a1 a2 a3 a4 : Int32) : Two 1 true (IK Kq) (IK Kq) 149 239 [.int a1, .int a2, .int a3, .int a4] := by
  intro σ hI
  have k2 : (σ.1 3 0).toInt = cI σ 2 := hI.2.2.g (q := (3, 0, 93, 2)) (by decide)
  have g2 : 0 ≤ cI σ 2 ∧ cI σ 2 ≤ 10 := hI.1 93 2 (by decide)
  have k5 : (σ.1 7 0).toInt = cI σ 5 := hI.2.2.g (q := (7, 0, 93, 5)) (by decide)
  have g5 : 0 ≤ cI σ 5 ∧ cI σ 5 ≤ 10 := hI.1 93 5 (by decide)
  have k23 : (σ.1 21 0).toInt = cI σ 23 := hI.2.2.g (q := (21, 0, 93, 23)) (by decide)
  have g23 : 0 ≤ cI σ 23 ∧ cI σ 23 ≤ 30 := hI.1 93 23 (by decide)
  rw [← oI a1, ← oI a2, ← oI a3, ← oI a4]
  have o_a1 := ai_rng a1
  have o_a2 := ai_rng a2
  have o_a3 := ai_rng a3
  have o_a4 := ai_rng a4
  refine (xc_line a1.toInt a2.toInt a3.toInt a4.toInt (cI σ 2) (cI σ 5) (cI σ 23) hI.1 (ai_rng a1) (ai_rng a2) (ai_rng a3) (ai_rng a4) g2 g5 g23 k2 k5 k23).use (by decide) (fun r τ q => ?_)
  obtain ⟨hB1, F1, q⟩ := q
  have F1 : FQ [(21, 0), (22, 9999), (23, 9999), (24, 9999), (25, 9999)] σ τ := F1
  have hPτ : mP τ := mP93 σ τ (fun p j hp => F1 p j (an_foot93 rfl hp)) hI.2.1
  have s2 : cI τ 2 = cI σ 2 := F1.c 2 rfl
  have s5 : cI τ 5 = cI σ 5 := F1.c 5 rfl
  have s23 : cI τ 23 = cI σ 23 := F1.c 23 rfl
  rcases q with ⟨q, rfl, c⟩ | ⟨q, rfl, c⟩
  · refine ⟨⟨_, rfl⟩, (xm_line a1.toInt a2.toInt a3.toInt a4.toInt (cI σ 2) (cI σ 5) (cI σ 23) hB1 (ai_rng a1) (ai_rng a2) (ai_rng a3) (ai_rng a4) g2 g5 g23 s2 s5 s23).use (by decide) (fun r2 τ2 p => ?_)⟩
    obtain ⟨hB2, F2, ⟨p, rfl, d⟩ | ⟨p, rfl, d⟩⟩ := p
    · have F2 : FQ [(93, 0), (93, 23), (109, 9999), (110, 9999), (111, 9999), (112, 9999)] τ τ2 := F2
      exact ⟨⟨_, rfl⟩, fun _ => rfl, hB2, mP.fr _ rfl rfl rfl rfl rfl rfl rfl rfl rfl rfl rfl rfl F2 hPτ, KE.upd (q0 := (21, 0, 93, 23)) rfl F1 F2 hI.2.2 (by
        show (τ2.1 21 0).toInt = (τ2.1 93 23).toInt
        rw [F2 21 0 rfl]
        omega)⟩
    · exfalso
      omega
  · refine ⟨⟨_, rfl⟩, (xm_line a1.toInt a2.toInt a3.toInt a4.toInt (cI σ 2) (cI σ 5) (cI σ 23) hB1 (ai_rng a1) (ai_rng a2) (ai_rng a3) (ai_rng a4) g2 g5 g23 s2 s5 s23).use (by decide) (fun r2 τ2 p => ?_)⟩
    obtain ⟨hB2, F2, ⟨p, rfl, d⟩ | ⟨p, rfl, d⟩⟩ := p
    · exfalso
      omega
    · have F2 : FQ [(93, 0), (93, 23), (109, 9999), (110, 9999), (111, 9999), (112, 9999)] τ τ2 := F2
      exact ⟨⟨_, rfl⟩, fun _ => rfl, hB2, mP.fr _ rfl rfl rfl rfl rfl rfl rfl rfl rfl rfl rfl rfl F2 hPτ, KE.upd (q0 := (21, 0, 93, 23)) rfl F1 F2 hI.2.2 (by
        show (τ2.1 21 0).toInt = (τ2.1 93 23).toInt
        rw [F2 21 0 rfl]
        omega)⟩
theorem tq_person (a1 a2 a3 : Int32) : Two 1 true (IK Kq) (IK Kq) 131 168 [.int a1, .int a2, .int a3] := by
  intro σ hI
  have k2 : (σ.1 3 0).toInt = cI σ 2 := hI.2.2.g (q := (3, 0, 93, 2)) (by decide)
  have g2 : 0 ≤ cI σ 2 ∧ cI σ 2 ≤ 10 := hI.1 93 2 (by decide)
  have k5 : (σ.1 7 0).toInt = cI σ 5 := hI.2.2.g (q := (7, 0, 93, 5)) (by decide)
  have g5 : 0 ≤ cI σ 5 ∧ cI σ 5 ≤ 10 := hI.1 93 5 (by decide)
  rw [← oI a1, ← oI a2, ← oI a3]
  have o_a1 := ai_rng a1
  have o_a2 := ai_rng a2
  have o_a3 := ai_rng a3
  refine (xc_person a1.toInt a2.toInt a3.toInt (cI σ 2) (cI σ 5) hI.1 (ai_rng a1) (ai_rng a2) (ai_rng a3) g2 g5 k2 k5).use (by decide) (fun r τ q => ?_)
  obtain ⟨hB1, F1, q⟩ := q
  have F1 : FQ [(7, 0), (8, 9999), (9, 9999), (10, 9999), (11, 9999), (12, 9999)] σ τ := F1
  have hPτ : mP τ := mP93 σ τ (fun p j hp => F1 p j (an_foot93 rfl hp)) hI.2.1
  have s2 : cI τ 2 = cI σ 2 := F1.c 2 rfl
  have s5 : cI τ 5 = cI σ 5 := F1.c 5 rfl
  rcases q with ⟨q, rfl, c⟩ | ⟨q, rfl, c⟩
  · refine ⟨⟨_, rfl⟩, (xm_person a1.toInt a2.toInt a3.toInt (cI σ 2) (cI σ 5) hB1 (ai_rng a1) (ai_rng a2) (ai_rng a3) g2 g5 s2 s5).use (by decide) (fun r2 τ2 p => ?_)⟩
    obtain ⟨hB2, F2, ⟨p, rfl, d⟩ | ⟨p, rfl, d⟩⟩ := p
    · have F2 : FQ [(93, 0), (93, 5), (96, 9999), (97, 9999), (98, 9999), (99, 9999)] τ τ2 := F2
      have z5 : cI τ2 5 = _ := d
      have z2 : cI τ2 2 = cI τ 2 := F2.c 2 rfl
      have zs : 1 ≤ cI τ 2 ∨ cI τ 5 = 0 := hPτ.1.2
      exact ⟨⟨_, rfl⟩, fun _ => rfl, hB2, ⟨⟨pPP.fr _ rfl rfl rfl rfl rfl rfl rfl rfl F2 hPτ.1.1, (show 1 ≤ cI τ2 2 ∨ cI τ2 5 = 0 by omega)⟩, mP_img (F2.c 64 rfl) (fun i => F2 133 i rfl) hPτ⟩, KE.upd (q0 := (7, 0, 93, 5)) rfl F1 F2 hI.2.2 (by
        show (τ2.1 7 0).toInt = (τ2.1 93 5).toInt
        rw [F2 7 0 rfl]
        omega)⟩
    · exfalso
      omega
  · refine ⟨⟨_, rfl⟩, (xm_person a1.toInt a2.toInt a3.toInt (cI σ 2) (cI σ 5) hB1 (ai_rng a1) (ai_rng a2) (ai_rng a3) g2 g5 s2 s5).use (by decide) (fun r2 τ2 p => ?_)⟩
    obtain ⟨hB2, F2, ⟨p, rfl, d⟩ | ⟨p, rfl, d⟩⟩ := p
    · exfalso
      omega
    · have F2 : FQ [(93, 0), (93, 5), (96, 9999), (97, 9999), (98, 9999), (99, 9999)] τ τ2 := F2
      have z5 : cI τ2 5 = _ := d
      have z2 : cI τ2 2 = cI τ 2 := F2.c 2 rfl
      have zs : 1 ≤ cI τ 2 ∨ cI τ 5 = 0 := hPτ.1.2
      exact ⟨⟨_, rfl⟩, fun _ => rfl, hB2, ⟨⟨pPP.fr _ rfl rfl rfl rfl rfl rfl rfl rfl F2 hPτ.1.1, (show 1 ≤ cI τ2 2 ∨ cI τ2 5 = 0 by omega)⟩, mP_img (F2.c 64 rfl) (fun i => F2 133 i rfl) hPτ⟩, KE.upd (q0 := (7, 0, 93, 5)) rfl F1 F2 hI.2.2 (by
        show (τ2.1 7 0).toInt = (τ2.1 93 5).toInt
        rw [F2 7 0 rfl]
        omega)⟩
theorem tq_debt (a1 a2 a3 a4 : Int32) : Two 1 true (IK Kq) (IK Kq) 132 169 [.int a1, .int a2, .int a3, .int a4] := by
  intro σ hI
  have k2 : (σ.1 3 0).toInt = cI σ 2 := hI.2.2.g (q := (3, 0, 93, 2)) (by decide)
  have g2 : 0 ≤ cI σ 2 ∧ cI σ 2 ≤ 10 := hI.1 93 2 (by decide)
  have k5 : (σ.1 7 0).toInt = cI σ 5 := hI.2.2.g (q := (7, 0, 93, 5)) (by decide)
  have g5 : 0 ≤ cI σ 5 ∧ cI σ 5 ≤ 10 := hI.1 93 5 (by decide)
  have k11 : (σ.1 13 0).toInt = cI σ 11 := hI.2.2.g (q := (13, 0, 93, 11)) (by decide)
  have g11 : 0 ≤ cI σ 11 ∧ cI σ 11 ≤ 30 := hI.1 93 11 (by decide)
  have gs := ai_rng (σ.1 1 1)
  rw [← oI a1, ← oI a2, ← oI a3, ← oI a4]
  have o_a1 := ai_rng a1
  have o_a2 := ai_rng a2
  have o_a3 := ai_rng a3
  have o_a4 := ai_rng a4
  refine (xc_debt a1.toInt a2.toInt a3.toInt a4.toInt (cI σ 2) (cI σ 5) (cI σ 11) (σ.1 1 1).toInt hI.1 (ai_rng a1) (ai_rng a2) (ai_rng a3) (ai_rng a4) g2 g5 g11 gs k2 k5 k11 rfl).use (by decide) (fun r τ q => ?_)
  obtain ⟨hB1, F1, q⟩ := q
  have F1 : FQ [(13, 0), (14, 9999), (15, 9999), (16, 9999), (17, 9999), (18, 9999), (19, 9999), (20, 9999)] σ τ := F1
  have hPτ : mP τ := mP93 σ τ (fun p j hp => F1 p j (an_foot93 rfl hp)) hI.2.1
  have s2 : cI τ 2 = cI σ 2 := F1.c 2 rfl
  have s5 : cI τ 5 = cI σ 5 := F1.c 5 rfl
  have s11 : cI τ 11 = cI σ 11 := F1.c 11 rfl
  rcases q with ⟨q, rfl, c⟩ | ⟨q, rfl, c⟩
  · refine ⟨⟨_, rfl⟩, (xm_debt a1.toInt a2.toInt a3.toInt a4.toInt (cI σ 2) (cI σ 5) (cI σ 11) hB1 (ai_rng a1) (ai_rng a2) (ai_rng a3) (ai_rng a4) g2 g5 g11 s2 s5 s11).use (by decide) (fun r2 τ2 p => ?_)⟩
    obtain ⟨hB2, F2, ⟨p, rfl, d⟩ | ⟨p, rfl, d⟩⟩ := p
    · have F2 : FQ [(93, 0), (93, 11), (101, 9999), (102, 9999), (103, 9999), (104, 9999), (105, 9999), (106, 9999), (107, 9999)] τ τ2 := F2
      have z11 : cI τ2 11 = cI τ 11 := FQ.c d 11 rfl
      have z13 : (τ2.1 13 0).toInt = (τ.1 13 0).toInt := congrArg Int32.toInt (F2 13 0 rfl)
      exact ⟨⟨_, rfl⟩, fun _ => rfl, hB2, mP.fr _ rfl rfl rfl rfl rfl rfl rfl rfl rfl rfl rfl rfl d hPτ, KE.upd (q0 := (13, 0, 93, 11)) rfl F1 F2 hI.2.2 (by
        show (τ2.1 13 0).toInt = cI τ2 11
        omega)⟩
    · exfalso
      omega
  · refine ⟨⟨_, rfl⟩, (xm_debt a1.toInt a2.toInt a3.toInt a4.toInt (cI σ 2) (cI σ 5) (cI σ 11) hB1 (ai_rng a1) (ai_rng a2) (ai_rng a3) (ai_rng a4) g2 g5 g11 s2 s5 s11).use (by decide) (fun r2 τ2 p => ?_)⟩
    obtain ⟨hB2, F2, ⟨p, rfl, d⟩ | ⟨p, rfl, d⟩⟩ := p
    · exfalso
      omega
    · have F2 : FQ [(93, 0), (93, 11), (101, 9999), (102, 9999), (103, 9999), (104, 9999), (105, 9999), (106, 9999), (107, 9999)] τ τ2 := F2
      obtain ⟨d, r1, r2⟩ := d
      have z13 : (τ2.1 13 0).toInt = (τ.1 13 0).toInt := congrArg Int32.toInt (F2 13 0 rfl)
      have ea : (Int32.ofInt a1.toInt).toInt = a1.toInt := ti_of (ai_rng a1).1 (ai_rng a1).2
      have eb : (Int32.ofInt a2.toInt).toInt = a2.toInt := ti_of (ai_rng a2).1 (ai_rng a2).2
      refine ⟨⟨_, rfl⟩, fun _ => rfl, hB2, ⟨⟨⟨lwW.fr _ rfl rfl rfl rfl rfl F2 hPτ.1.1.1, fun k hk => ?_⟩, ?_⟩, mP_img (F2.c 64 rfl) (fun i => F2 133 i rfl) hPτ⟩, KE.upd (q0 := (13, 0, 93, 11)) rfl F1 F2 hI.2.2 (by
        show (τ2.1 13 0).toInt = cI τ2 11
        omega)⟩
      · rw [r1, r2]
        by_cases e : k = (cI σ 11).toNat
        · rw [if_pos e, if_pos e, ea, eb]
          exact p.2.2.2.2.1
        · rw [if_neg e, if_neg e]
          exact hPτ.1.1.2 k (by omega)
      · unfold sPP
        rw [F2.c 2 rfl, F2.c 5 rfl]
        exact hPτ.1.2
set_option maxRecDepth 100000 in
theorem sg_cim4 {σ : pm_S} {Q : Option Value → pm_S → Prop} (x0 x1 x2 x3 x4 x5 x6 x7 x8 x9 : Int)  (hB : an_GB pm_B σ) (eF : (0 ≤ x0 ∧ x0 ≤ 1) ∧ (0 ≤ x1 ∧ x1 ≤ 1) ∧ (0 ≤ x2 ∧ x2 ≤ 10) ∧ (0 ≤ x3 ∧ x3 ≤ 10) ∧ (0 ≤ x4 ∧ x4 ≤ 30) ∧ (0 ≤ x5 ∧ x5 ≤ 30) ∧ (0 ≤ x6 ∧ x6 ≤ 10) ∧ (0 ≤ x7 ∧ x7 ≤ 10) ∧ (0 ≤ x8 ∧ x8 ≤ 30) ∧ (0 ≤ x9 ∧ x9 ≤ 30) ∧ True) (eC : (σ.1 0 2).toInt = x1 ∧ (σ.1 3 0).toInt = x2 ∧ (σ.1 7 0).toInt = x3 ∧ (σ.1 13 0).toInt = x4 ∧ (σ.1 21 0).toInt = x5 ∧ (σ.1 36 0).toInt = x6 ∧ (σ.1 40 0).toInt = x7 ∧ (σ.1 46 0).toInt = x8 ∧ (σ.1 54 0).toInt = x9 ∧ True)
    (l0 : ∀ (τ : pm_S) (y : Nat → Int), an_GB pm_B τ → FQ [(0, 2), (1, 0), (1, 1), (1, 2), (1, 3), (2, 9999), (3, 0), (4, 9999), (5, 9999), (6, 9999), (7, 0), (8, 9999), (9, 9999), (10, 9999), (11, 9999), (12, 9999), (13, 0), (14, 9999), (15, 9999), (16, 9999), (17, 9999), (18, 9999), (19, 9999), (20, 9999), (21, 0), (22, 9999), (23, 9999), (24, 9999), (25, 9999), (31, 0), (31, 1), (32, 9999), (34, 0), (34, 1), (34, 2), (34, 3), (35, 9999), (36, 0), (37, 9999), (38, 9999), (39, 9999), (40, 0), (41, 9999), (42, 9999), (43, 9999), (44, 9999), (45, 9999), (46, 0), (47, 9999), (48, 9999), (49, 9999), (50, 9999), (51, 9999), (52, 9999), (53, 9999), (54, 0), (55, 9999), (56, 9999), (57, 9999), (58, 9999), (64, 0), (64, 1), (65, 9999)] σ τ → ((0 ≤ x0 ∧ x0 ≤ 0) ∧ (0 ≤ x1 ∧ x1 ≤ 0) ∧ (0 ≤ x2 ∧ x2 ≤ 10) ∧ (0 ≤ x3 ∧ x3 ≤ 10) ∧ (0 ≤ x4 ∧ x4 ≤ 30) ∧ (0 ≤ x5 ∧ x5 ≤ 30) ∧ (0 ≤ x6 ∧ x6 ≤ 10) ∧ (0 ≤ x7 ∧ x7 ≤ 10) ∧ (0 ≤ x8 ∧ x8 ≤ 30) ∧ (0 ≤ x9 ∧ x9 ≤ 30) ∧ True) → (True) → (True) → ((τ.1 0 2).toInt = x1 ∧ (τ.1 3 0).toInt = x2 ∧ (τ.1 7 0).toInt = x3 ∧ (τ.1 13 0).toInt = x4 ∧ (τ.1 21 0).toInt = x5 ∧ (τ.1 36 0).toInt = x6 ∧ (τ.1 40 0).toInt = x7 ∧ (τ.1 46 0).toInt = x8 ∧ (τ.1 54 0).toInt = x9 ∧ True) → Q (some (.int (Int32.ofInt 0))) τ)
    (l1 : ∀ (τ : pm_S) (y : Nat → Int), an_GB pm_B τ → FQ [(0, 2), (1, 0), (1, 1), (1, 2), (1, 3), (2, 9999), (3, 0), (4, 9999), (5, 9999), (6, 9999), (7, 0), (8, 9999), (9, 9999), (10, 9999), (11, 9999), (12, 9999), (13, 0), (14, 9999), (15, 9999), (16, 9999), (17, 9999), (18, 9999), (19, 9999), (20, 9999), (21, 0), (22, 9999), (23, 9999), (24, 9999), (25, 9999), (31, 0), (31, 1), (32, 9999), (34, 0), (34, 1), (34, 2), (34, 3), (35, 9999), (36, 0), (37, 9999), (38, 9999), (39, 9999), (40, 0), (41, 9999), (42, 9999), (43, 9999), (44, 9999), (45, 9999), (46, 0), (47, 9999), (48, 9999), (49, 9999), (50, 9999), (51, 9999), (52, 9999), (53, 9999), (54, 0), (55, 9999), (56, 9999), (57, 9999), (58, 9999), (64, 0), (64, 1), (65, 9999)] σ τ → ((0 ≤ x0 ∧ x0 ≤ 0) ∧ (1 ≤ x1 ∧ x1 ≤ 1) ∧ (0 ≤ x2 ∧ x2 ≤ 10) ∧ (0 ≤ x3 ∧ x3 ≤ 10) ∧ (0 ≤ x4 ∧ x4 ≤ 30) ∧ (0 ≤ x5 ∧ x5 ≤ 30) ∧ (0 ≤ x6 ∧ x6 ≤ 10) ∧ (0 ≤ x7 ∧ x7 ≤ 10) ∧ (0 ≤ x8 ∧ x8 ≤ 30) ∧ (0 ≤ x9 ∧ x9 ≤ 30) ∧ True) → (True) → (True) → ((τ.1 0 2).toInt = x1 ∧ (τ.1 3 0).toInt = x6 ∧ (τ.1 7 0).toInt = x7 ∧ (τ.1 13 0).toInt = x8 ∧ (τ.1 21 0).toInt = x9 ∧ (τ.1 36 0).toInt = x6 ∧ (τ.1 40 0).toInt = x7 ∧ (τ.1 46 0).toInt = x8 ∧ (τ.1 54 0).toInt = x9 ∧ True) → Q (some (.int (Int32.ofInt 1))) τ)
    (l2 : ∀ (τ : pm_S) (y : Nat → Int), an_GB pm_B τ → FQ [(0, 2), (1, 0), (1, 1), (1, 2), (1, 3), (2, 9999), (3, 0), (4, 9999), (5, 9999), (6, 9999), (7, 0), (8, 9999), (9, 9999), (10, 9999), (11, 9999), (12, 9999), (13, 0), (14, 9999), (15, 9999), (16, 9999), (17, 9999), (18, 9999), (19, 9999), (20, 9999), (21, 0), (22, 9999), (23, 9999), (24, 9999), (25, 9999), (31, 0), (31, 1), (32, 9999), (34, 0), (34, 1), (34, 2), (34, 3), (35, 9999), (36, 0), (37, 9999), (38, 9999), (39, 9999), (40, 0), (41, 9999), (42, 9999), (43, 9999), (44, 9999), (45, 9999), (46, 0), (47, 9999), (48, 9999), (49, 9999), (50, 9999), (51, 9999), (52, 9999), (53, 9999), (54, 0), (55, 9999), (56, 9999), (57, 9999), (58, 9999), (64, 0), (64, 1), (65, 9999)] σ τ → ((1 ≤ x0 ∧ x0 ≤ 1) ∧ (0 ≤ x1 ∧ x1 ≤ 1) ∧ (0 ≤ x2 ∧ x2 ≤ 10) ∧ (0 ≤ x3 ∧ x3 ≤ 10) ∧ (0 ≤ x4 ∧ x4 ≤ 30) ∧ (0 ≤ x5 ∧ x5 ≤ 30) ∧ (0 ≤ x6 ∧ x6 ≤ 10) ∧ (0 ≤ x7 ∧ x7 ≤ 10) ∧ (0 ≤ x8 ∧ x8 ≤ 30) ∧ (0 ≤ x9 ∧ x9 ≤ 30) ∧ True) → (True) → (True) → ((τ.1 0 2).toInt = 1 ∧ (τ.1 3 0).toInt = x2 ∧ (τ.1 7 0).toInt = x3 ∧ (τ.1 13 0).toInt = x4 ∧ (τ.1 21 0).toInt = x5 ∧ (τ.1 36 0).toInt = x2 ∧ (τ.1 40 0).toInt = x3 ∧ (τ.1 46 0).toInt = x4 ∧ (τ.1 54 0).toInt = x5 ∧ True) → Q (some (.int (Int32.ofInt 1))) τ)
    : Ok 151 41 0 [.ref 0, .int (Int32.ofInt (x0))] [] σ Q := by
  refine an_seg (B := pm_B) (F := [(0, 2), (1, 0), (1, 1), (1, 2), (1, 3), (2, 9999), (3, 0), (4, 9999), (5, 9999), (6, 9999), (7, 0), (8, 9999), (9, 9999), (10, 9999), (11, 9999), (12, 9999), (13, 0), (14, 9999), (15, 9999), (16, 9999), (17, 9999), (18, 9999), (19, 9999), (20, 9999), (21, 0), (22, 9999), (23, 9999), (24, 9999), (25, 9999), (31, 0), (31, 1), (32, 9999), (34, 0), (34, 1), (34, 2), (34, 3), (35, 9999), (36, 0), (37, 9999), (38, 9999), (39, 9999), (40, 0), (41, 9999), (42, 9999), (43, 9999), (44, 9999), (45, 9999), (46, 0), (47, 9999), (48, 9999), (49, 9999), (50, 9999), (51, 9999), (52, 9999), (53, 9999), (54, 0), (55, 9999), (56, 9999), (57, 9999), (58, 9999), (64, 0), (64, 1), (65, 9999)]) (T := []) (S := []) (fun _ h => absurd h List.not_mem_nil) (k := 151) (d := 40) (cs := []) 423 0 10 [(0, 0, 1), (1, 0, 1), (2, 0, 10), (3, 0, 10), (4, 0, 30), (5, 0, 30), (6, 0, 10), (7, 0, 10), (8, 0, 30), (9, 0, 30)] [(0, (1, 0, 2), (0, 1, 0)), (3, (1, 0, 0), (0, 2, 0)), (7, (1, 0, 0), (0, 3, 0)), (13, (1, 0, 0), (0, 4, 0)), (21, (1, 0, 0), (0, 5, 0)), (36, (1, 0, 0), (0, 6, 0)), (40, (1, 0, 0), (0, 7, 0)), (46, (1, 0, 0), (0, 8, 0)), (54, (1, 0, 0), (0, 9, 0))] [(2, 0, 0), (0, 0, 0)] [] [(9999, [], [(1, 0, 0)], [(0, 0, 0), (1, 0, 0), (2, 0, 10), (3, 0, 10), (4, 0, 30), (5, 0, 30), (6, 0, 10), (7, 0, 10), (8, 0, 30), (9, 0, 30)], [], [], [(0, (1, 0, 2), (0, 1, 0)), (3, (1, 0, 0), (0, 2, 0)), (7, (1, 0, 0), (0, 3, 0)), (13, (1, 0, 0), (0, 4, 0)), (21, (1, 0, 0), (0, 5, 0)), (36, (1, 0, 0), (0, 6, 0)), (40, (1, 0, 0), (0, 7, 0)), (46, (1, 0, 0), (0, 8, 0)), (54, (1, 0, 0), (0, 9, 0))]),
    (9999, [], [(1, 0, 1)], [(0, 0, 0), (1, 1, 1), (2, 0, 10), (3, 0, 10), (4, 0, 30), (5, 0, 30), (6, 0, 10), (7, 0, 10), (8, 0, 30), (9, 0, 30)], [], [], [(0, (1, 0, 2), (0, 1, 0)), (3, (1, 0, 0), (0, 6, 0)), (7, (1, 0, 0), (0, 7, 0)), (13, (1, 0, 0), (0, 8, 0)), (21, (1, 0, 0), (0, 9, 0)), (36, (1, 0, 0), (0, 6, 0)), (40, (1, 0, 0), (0, 7, 0)), (46, (1, 0, 0), (0, 8, 0)), (54, (1, 0, 0), (0, 9, 0))]),
    (9999, [], [(1, 0, 1)], [(0, 1, 1), (1, 0, 1), (2, 0, 10), (3, 0, 10), (4, 0, 30), (5, 0, 30), (6, 0, 10), (7, 0, 10), (8, 0, 30), (9, 0, 30)], [], [], [(0, (1, 0, 2), (1, 0, 1)), (3, (1, 0, 0), (0, 2, 0)), (7, (1, 0, 0), (0, 3, 0)), (13, (1, 0, 0), (0, 4, 0)), (21, (1, 0, 0), (0, 5, 0)), (36, (1, 0, 0), (0, 2, 0)), (40, (1, 0, 0), (0, 3, 0)), (46, (1, 0, 0), (0, 4, 0)), (54, (1, 0, 0), (0, 5, 0))])] (by decide +kernel) (ρ0 := (fun s => [x0, x1, x2, x3, x4, x5, x6, x7, x8, x9].getD s 0)) hB eF eC ⟨rfl, ⟨rfl, trivial⟩⟩ trivial ?_
  refine List.forall_mem_cons.mpr ⟨?_, List.forall_mem_cons.mpr ⟨?_, List.forall_mem_cons.mpr ⟨?_, fun _ h => absurd h List.not_mem_nil⟩⟩⟩
  · intro ρ τ Lc stc hx g1 g2 g3 g4 g5 g6 g7 g8
    have e0 : ρ 0 = x0 := hx 0 (by decide)
    have e1 : ρ 1 = x1 := hx 1 (by decide)
    have e2 : ρ 2 = x2 := hx 2 (by decide)
    have e3 : ρ 3 = x3 := hx 3 (by decide)
    have e4 : ρ 4 = x4 := hx 4 (by decide)
    have e5 : ρ 5 = x5 := hx 5 (by decide)
    have e6 : ρ 6 = x6 := hx 6 (by decide)
    have e7 : ρ 7 = x7 := hx 7 (by decide)
    have e8 : ρ 8 = x8 := hx 8 (by decide)
    have e9 : ρ 9 = x9 := hx 9 (by decide)
    subst e0
    subst e1
    subst e2
    subst e3
    subst e4
    subst e5
    subst e6
    subst e7
    subst e8
    subst e9
    match stc, g8 with
    | [_], ⟨h, _⟩ => cases h; exact l0 τ ρ g1 g2 g3 g4 g5 g6
  · intro ρ τ Lc stc hx g1 g2 g3 g4 g5 g6 g7 g8
    have e0 : ρ 0 = x0 := hx 0 (by decide)
    have e1 : ρ 1 = x1 := hx 1 (by decide)
    have e2 : ρ 2 = x2 := hx 2 (by decide)
    have e3 : ρ 3 = x3 := hx 3 (by decide)
    have e4 : ρ 4 = x4 := hx 4 (by decide)
    have e5 : ρ 5 = x5 := hx 5 (by decide)
    have e6 : ρ 6 = x6 := hx 6 (by decide)
    have e7 : ρ 7 = x7 := hx 7 (by decide)
    have e8 : ρ 8 = x8 := hx 8 (by decide)
    have e9 : ρ 9 = x9 := hx 9 (by decide)
    subst e0
    subst e1
    subst e2
    subst e3
    subst e4
    subst e5
    subst e6
    subst e7
    subst e8
    subst e9
    match stc, g8 with
    | [_], ⟨h, _⟩ => cases h; exact l1 τ ρ g1 g2 g3 g4 g5 g6
  · intro ρ τ Lc stc hx g1 g2 g3 g4 g5 g6 g7 g8
    have e0 : ρ 0 = x0 := hx 0 (by decide)
    have e1 : ρ 1 = x1 := hx 1 (by decide)
    have e2 : ρ 2 = x2 := hx 2 (by decide)
    have e3 : ρ 3 = x3 := hx 3 (by decide)
    have e4 : ρ 4 = x4 := hx 4 (by decide)
    have e5 : ρ 5 = x5 := hx 5 (by decide)
    have e6 : ρ 6 = x6 := hx 6 (by decide)
    have e7 : ρ 7 = x7 := hx 7 (by decide)
    have e8 : ρ 8 = x8 := hx 8 (by decide)
    have e9 : ρ 9 = x9 := hx 9 (by decide)
    subst e0
    subst e1
    subst e2
    subst e3
    subst e4
    subst e5
    subst e6
    subst e7
    subst e8
    subst e9
    match stc, g8 with
    | [_], ⟨h, _⟩ => cases h; exact l2 τ ρ g1 g2 g3 g4 g5 g6
theorem tq_image (a1 : Int32) (hw : a1 = 0 ∨ a1 = 1) : Two 1 true (IK Kq) (IK Kq) 151 245 [.int a1] := by
  intro σ hI
  have e64 : (σ.1 0 2).toInt = cI σ 64 := hI.2.2.g (q := (0, 2, 93, 64)) (by decide)
  have g64 : 0 ≤ cI σ 64 ∧ cI σ 64 ≤ 1 := hI.1 93 64 (by decide)
  have ga : 0 ≤ a1.toInt ∧ a1.toInt ≤ 1 := by rcases hw with rfl | rfl <;> decide
  have e0 : (σ.1 3 0).toInt = cI σ 2 := hI.2.2.g (q := (3, 0, 93, 2)) (by decide)
  have i0 : (σ.1 36 0).toInt = (σ.1 133 1).toInt := hI.2.2.g (q := (36, 0, 133, 1)) (by decide)
  have b0 : 0 ≤ cI σ 2 ∧ cI σ 2 ≤ 10 := hI.1 93 2 (by decide)
  have h0 : 0 ≤ (σ.1 36 0).toInt ∧ (σ.1 36 0).toInt ≤ 10 := hI.1 36 0 (by decide)
  have e1 : (σ.1 7 0).toInt = cI σ 5 := hI.2.2.g (q := (7, 0, 93, 5)) (by decide)
  have i1 : (σ.1 40 0).toInt = (σ.1 133 192).toInt := hI.2.2.g (q := (40, 0, 133, 192)) (by decide)
  have b1 : 0 ≤ cI σ 5 ∧ cI σ 5 ≤ 10 := hI.1 93 5 (by decide)
  have h1 : 0 ≤ (σ.1 40 0).toInt ∧ (σ.1 40 0).toInt ≤ 10 := hI.1 40 0 (by decide)
  have e2 : (σ.1 13 0).toInt = cI σ 11 := hI.2.2.g (q := (13, 0, 93, 11)) (by decide)
  have i2 : (σ.1 46 0).toInt = (σ.1 133 250).toInt := hI.2.2.g (q := (46, 0, 133, 250)) (by decide)
  have b2 : 0 ≤ cI σ 11 ∧ cI σ 11 ≤ 30 := hI.1 93 11 (by decide)
  have h2 : 0 ≤ (σ.1 46 0).toInt ∧ (σ.1 46 0).toInt ≤ 30 := hI.1 46 0 (by decide)
  have e3 : (σ.1 21 0).toInt = cI σ 23 := hI.2.2.g (q := (21, 0, 93, 23)) (by decide)
  have i3 : (σ.1 54 0).toInt = (σ.1 133 461).toInt := hI.2.2.g (q := (54, 0, 133, 461)) (by decide)
  have b3 : 0 ≤ cI σ 23 ∧ cI σ 23 ≤ 30 := hI.1 93 23 (by decide)
  have h3 : 0 ≤ (σ.1 54 0).toInt ∧ (σ.1 54 0).toInt ≤ 30 := hI.1 54 0 (by decide)
  refine Sp.up (D := 41) ?_ (by decide)
  refine Sp.at rfl rfl ?_
  show Ok 151 41 0 [.ref 0, .int a1] [] σ _
  have go : ∀ (τ : pm_S) (c h n0 k0 n1 k1 n2 k2 n3 k3 : Int), an_GB pm_B τ → (∀ p j, 93 ≤ p → τ.1 p j = σ.1 p j) → (τ.1 0 2).toInt = h → (τ.1 3 0).toInt = n0 → (τ.1 36 0).toInt = k0 → (τ.1 7 0).toInt = n1 → (τ.1 40 0).toInt = k1 → (τ.1 13 0).toInt = n2 → (τ.1 46 0).toInt = k2 → (τ.1 21 0).toInt = n3 → (τ.1 54 0).toInt = k3 → ((c = 0 ∧ a1.toInt = 0 ∧ cI σ 64 = 0 ∧ h = 0 ∧ n0 = cI σ 2 ∧ k0 = (σ.1 36 0).toInt ∧ n1 = cI σ 5 ∧ k1 = (σ.1 40 0).toInt ∧ n2 = cI σ 11 ∧ k2 = (σ.1 46 0).toInt ∧ n3 = cI σ 23 ∧ k3 = (σ.1 54 0).toInt) ∨ (c = 1 ∧ h = 1 ∧ ((a1.toInt = 1 ∧ n0 = cI σ 2 ∧ k0 = cI σ 2 ∧ n1 = cI σ 5 ∧ k1 = cI σ 5 ∧ n2 = cI σ 11 ∧ k2 = cI σ 11 ∧ n3 = cI σ 23 ∧ k3 = cI σ 23) ∨ (a1.toInt = 0 ∧ cI σ 64 = 1 ∧ n0 = (σ.1 36 0).toInt ∧ k0 = (σ.1 36 0).toInt ∧ n1 = (σ.1 40 0).toInt ∧ k1 = (σ.1 40 0).toInt ∧ n2 = (σ.1 46 0).toInt ∧ k2 = (σ.1 46 0).toInt ∧ n3 = (σ.1 54 0).toInt ∧ k3 = (σ.1 54 0).toInt)))) → an_sh 1 (some (.int (Int32.ofInt c))) ∧ Sp 245 1200 (.ref 93 :: [.int a1]) τ (fun r2 τ2 => an_sh 1 r2 ∧ (true = true → some (Value.int (Int32.ofInt c)) = r2) ∧ IK Kq τ2) := by
    intro τ c h n0 k0 n1 k1 n2 k2 n3 k3 hB hF ch cn0 ck0 cn1 ck1 cn2 ck2 cn3 ck3 hc
    have hp : mP τ := mP93 σ τ hF hI.2.1
    have f64 : cI τ 64 = cI σ 64 := congrArg Int32.toInt (hF 93 64 (by decide))
    have fa0 : τ.1 93 2 = σ.1 93 2 := hF 93 2 (by decide)
    have fb0 : τ.1 133 1 = σ.1 133 1 := hF 133 1 (by decide)
    have fa1 : τ.1 93 5 = σ.1 93 5 := hF 93 5 (by decide)
    have fb1 : τ.1 133 192 = σ.1 133 192 := hF 133 192 (by decide)
    have fa2 : τ.1 93 11 = σ.1 93 11 := hF 93 11 (by decide)
    have fb2 : τ.1 133 250 = σ.1 133 250 := hF 133 250 (by decide)
    have fa3 : τ.1 93 23 = σ.1 93 23 := hF 93 23 (by decide)
    have fb3 : τ.1 133 461 = σ.1 133 461 := hF 133 461 (by decide)
    refine ⟨⟨_, rfl⟩, (kb_image a1 hw τ hB hp).mono (fun r2 τ2 q => ?_)⟩
    obtain ⟨q1, q2, q3, q4, q5⟩ := q
    have c02 : (τ2.1 0 2).toInt = h := by rw [q4 (0, 2) (by decide)]; exact ch
    have cc0 : (τ2.1 3 0).toInt = n0 := by rw [q4 (3, 0) (by decide)]; exact cn0
    have cd0 : (τ2.1 36 0).toInt = k0 := by rw [q4 (36, 0) (by decide)]; exact ck0
    have cc1 : (τ2.1 7 0).toInt = n1 := by rw [q4 (7, 0) (by decide)]; exact cn1
    have cd1 : (τ2.1 40 0).toInt = k1 := by rw [q4 (40, 0) (by decide)]; exact ck1
    have cc2 : (τ2.1 13 0).toInt = n2 := by rw [q4 (13, 0) (by decide)]; exact cn2
    have cd2 : (τ2.1 46 0).toInt = k2 := by rw [q4 (46, 0) (by decide)]; exact ck2
    have cc3 : (τ2.1 21 0).toInt = n3 := by rw [q4 (21, 0) (by decide)]; exact cn3
    have cd3 : (τ2.1 54 0).toInt = k3 := by rw [q4 (54, 0) (by decide)]; exact ck3
    have fin : cI τ2 2 = n0 → (τ2.1 133 1).toInt = k0 → cI τ2 5 = n1 → (τ2.1 133 192).toInt = k1 → cI τ2 11 = n2 → (τ2.1 133 250).toInt = k2 → cI τ2 23 = n3 → (τ2.1 133 461).toInt = k3 → h = cI τ2 64 → KE Kq τ2 := by
      intro ma0 mb0 ma1 mb1 ma2 mb2 ma3 mb3 m64
      refine KE.c ?_ (KE.c ?_ (KE.c ?_ (KE.c ?_ (KE.c ?_ (KE.c ?_ (KE.c ?_ (KE.c ?_ (KE.c ?_ (fun q hq => absurd hq List.not_mem_nil)))))))))
      · show (τ2.1 3 0).toInt = cI τ2 2
        omega
      · show (τ2.1 7 0).toInt = cI τ2 5
        omega
      · show (τ2.1 13 0).toInt = cI τ2 11
        omega
      · show (τ2.1 21 0).toInt = cI τ2 23
        omega
      · show (τ2.1 0 2).toInt = cI τ2 64
        omega
      · show (τ2.1 36 0).toInt = (τ2.1 133 1).toInt
        omega
      · show (τ2.1 40 0).toInt = (τ2.1 133 192).toInt
        omega
      · show (τ2.1 46 0).toInt = (τ2.1 133 250).toInt
        omega
      · show (τ2.1 54 0).toInt = (τ2.1 133 461).toInt
        omega
    rcases q5 with ⟨b1, b2, b3, b4, F⟩ | ⟨b1, b2, b3, σ1, F1, hv⟩
    · have c0 : c = 0 := by omega
      have za0 : cI τ2 2 = cI σ 2 := by show (τ2.1 93 2).toInt = _; rw [F 93 2 rfl, fa0]
      have zb0 : (τ2.1 133 1).toInt = (σ.1 133 1).toInt := by rw [F 133 1 rfl, fb0]
      have za1 : cI τ2 5 = cI σ 5 := by show (τ2.1 93 5).toInt = _; rw [F 93 5 rfl, fa1]
      have zb1 : (τ2.1 133 192).toInt = (σ.1 133 192).toInt := by rw [F 133 192 rfl, fb1]
      have za2 : cI τ2 11 = cI σ 11 := by show (τ2.1 93 11).toInt = _; rw [F 93 11 rfl, fa2]
      have zb2 : (τ2.1 133 250).toInt = (σ.1 133 250).toInt := by rw [F 133 250 rfl, fb2]
      have za3 : cI τ2 23 = cI σ 23 := by show (τ2.1 93 23).toInt = _; rw [F 93 23 rfl, fa3]
      have zb3 : (τ2.1 133 461).toInt = (σ.1 133 461).toInt := by rw [F 133 461 rfl, fb3]
      refine ⟨q1, fun _ => by rw [b1, c0], q2, q3, fin ?_ ?_ ?_ ?_ ?_ ?_ ?_ ?_ ?_⟩ <;> omega
    · have c1 : c = 1 := by omega
      have v0 := hv 1 (by decide)
      have va0 : (vI σ1 a1.toInt 1).toInt = if a1.toInt = 1 then cI σ 2 else (σ.1 133 1).toInt := by
        unfold vI
        split
        · show (σ1.1 93 2).toInt = _
          rw [F1 93 2 rfl, fa0]
        · rw [F1 133 1 rfl, fb0]
      have za0 : cI τ2 2 = (vI σ1 a1.toInt 1).toInt := congrArg Int32.toInt v0.1
      have zb0 : (τ2.1 133 1).toInt = (vI σ1 a1.toInt 1).toInt := congrArg Int32.toInt v0.2
      have vn0 : (vI σ1 a1.toInt 1).toInt = n0 ∧ (vI σ1 a1.toInt 1).toInt = k0 := by
        rw [va0]
        split <;> omega
      have v1 := hv 192 (by decide)
      have va1 : (vI σ1 a1.toInt 192).toInt = if a1.toInt = 1 then cI σ 5 else (σ.1 133 192).toInt := by
        unfold vI
        split
        · show (σ1.1 93 5).toInt = _
          rw [F1 93 5 rfl, fa1]
        · rw [F1 133 192 rfl, fb1]
      have za1 : cI τ2 5 = (vI σ1 a1.toInt 192).toInt := congrArg Int32.toInt v1.1
      have zb1 : (τ2.1 133 192).toInt = (vI σ1 a1.toInt 192).toInt := congrArg Int32.toInt v1.2
      have vn1 : (vI σ1 a1.toInt 192).toInt = n1 ∧ (vI σ1 a1.toInt 192).toInt = k1 := by
        rw [va1]
        split <;> omega
      have v2 := hv 250 (by decide)
      have va2 : (vI σ1 a1.toInt 250).toInt = if a1.toInt = 1 then cI σ 11 else (σ.1 133 250).toInt := by
        unfold vI
        split
        · show (σ1.1 93 11).toInt = _
          rw [F1 93 11 rfl, fa2]
        · rw [F1 133 250 rfl, fb2]
      have za2 : cI τ2 11 = (vI σ1 a1.toInt 250).toInt := congrArg Int32.toInt v2.1
      have zb2 : (τ2.1 133 250).toInt = (vI σ1 a1.toInt 250).toInt := congrArg Int32.toInt v2.2
      have vn2 : (vI σ1 a1.toInt 250).toInt = n2 ∧ (vI σ1 a1.toInt 250).toInt = k2 := by
        rw [va2]
        split <;> omega
      have v3 := hv 461 (by decide)
      have va3 : (vI σ1 a1.toInt 461).toInt = if a1.toInt = 1 then cI σ 23 else (σ.1 133 461).toInt := by
        unfold vI
        split
        · show (σ1.1 93 23).toInt = _
          rw [F1 93 23 rfl, fa3]
        · rw [F1 133 461 rfl, fb3]
      have za3 : cI τ2 23 = (vI σ1 a1.toInt 461).toInt := congrArg Int32.toInt v3.1
      have zb3 : (τ2.1 133 461).toInt = (vI σ1 a1.toInt 461).toInt := congrArg Int32.toInt v3.2
      have vn3 : (vI σ1 a1.toInt 461).toInt = n3 ∧ (vI σ1 a1.toInt 461).toInt = k3 := by
        rw [va3]
        split <;> omega
      refine ⟨q1, fun _ => by rw [b1, c1], q2, q3, fin ?_ ?_ ?_ ?_ ?_ ?_ ?_ ?_ ?_⟩ <;> omega
  rw [← oI a1] at go ⊢
  have eo : (Int32.ofInt a1.toInt).toInt = a1.toInt := by rw [oI]
  refine sg_cim4 a1.toInt (cI σ 64) (cI σ 2) (cI σ 5) (cI σ 11) (cI σ 23) (σ.1 36 0).toInt (σ.1 40 0).toInt (σ.1 46 0).toInt (σ.1 54 0).toInt hI.1 ⟨ga, g64, b0, b1, b2, b3, h0, h1, h2, h3, trivial⟩ ⟨e64, e0, e1, e2, e3, rfl, rfl, rfl, rfl, trivial⟩ ?_ ?_ ?_ <;>
  · intro τ y hB1 hF1 f _ _ c
    have f0 := f.1
    have f1 := f.2.1
    exact go τ _ _ _ _ _ _ _ _ _ _ hB1 (fun p j hp => hF1 p j (an_foot93 rfl hp)) c.1 c.2.1 c.2.2.2.2.2.1 c.2.2.1 c.2.2.2.2.2.2.1 c.2.2.2.1 c.2.2.2.2.2.2.2.1 c.2.2.2.2.1 c.2.2.2.2.2.2.2.2.1 (by omega)
