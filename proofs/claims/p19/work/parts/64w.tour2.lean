/-! the class's tour: legs, the table, the answer -/
abbrev FLg : List (Nat × Nat) := [(87, 9999), (88, 9999)]
def SQ (τ : pm_S) (n : Nat) (st : Nat → Nat) : Prop := (τ.1 85 1).toInt = (n : Int) ∧ ∀ i, i < n → (τ.1 86 i).toInt = (st i : Int)
theorem SQ.fr {σ τ : pm_S} {n : Nat} {st : Nat → Nat} (G : List (Nat × Nat)) (h1 : an_inF G 85 1 = false) (h2 : an_inP G 86 = false) (hF : FQ G σ τ) (h : SQ σ n st) : SQ τ n st := ⟨by rw [hF 85 1 h1]; exact h.1, fun i hi => by rw [hF 86 i (an_inP_ok h2 i)]; exact h.2 i hi⟩
/-- the legs of the first k stops stand in the rows -/
def LGQ (σ τ : pm_S) (fr : Int) (n : Nat) (st : Nat → Nat) (k : Nat) : Prop := ∀ i, i < k → (τ.1 88 i).toInt = (σ.1 5 (fr * 10 + st i).toNat).toInt ∧ ∀ j, j < n → (τ.1 87 (i * 9 + j)).toInt = (σ.1 5 ((st i : Int) * 10 + st j).toNat).toInt
theorem LGQ.fr {σ τ υ : pm_S} {fr : Int} {n k : Nat} {st : Nat → Nat} (G : List (Nat × Nat)) (h1 : an_inP G 87 = false) (h2 : an_inP G 88 = false) (hF : FQ G τ υ) (h : LGQ σ τ fr n st k) : LGQ σ υ fr n st k := fun i hi => ⟨by rw [hF 88 i (an_inP_ok h2 i)]; exact (h i hi).1, fun j hj => by rw [hF 87 _ (an_inP_ok h1 _)]; exact (h i hi).2 j hj⟩
set_option maxRecDepth 20000 in
theorem x_note {σ : pm_S} (fr S : Int) (n : Nat) (st : Nat → Nat) (hB : an_GB pm_B σ) (hf : 0 ≤ fr ∧ fr < S) (hS : S ≤ 10) (hn : n ≤ 9) (hst : ∀ i, i < n → (st i : Int) < S) (eS : (σ.1 3 0).toInt = S) (hq : SQ σ n st) : Sp 106 13 [.ref 85, .int (Int32.ofInt fr)] σ (fun r τ => r = none ∧ an_GB pm_B τ ∧ FQ FLg σ τ ∧ LGQ σ τ fr n st n) := by
  refine Sp.at rfl rfl ?_
  refine su_n0 fr _ _ rfl rfl hB ⟨by omega, trivial⟩ ?_
  intro τ0 y0 v0 hv0 hB0 F0 _ _ _ _
  refine Ok.loop (fun i L τ => 0 ≤ i ∧ i ≤ n ∧ (∃ v : Value, v.category = 1 ∧ L = [.ref 85, .int (Int32.ofInt fr), .int (Int32.ofInt i), v]) ∧ an_GB pm_B τ ∧ FQ FLg σ τ ∧ LGQ σ τ fr n st i.toNat) n (fun i L τ h => h.2.1) ?_ 0 _ τ0 ⟨by decide, by omega, ⟨v0, hv0, rfl⟩, hB0, FQ.up (G := []) rfl F0, fun i hi => absurd hi (Nat.not_lt_zero _)⟩
  rintro i L τ ⟨i0, i1, ⟨v, hv, rfl⟩, hB1, F1, hg⟩ ih
  have q1 := SQ.fr FLg rfl rfl F1 hq
  refine su_n2 fr i n v hv hB1 ⟨by omega, by omega, by omega, trivial⟩ ⟨q1.1, trivial⟩ ?_
  intro τ2 y2 v2 hv2 hB2 F2 _ _ _ _
  have G2 : FQ FLg σ τ2 := FQ.tr F1 (FQ.up (G := []) rfl F2)
  have g2 := LGQ.fr [] rfl rfl F2 hg
  refine Ok.ic rfl rfl (by omega) (by omega) (by omega) (by omega) (fun z => ?_) (fun z => ?_)
  · have z : (n : Int) ≤ i := z
    refine su_n49 fr i v2 hv2 hB2 ⟨by omega, by omega, trivial⟩ ?_
    intro τ3 y3 hB3 F3 _ _ _ _
    have e : i.toNat = n := by omega
    rw [e] at g2
    exact ⟨rfl, hB3, FQ.tr G2 (FQ.up (G := []) rfl F3), LGQ.fr [] rfl rfl F3 g2⟩
  · have z : i < (n : Int) := z
    refine su_n6 fr i v2 hv2 hB2 ⟨by omega, by omega, trivial⟩ ?_
    intro τ3 y3 v3 hv3 hB3 F3 _ _ _ c3
    have G3 : FQ FLg σ τ3 := FQ.tr G2 (FQ.up (G := []) rfl F3)
    have q3 := SQ.fr FLg rfl rfl G3 hq
    have e2 : y3 2 = (st i.toNat : Int) := c3.1.symm.trans (q3.2 i.toNat (by omega))
    have b2 := hst i.toNat (by omega)
    rw [e2]
    refine Ok.cv rfl rfl rfl rfl rfl rfl rfl ?_
    refine (x_mB fr (st i.toNat) S hB3 hf ⟨by omega, b2⟩ hS ((congrArg Int32.toInt (G3 3 0 rfl)).trans eS)).use (by decide) (fun r τ4 q => ?_)
    obtain ⟨rfl, hB4, F4⟩ := q
    have G4 : FQ FLg σ τ4 := FQ.tr G3 (FQ.up (G := []) rfl F4)
    refine Ok.ast (n := 9) rfl rfl rfl (by decide) (by omega) (by omega) ?_
    rw [G3 5 _ rfl, oI]
    have hB5 : an_GB pm_B (put τ4 88 i.toNat (σ.1 5 (fr * 10 + st i.toNat).toNat)) := put_GB hB4 (ai_rng _)
    refine su_n18 fr i v3 hv3 hB5 ⟨by omega, by omega, trivial⟩ ?_
    intro τ6 y6 hB6 F6 _ _ _ _
    have g6 : LGQ σ τ6 fr n st i.toNat := fun i' hi' => by
      have a := LGQ.fr [] rfl rfl F4 (LGQ.fr [] rfl rfl F3 g2) i' hi'
      refine ⟨?_, fun j hj => ?_⟩
      · rw [F6 88 _ rfl, put_nj (by omega)]
        exact a.1
      · rw [F6 87 _ rfl, put_nr (by decide)]
        exact a.2 j hj
    have f6 : (τ6.1 88 i.toNat).toInt = (σ.1 5 (fr * 10 + st i.toNat).toNat).toInt := by rw [F6 88 _ rfl, put_eq]
    have G6 : FQ FLg σ τ6 := FQ.tr G4 (FQ.tr (FQ.put rfl) (FQ.up (G := []) rfl F6))
    refine Ok.loop (fun j L τ => 0 ≤ j ∧ j ≤ n ∧ L = [.ref 85, .int (Int32.ofInt fr), .int (Int32.ofInt i), .int (Int32.ofInt j)] ∧ an_GB pm_B τ ∧ FQ FLg σ τ ∧ LGQ σ τ fr n st i.toNat ∧ (τ.1 88 i.toNat).toInt = (σ.1 5 (fr * 10 + st i.toNat).toNat).toInt ∧ ∀ j', j' < j.toNat → (τ.1 87 (i.toNat * 9 + j')).toInt = (σ.1 5 ((st i.toNat : Int) * 10 + st j').toNat).toInt) n (fun i L τ h => h.2.1) ?_ 0 _ τ6 ⟨by decide, by omega, rfl, hB6, G6, g6, f6, fun j hj => absurd hj (Nat.not_lt_zero _)⟩
    rintro j L τ ⟨j0, j1, rfl, hB7, F7, g7, f7, r7⟩ jh
    have q7 := SQ.fr FLg rfl rfl F7 hq
    refine su_n21 fr i j n hB7 ⟨by omega, by omega, by omega, by omega, trivial⟩ ⟨q7.1, trivial⟩ ?_
    intro τ8 y8 hB8 F8 _ _ _ _
    have G8 : FQ FLg σ τ8 := FQ.tr F7 (FQ.up (G := []) rfl F8)
    refine Ok.ic rfl rfl (by omega) (by omega) (by omega) (by omega) (fun w => ?_) (fun w => ?_)
    · have w : (n : Int) ≤ j := w
      refine su_n47 fr i j hB8 ⟨by omega, by omega, by omega, trivial⟩ ?_
      intro τ9 y9 hB9 F9 _ _ _ _
      refine ih _ τ9 ⟨by omega, by omega, ⟨_, rfl, rfl⟩, hB9, FQ.tr G8 (FQ.up (G := []) rfl F9), fun i' hi' => ?_⟩
      by_cases e : i' < i.toNat
      · exact LGQ.fr [] rfl rfl F9 (LGQ.fr [] rfl rfl F8 g7) i' e
      · have e : i' = i.toNat := by omega
        rw [e]
        refine ⟨?_, fun j' hj' => ?_⟩
        · rw [F9 88 _ rfl, F8 88 _ rfl]
          exact f7
        · rw [F9 87 _ rfl, F8 87 _ rfl]
          exact r7 j' (by omega)
    · have w : j < (n : Int) := w
      refine su_n25 fr i j hB8 ⟨by omega, by omega, by omega, trivial⟩ ?_
      intro τ9 y9 hB9 F9 f9 _ d9 c9
      have G9 : FQ FLg σ τ9 := FQ.tr G8 (FQ.up (G := []) rfl F9)
      have q9 := SQ.fr FLg rfl rfl G9 hq
      have a3 := mulC (by omega) (by omega) d9.1
      have a4 := addC (by omega) (by omega) d9.2.1
      have a5 : y9 5 = (st i.toNat : Int) := c9.1.symm.trans (q9.2 i.toNat (by omega))
      have a6 : y9 6 = (st j.toNat : Int) := c9.2.1.symm.trans (q9.2 j.toNat (by omega))
      have b6 := hst j.toNat (by omega)
      have a7 : y9 4 = i * 9 + j := by omega
      rw [a5, a6, a7]
      refine Ok.cv rfl rfl rfl rfl rfl rfl rfl ?_
      refine (x_mB (st i.toNat) (st j.toNat) S hB9 ⟨by omega, b2⟩ ⟨by omega, b6⟩ hS ((congrArg Int32.toInt (G9 3 0 rfl)).trans eS)).use (by decide) (fun r τa q => ?_)
      obtain ⟨rfl, hBa, Fa⟩ := q
      refine Ok.ast (n := 81) rfl rfl rfl (by decide) (by omega) (by omega) ?_
      rw [G9 5 _ rfl, oI]
      have hBb : an_GB pm_B (put τa 87 (i * 9 + j).toNat (σ.1 5 ((st i.toNat : Int) * 10 + st j.toNat).toNat)) := put_GB hBa (ai_rng _)
      refine su_n45 fr i j hBb ⟨by omega, by omega, by omega, trivial⟩ ?_
      intro τc yc hBc Fc _ _ _ _
      have ix : (i * 9 + j).toNat = i.toNat * 9 + j.toNat := by omega
      refine jh _ τc ⟨by omega, by omega, rfl, hBc, FQ.tr (FQ.tr G9 (FQ.up (G := []) rfl Fa)) (FQ.tr (FQ.put rfl) (FQ.up (G := []) rfl Fc)), fun i' hi' => ?_, ?_, fun j' hj' => ?_⟩
      · have a := LGQ.fr [] rfl rfl Fa (LGQ.fr [] rfl rfl F9 (LGQ.fr [] rfl rfl F8 g7)) i' hi'
        refine ⟨?_, fun j' hj' => ?_⟩
        · rw [Fc 88 _ rfl, put_nr (by decide)]
          exact a.1
        · rw [Fc 87 _ rfl, put_nj (by omega)]
          exact a.2 j' hj'
      · rw [Fc 88 _ rfl, put_nr (by decide), Fa 88 _ rfl, F9 88 _ rfl, F8 88 _ rfl]
        exact f7
      · rw [Fc 87 _ rfl, put_get, ix]
        by_cases e : j' = j.toNat
        · rw [if_pos ⟨rfl, by rw [e]⟩, e]
        · rw [if_neg (fun q => e (by omega)), Fa 87 _ rfl, F9 87 _ rfl, F8 87 _ rfl]
          exact r7 j' (by omega)
