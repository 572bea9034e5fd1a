/-! first in the class: the order, and all of it -/
section FDX
variable {m : Nat} {l : List Nat} {G : Nat → Nat → Int}
abbrev sNx (m : Nat) (G : Nat → Nat → Int) (k : Nat) : Nat := sF (cPq m G (sqF m G k)) m 0
theorem sNx_ok (hX : fB m G) {k : Nat} (hk : k < m) : sNx m G k < m ∧ Nat.testBit (sqF m G k) (sNx m G k) = true ∧ sqF m G k < 2 ^ m ∧ ∃ j, j < m ∧ cPq m G (sqF m G k) j = true := by
  have h256 := p256 hX.1
  have q := sqF_ok hX.1 hX.2 k (by omega)
  have n0 : sqF m G k ≠ 0 := fun z => by
    have h := q.2
    rw [z] at h
    exact absurd h (by show ¬ (0 : Nat) = m - k; omega)
  obtain ⟨j, j1, j2⟩ := cPq_ex hX.1 hX.2 q.1 n0
  have sf := sF_ok (P := cPq m G (sqF m G k)) m 0 ⟨j, Nat.zero_le _, by omega, j2⟩
  exact ⟨by have := sf.1; show sF (cPq m G (sqF m G k)) m 0 < m; omega, (Bool.and_eq_true_iff.mp sf.2).1, q.1, j, j1, j2⟩
theorem x_dio {σ : pm_S} (hX : fG σ m l G) (hB : an_GB pm_B σ) (hK : ∀ B, B < 2 ^ m → sI σ 83 B = cF m G ((2 ^ m - 1) ^^^ B)) {K : Nat} (hKm : K < m) : Sp 79 9 [.ref 79, .int (Int32.ofInt (K : Int))] σ (fun r τ => r = some (.int (Int32.ofInt ((l.getD (sNx m G K) 0 : Nat) : Int))) ∧ an_GB pm_B τ ∧ FQ [] σ τ) := by
  have m8 := hX.1.1.1
  have h256 := p256 m8
  have go : ∀ (N k A : Nat) (c : Int) (τ : pm_S), k + N = K + 1 → A < 2 ^ m → (2 ^ m - 1) ^^^ A = sqF m G k → (-1 ≤ c ∧ c ≤ 7) → (k = K + 1 → c = ((sNx m G K : Nat) : Int)) → an_GB pm_B τ → FQ [] σ τ → Ok 79 9 6 [.ref 79, .int (Int32.ofInt (K : Int)), .int (Int32.ofInt (A : Int)), .int (Int32.ofInt c), .int (Int32.ofInt (k : Int))] [] τ (fun r τ => r = some (.int (Int32.ofInt ((l.getD (sNx m G K) 0 : Nat) : Int))) ∧ an_GB pm_B τ ∧ FQ [] σ τ) := by
    intro N
    induction N with
    | zero =>
      intro k A c τ hN hA hS hc he hB F
      have X := hX.fq (FQ.up (G := []) rfl F)
      have ec := he (by omega)
      have sf := sNx_ok hX.1.1 hKm
      refine fe_6 K A c k hB ⟨by omega, by omega, by omega, by omega, trivial⟩ ?_
      intro τ1 y1 hB1 F1 _ _ _ _
      refine Ok.ic rfl rfl (by omega) (by omega) (by omega) (by omega) (fun h => ?_) (fun h => ?_)
      · refine fe_25 K A c k m hB1 ⟨by omega, by omega, by omega, by omega, by omega, trivial⟩ ⟨(congrArg Int32.toInt (F1 79 2 rfl)).trans X.1.2.1, trivial⟩ ?_
        intro τ2 y2 hB2 F2 _ _ _ _
        refine Ok.ic rfl rfl (by omega) (by omega) (by omega) (by omega) (fun h => ?_) (fun h => ?_)
        · exfalso
          have h : (m : Int) ≤ c := h
          omega
        · have G2 : FQ [] σ τ2 := F.tr (FQ.tr F1 F2)
          have X2 := hX.fq (FQ.up (G := []) rfl G2)
          have d := X2.1.2.2.1 (sNx m G K) sf.1
          refine fe_31 K A c k ((l.getD (sNx m G K) 0 : Nat) : Int) hB2 ⟨by omega, by omega, by omega, by omega, by omega, trivial⟩ ⟨by rw [ec]; exact d.1, trivial⟩ ?_
          intro τ3 y3 hB3 F3 _ _ _ _
          exact ⟨rfl, hB3, G2.tr F3⟩
      · exfalso
        have h : (k : Int) ≤ (K : Int) := h
        omega
    | succ N ih =>
      intro k A c τ hN hA hS hc he hB F
      have X := hX.fq (FQ.up (G := []) rfl F)
      have sf := sNx_ok hX.1.1 (show k < m by omega)
      refine fe_6 K A c k hB ⟨by omega, by omega, by omega, by omega, trivial⟩ ?_
      intro τ1 y1 hB1 F1 _ _ _ _
      refine Ok.ic rfl rfl (by omega) (by omega) (by omega) (by omega) (fun h => ?_) (fun h => ?_)
      · exfalso
        have h : (K : Int) < (k : Int) := h
        omega
      · refine fe_9 K A c k m hB1 ⟨by omega, by omega, by omega, by omega, by omega, trivial⟩ ⟨(congrArg Int32.toInt (F1 79 2 rfl)).trans X.1.2.1, trivial⟩ ?_
        intro τ2 y2 hB2 F2 _ _ _ _
        refine Ok.ic rfl rfl (by omega) (by omega) (by omega) (by omega) (fun h => ?_) (fun h => ?_)
        · exfalso
          have h : (m : Int) ≤ (k : Int) := h
          omega
        · refine fe_13 K A c k hB2 ⟨by omega, by omega, by omega, by omega, trivial⟩ ?_
          intro τ3 y3 hB3 F3 _ _ _ _
          have G3 : FQ [] σ τ3 := F.tr (FQ.tr F1 (FQ.tr F2 F3))
          refine Ok.cv rfl rfl rfl rfl rfl rfl rfl ?_
          refine (x_fol (hX.fq (FQ.up (G := []) rfl G3)) hB3 (fun B hb => (congrArg Int32.toInt (G3 83 B rfl)).trans (hK B hb)) hA (by rw [hS]; exact sf.2.2.2)).use (by decide) (fun r4 τ4 q4 => ?_)
          obtain ⟨rfl, hB4, F4⟩ := q4
          rw [hS]
          refine fe_16 K A k ((sNx m G k : Nat) : Int) _ rfl hB4 ⟨by omega, by omega, by omega, by omega, trivial⟩ ?_
          intro τ5 y5 hB5 F5 f5 _ d5 _
          have tb : Nat.testBit A (sNx m G k) = false := by
            have h := tb_xo m (by omega) A (by omega) hA (sNx m G k) sf.1
            rw [hS, sf.2.1] at h
            cases hh : Nat.testBit A (sNx m G k) with
            | false => rfl
            | true => rw [hh] at h; cases h
          have bh := beh m8 hA sf.1 tb
          have e5 : y5 5 = ((A ||| 2 ^ (sNx m G k) : Nat) : Int) := orB (x := (A : Int)) (i := ((sNx m G k : Nat) : Int)) ⟨by omega, by omega⟩ ⟨by omega, by omega⟩ d5.1 d5.2.1
          rw [e5]
          refine ih (k + 1) (A ||| 2 ^ (sNx m G k)) ((sNx m G k : Nat) : Int) τ5 (by omega) bh.1 ?_ (by omega) (fun z => by rw [show k = K by omega]) hB5 (G3.tr (FQ.tr F4 F5))
          rw [bh.2.2.1, hS]
          rfl
  refine Sp.at rfl rfl ?_
  refine fe_0 K _ _ _ rfl rfl rfl hB ⟨by omega, trivial⟩ ?_
  intro τ y hB1 F1 _ _ _ _
  exact go (K + 1) 0 0 (-1) τ (by omega) (Nat.two_pow_pos m) (by rw [Nat.xor_zero]; rfl) (by omega) (fun z => by omega) hB1 F1
/-- what is answered -/
def fsV (m : Nat) (l : List Nat) (G : Nat → Nat → Int) (what : Int) : Int := if what = 0 then cF m G (2 ^ m - 1) else if 10 ≤ what ∧ what - 10 < (m : Int) then ((l.getD (sNx m G (what - 10).toNat) 0 : Nat) : Int) else -1
abbrev FCc : List (Nat × Nat) := [(79, 2), (80, 9999), (83, 9999), (84, 9999)]
/-- from where all is gathered -/
theorem x_pay8 {σ : pm_S} (hX : fC σ m l G) (hB : an_GB pm_B σ) (p what : Int) (hp : 0 ≤ p ∧ p ≤ 9) (hw : (-2147483648) ≤ what ∧ what ≤ 2147483647) (v3 v4 : Value) (hv3 : v3.category = 1) (hv4 : v4.category = 1) : Ok 75 11 8 [.ref 79, .int (Int32.ofInt p), .int (Int32.ofInt what), v3, v4] [.ref 79] σ (fun r τ => r = some (.int (Int32.ofInt (fsV m l G what))) ∧ an_GB pm_B τ ∧ FQ FCg σ τ) := by
  have m8 := hX.1.1
  have h256 := p256 m8
  have h1 := Nat.two_pow_pos m
  refine Ok.cv rfl rfl rfl rfl rfl rfl rfl ?_
  refine (x_grow hX hB).use (by decide) (fun r τ q => ?_)
  obtain ⟨rfl, hB1, F1, hg⟩ := q
  have X1 : fG τ m l G := ⟨hX.fq F1, hg⟩
  refine ff_9 p what m v3 v4 hv3 hv4 hB1 ⟨hp, hw, by omega, trivial⟩ ⟨X1.1.2.1, trivial⟩ ?_
  intro τ2 y2 v5 hv5 hB2 F2 f2 _ d2 _
  have e3 : y2 3 = ((2 ^ m : Nat) : Int) := shlI (i := (m : Int)) ⟨by omega, by omega⟩ d2.1
  have ef : y2 3 + (-1) = ((2 ^ m - 1 : Nat) : Int) := by omega
  rw [ef]
  refine Ok.ast (n := 1024) rfl rfl rfl (by decide) (by omega) (by omega) ?_
  rw [show (((2 ^ m - 1 : Nat) : Int)).toNat = 2 ^ m - 1 by omega]
  have G2 : FQ FCg σ τ2 := F1.tr (FQ.up (G := []) rfl F2)
  have H2 : FQ FC3 τ τ2 := FQ.up (G := []) rfl F2
  have hB3 : an_GB pm_B (put τ2 83 (2 ^ m - 1) (Int32.ofInt 0)) := put_GB hB2 (ai_rng _)
  have H3 : FQ FC3 τ (put τ2 83 (2 ^ m - 1) (Int32.ofInt 0)) := H2.tr (FQ.put rfl)
  have K3 : ∀ B, 2 ^ m - 1 ≤ B → B < 2 ^ m → sI (put τ2 83 (2 ^ m - 1) (Int32.ofInt 0)) 83 B = cF m G ((2 ^ m - 1) ^^^ B) := fun B hb hb2 => by
    have eb : B = 2 ^ m - 1 := by omega
    rw [eb, Nat.xor_self]
    show ((put τ2 83 (2 ^ m - 1) (Int32.ofInt 0)).1 83 (2 ^ m - 1)).toInt = 0
    rw [put_eq]
    rfl
  generalize put τ2 83 (2 ^ m - 1) (Int32.ofInt 0) = τ3 at hB3 H3 K3 ⊢
  refine ff_21 p what ((2 ^ m - 1 : Nat) : Int) v5 hv5 hB3 ⟨hp, hw, by omega, trivial⟩ ?_
  intro τ4 y4 hB4 F4 _ _ _ _
  -- the loop
  have go : ∀ (a : Nat) (τ5 : pm_S), a < 2 ^ m → an_GB pm_B τ5 → FQ FC3 τ τ5 → (∀ B, a ≤ B → B < 2 ^ m → sI τ5 83 B = cF m G ((2 ^ m - 1) ^^^ B)) → Ok 75 11 25 [.ref 79, .int (Int32.ofInt p), .int (Int32.ofInt what), .int (Int32.ofInt ((2 ^ m - 1 : Nat) : Int)), .int (Int32.ofInt ((a : Int) + (-1)))] [] τ5 (fun r τ => r = some (.int (Int32.ofInt (fsV m l G what))) ∧ an_GB pm_B τ ∧ FQ FCg σ τ) := by
    intro a
    induction a with
    | zero =>
      intro τ5 ha hB5 H5 hK
      have X5 : fG τ5 m l G := X1.fq H5
      have K0 : sI τ5 83 0 = cF m G (2 ^ m - 1) := by
        have h := hK 0 (Nat.le_refl _) h1
        rw [Nat.xor_zero] at h
        exact h
      have cr := cF_b m8 hX.1.2 (pcn 10 (2 ^ m - 1)) (2 ^ m - 1) rfl (by omega)
      have p10 := pcn_10 (2 ^ m - 1) (by omega)
      refine ff_25 p what _ _ hB5 ⟨hp, hw, by omega, by omega, trivial⟩ ?_ ?_
      · intro τ6 y6 hB6 F6 _ _ _ _
        have H6 : FQ FC3 τ τ6 := H5.tr (FQ.up (G := []) rfl F6)
        have out : ∀ τ7 : pm_S, FQ [] τ6 τ7 → FQ FCg σ τ7 := fun τ7 F => F1.tr ((FQ.up (G := FC3) rfl H6).tr (FQ.up (G := []) rfl F))
        have X6 : fG τ6 m l G := X1.fq H6
        refine ff_36 p what _ _ (cF m G (2 ^ m - 1)) m hB6 ⟨hp, hw, by omega, by omega, by omega, by omega, trivial⟩ ⟨(congrArg Int32.toInt (F6 83 0 rfl)).trans K0, X6.1.2.1, trivial⟩ ?_ ?_ ?_
        · intro τ7 y7 hB7 F7 f7 rl _ _
          have r0 := rl.1
          refine ⟨?_, hB7, out τ7 F7⟩
          unfold fsV
          rw [if_neg r0, if_neg (by omega)]
        · intro τ7 y7 hB7 F7 f7 rl _ _
          have r0 := rl.1
          refine Ok.ic rfl rfl (by omega) (by omega) (by omega) (by omega) (fun h => ?_) (fun h => ?_)
          · have h : (m : Int) ≤ what + (-10) := h
            refine ff_58 p what _ _ hB7 ⟨hp, hw, by omega, by omega, trivial⟩ ?_
            intro τ8 y8 hB8 F8 _ _ _ _
            refine ⟨?_, hB8, out τ8 (F7.tr F8)⟩
            unfold fsV
            rw [if_neg r0, if_neg (by omega)]
          · have h : what + (-10) < (m : Int) := h
            refine ff_52 p what _ _ hB7 ⟨hp, by omega, by omega, by omega, trivial⟩ ?_
            intro τ8 y8 hB8 F8 _ _ _ _
            have F68 : FQ [] τ5 τ8 := F6.tr (F7.tr F8)
            have X8 : fG τ8 m l G := X5.fq (FQ.up (G := []) rfl F68)
            rw [show what + (-10) = (((what - 10).toNat : Nat) : Int) by omega]
            have wr := hX.1
            refine Ok.cv rfl rfl rfl rfl rfl rfl rfl ?_
            refine (x_dio X8 hB8 (fun B hb => (congrArg Int32.toInt (F68 83 B rfl)).trans (hK B (Nat.zero_le _) hb)) (K := (what - 10).toNat) (by omega)).use (by decide) (fun r9 τ9 q9 => ?_)
            obtain ⟨rfl, hB9, F9⟩ := q9
            have d := (hX.2.2.1 (sNx m G (what - 10).toNat) (sNx_ok hX.1 (by omega)).1).2
            refine ff_57 p what _ _ _ hB9 ⟨hp, hw, by omega, by omega, by omega, trivial⟩ ?_
            intro τa ya hBa Fa _ _ _ _
            refine ⟨?_, hBa, out τa (F7.tr (F8.tr (F9.tr Fa)))⟩
            unfold fsV
            rw [if_neg r0, if_pos (by omega)]
        · intro τ7 y7 hB7 F7 f7 _ _ _
          refine ⟨?_, hB7, out τ7 F7⟩
          unfold fsV
          rw [if_pos (by omega)]
      · intro τ6 y6 hB6 F6 f6 _ _ _
        exfalso
        omega
    | succ a ih =>
      intro τ5 ha hB5 H5 hK
      have X5 : fG τ5 m l G := X1.fq H5
      have ea : ((a + 1 : Nat) : Int) + (-1) = (a : Int) := by omega
      rw [ea]
      refine ff_25 p what _ a hB5 ⟨hp, hw, by omega, by omega, trivial⟩ ?_ ?_
      · intro τ6 y6 hB6 F6 f6 _ _ _
        exfalso
        omega
      · intro τ6 y6 hB6 F6 f6 _ _ _
        have H6 : FQ FC3 τ τ6 := H5.tr (FQ.up (G := []) rfl F6)
        refine Ok.cv rfl rfl rfl rfl rfl rfl rfl ?_
        refine (x_beh (X1.fq H6) hB6 (A := a) (by omega) (fun B hb hb2 => (congrArg Int32.toInt (F6 83 B rfl)).trans (hK B hb hb2))).use (by decide) (fun r7 τ7 q7 => ?_)
        obtain ⟨rfl, hB7, F7⟩ := q7
        have ax := pcn_xo m (by omega) a (by omega) (by omega)
        have cr := cF_b m8 hX.1.2 (pcn 10 ((2 ^ m - 1) ^^^ a)) _ rfl ax.2.2.1
        have p10 := pcn_10 ((2 ^ m - 1) ^^^ a) (by omega)
        refine Ok.ast (n := 1024) rfl rfl rfl (by decide) (by omega) (by omega) ?_
        rw [show ((a : Int)).toNat = a by omega]
        have hB8 : an_GB pm_B (put τ7 83 a (Int32.ofInt (cF m G ((2 ^ m - 1) ^^^ a)))) := put_GB hB7 (ai_rng _)
        have H8 : FQ FC3 τ (put τ7 83 a (Int32.ofInt (cF m G ((2 ^ m - 1) ^^^ a)))) := (H6.tr (FQ.up (G := []) rfl F7)).tr (FQ.put rfl)
        have K8 : ∀ B, a ≤ B → B < 2 ^ m → sI (put τ7 83 a (Int32.ofInt (cF m G ((2 ^ m - 1) ^^^ a)))) 83 B = cF m G ((2 ^ m - 1) ^^^ B) := fun B hb hb2 => by
          show ((put τ7 83 a (Int32.ofInt (cF m G ((2 ^ m - 1) ^^^ a)))).1 83 B).toInt = _
          by_cases e : B = a
          · rw [e, put_eq, ti_of (by omega) (by omega)]
          · rw [put_nj e, F7 83 _ rfl, F6 83 _ rfl]
            exact hK B (by omega) hb2
        generalize put τ7 83 a (Int32.ofInt (cF m G ((2 ^ m - 1) ^^^ a))) = τ8 at hB8 H8 K8 ⊢
        refine ff_34 p what _ a hB8 ⟨hp, hw, by omega, by omega, trivial⟩ ?_
        intro τ9 y9 hB9 F9 _ _ _ _
        exact ih τ9 (by omega) hB9 (H8.tr (FQ.up (G := []) rfl F9)) (fun B hb hb2 => (congrArg Int32.toInt (F9 83 B rfl)).trans (K8 B hb hb2))
  exact go (2 ^ m - 1) τ4 (by omega) hB4 (H3.tr (FQ.up (G := []) rfl F4)) (fun B hb hb2 => (congrArg Int32.toInt (F4 83 B rfl)).trans (K3 B hb hb2))
end FDX
theorem getD_mem : ∀ {l : List Nat} {i : Nat}, i < l.length → l.getD i 0 ∈ l
  | [], i, h => absurd h (Nat.not_lt_zero _)
  | a :: l, 0, _ => List.mem_cons_self
  | a :: l, i + 1, h => List.mem_cons_of_mem _ (getD_mem (l := l) (i := i) (Nat.lt_of_succ_lt_succ h))
section FDY
theorem x_pay {σ : pm_S} (p what : Int) (hp : 0 ≤ p ∧ p ≤ 9) (hw : (-2147483648) ≤ what ∧ what ≤ 2147483647) {D : Nat} (hD : D ≤ 30) (eD : sI σ 13 0 = (D : Int)) {P : Nat → Bool} (hP : P = (fun d => decide (σ.1 20 d = 0) && decide (sI σ 14 d = p))) {l : List Nat} (hl : l = opL P D) {G : Nat → Nat → Int} (hr : 0 ≤ sI σ 2 1 ∧ sI σ 2 1 ≤ 99) (hG : ∀ k i, i < l.length → gN (σ.1 16 (l.getD i 0)).toInt (sI σ 2 1) k = G k i) (hb : l.length ≤ 8 → fB l.length G) (hB : an_GB pm_B σ) : Sp 75 11 [.ref 79, .int (Int32.ofInt p), .int (Int32.ofInt what)] σ (fun r τ => r = some (.int (Int32.ofInt (if l.length ≤ 8 then fsV l.length l G what else -1))) ∧ an_GB pm_B τ ∧ FQ FCc σ τ) := by
  refine Sp.at rfl rfl ?_
  refine ff_0 p what _ _ rfl rfl hB ⟨hp, hw, trivial⟩ ?_
  intro τ1 y1 v3 v4 hv3 hv4 hB1 F1 _ _ _ _
  have E1 := FQ.e1 F1
  refine Ok.cv rfl rfl rfl rfl rfl rfl rfl ?_
  refine (x_gat p hp hD (show sI τ1 13 0 = (D : Int) by rw [show sI τ1 13 0 = sI σ 13 0 by show (τ1.1 13 0).toInt = _; rw [E1]]; exact eD) (P := P) (by rw [hP]; show _ = (fun d => decide (τ1.1 20 d = 0) && decide ((τ1.1 14 d).toInt = p)); rw [E1]) hB1).use (by decide) (fun r τ2 q => ?_)
  obtain ⟨hB2, F2, q⟩ := q
  rw [← hl] at q
  have G2 : FQ FGa σ τ2 := (FQ.up (G := []) rfl F1).tr F2
  rcases q with ⟨q8, rfl, q2, q3⟩ | ⟨q9, rfl⟩
  · refine ff_4 p what v3 v4 hv3 hv4 hB2 ⟨hp, hw, trivial⟩ ?_
    intro τ3 y3 v5 v6 hv5 hv6 hB3 F3 _ _ _ _
    have G3 : FQ FGa σ τ3 := G2.tr (FQ.up (G := []) rfl F3)
    have e2 : sI τ3 2 1 = sI σ 2 1 := congrArg Int32.toInt (G3 2 1 rfl)
    have X : fC τ3 l.length l G := by
      refine ⟨hb q8, (congrArg Int32.toInt (F3 79 2 rfl)).trans q2, fun i hi => ⟨(congrArg Int32.toInt (F3 80 i rfl)).trans (q3 i hi), ?_⟩, by rw [e2]; exact hr, fun k i hi => ?_⟩
      · have h := opL_m (P := P) (n := D) (x := l.getD i 0) (by rw [← hl]; exact getD_mem hi)
        omega
      · rw [e2, G3 16 _ rfl]
        exact hG k i hi
    refine Ok.mono (x_pay8 X hB3 p what hp hw v5 v6 hv5 hv6) (fun r τ q => ?_)
    obtain ⟨rfl, hB4, F4⟩ := q
    rw [if_pos q8]
    exact ⟨rfl, hB4, (FQ.up (G := FGa) rfl G3).tr (FQ.up (G := FCg) rfl F4)⟩
  · refine ff_4n p what v3 v4 hv3 hv4 hB2 ⟨hp, hw, trivial⟩ ?_
    intro τ3 y3 hB3 F3 _ _ _ _
    rw [if_neg (by omega)]
    exact ⟨rfl, hB3, (FQ.up (G := FGa) rfl G2).tr (FQ.up (G := []) rfl F3)⟩
theorem x_fsc {σ : pm_S} (p what : Int) (hp : (-2147483648) ≤ p ∧ p ≤ 2147483647) (hw : (-2147483648) ≤ what ∧ what ≤ 2147483647) {D N : Nat} (hD : D ≤ 30) (hN : N ≤ 10) (eD : sI σ 13 0 = (D : Int)) (eN : sI σ 7 0 = (N : Int)) {P : Nat → Bool} (hP : P = (fun d => decide (σ.1 20 d = 0) && decide (sI σ 14 d = p))) {l : List Nat} (hl : l = opL P D) {G : Nat → Nat → Int} (hr : 0 ≤ sI σ 2 1 ∧ sI σ 2 1 ≤ 99) (hG : ∀ k i, i < l.length → gN (σ.1 16 (l.getD i 0)).toInt (sI σ 2 1) k = G k i) (hb : l.length ≤ 8 → fB l.length G) (hB : an_GB pm_B σ) : Sp 144 22 [.ref 0, .int (Int32.ofInt p), .int (Int32.ofInt what)] σ (fun r τ => an_GB pm_B τ ∧ FQ FCc σ τ ∧ ((¬ (0 ≤ p ∧ p < (N : Int)) ∧ r = some (.int (Int32.ofInt (-1)))) ∨ ((0 ≤ p ∧ p < (N : Int)) ∧ ∃ v : Int, v = (if l.length ≤ 8 then fsV l.length l G what else -1) ∧ r = some (.int (Int32.ofInt v))))) := by
  refine Sp.at rfl rfl ?_
  refine fg_0 p what hB ⟨hp, hw, trivial⟩ ?_
  intro τ1 y1 hB1 F1 _ _ _ _
  refine Ok.cv rfl rfl rfl rfl rfl rfl rfl ?_
  refine (x_h61 p (N : Int) hB1 hp ((congrArg Int32.toInt (F1 7 0 rfl)).trans eN)).use (by decide) (fun r τ2 q => ?_)
  obtain ⟨hB2, F2, ⟨q, rfl, -⟩ | ⟨q, rfl, -⟩⟩ := q
  · refine fg_5n p what hB2 ⟨hp, hw, trivial⟩ ?_
    intro τ3 y3 hB3 F3 _ _ _ _
    exact ⟨hB3, FQ.up (G := []) rfl (FQ.tr F1 (FQ.tr F2 F3)), Or.inl ⟨q, rfl⟩⟩
  · refine fg_5 p what hB2 ⟨by omega, hw, trivial⟩ ?_
    intro τ3 y3 hB3 F3 _ _ _ _
    have G3 : FQ [] σ τ3 := FQ.tr F1 (FQ.tr F2 F3)
    have E3 := FQ.e1 G3
    have e2 : sI τ3 2 1 = sI σ 2 1 := by show (τ3.1 2 1).toInt = _; rw [E3]
    refine Ok.cv rfl rfl rfl rfl rfl rfl rfl ?_
    refine (x_pay p what (by omega) hw hD (show sI τ3 13 0 = (D : Int) by show (τ3.1 13 0).toInt = _; rw [E3]; exact eD) (P := P) (by rw [hP]; show _ = (fun d => decide (τ3.1 20 d = 0) && decide ((τ3.1 14 d).toInt = p)); rw [E3]) hl (G := G) (by rw [e2]; exact hr) (fun k i hi => by rw [e2, E3]; exact hG k i hi) hb hB3).use (by decide) (fun r4 τ4 q4 => ?_)
    obtain ⟨rfl, hB4, F4⟩ := q4
    generalize ev : (if l.length ≤ 8 then fsV l.length l G what else -1) = v
    have vr := ai_rng (Int32.ofInt v)
    rw [show Value.int (Int32.ofInt v) = Value.int (Int32.ofInt (Int32.ofInt v).toInt) by rw [oI]]
    refine fg_11 p what (Int32.ofInt v).toInt hB4 ⟨by omega, hw, vr, trivial⟩ ?_
    intro τ5 y5 hB5 F5 _ _ _ _
    refine ⟨hB5, (FQ.up (G := []) rfl G3).tr (F4.tr (FQ.up (G := []) rfl F5)), Or.inr ⟨q, v, rfl, ?_⟩⟩
    rw [oI]
end FDY
