/-! first in the model -/
theorem mnB_y {B : Int} {P : Nat → Bool} {f : Nat → Int} {k : Nat} (h : P k = true) : mnB B P f (k + 1) = min (mnB B P f k) (f k) := if_pos h
theorem mnB_n {B : Int} {P : Nat → Bool} {f : Nat → Int} {k : Nat} (h : P k = false) : mnB B P f (k + 1) = mnB B P f k := if_neg (by rw [h]; decide)
theorem gG_b {v r : Int} (hv : 0 ≤ v ∧ v ≤ 99999) (hr : 0 ≤ r ∧ r ≤ 99) {k : Nat} (hk : k < 8) : 0 ≤ gN v r k ∧ gN v r k ≤ 20000000 := by
  have h := gN_ok hv hr k (by omega)
  have p : (2 : Int) ^ k ≤ 128 := by
    rcases (show k = 0 ∨ k = 1 ∨ k = 2 ∨ k = 3 ∨ k = 4 ∨ k = 5 ∨ k = 6 ∨ k = 7 by omega) with rfl | rfl | rfl | rfl | rfl | rfl | rfl | rfl <;> decide
  omega
theorem p256 {m : Nat} (hm : m ≤ 8) : 2 ^ m ≤ 256 := Nat.pow_le_pow_right (by decide) hm
def fB (m : Nat) (G : Nat → Nat → Int) : Prop := m ≤ 8 ∧ ∀ k i, k < m → i < m → 0 ≤ G k i ∧ G k i ≤ 20000000
def fX (σ : pm_S) (m : Nat) (l : List Nat) (G : Nat → Nat → Int) : Prop := fB m G ∧ cI σ 55 = (m : Int) ∧ (∀ i, i < m → (σ.1 125 i).toInt = ((l.getD i 0 : Nat) : Int) ∧ l.getD i 0 ≤ 29) ∧ ∀ k i, i < m → gN (σ.1 103 (l.getD i 0)).toInt (rt σ) k = G k i
theorem fX.fq {σ τ : pm_S} {m : Nat} {l : List Nat} {G : Nat → Nat → Int} (F : FQ FFi σ τ) (h : fX σ m l G) : fX τ m l G := ⟨h.1, (F.c 55 rfl).trans h.2.1, fun i hi => ⟨(congrArg Int32.toInt (F 125 i rfl)).trans (h.2.2.1 i hi).1, (h.2.2.1 i hi).2⟩, fun k i hi => by
  rw [F 103 _ rfl, show rt τ = rt σ from congrArg Int32.toInt (F 108 1 rfl)]
  exact h.2.2.2 k i hi⟩
/-- the cost with one next -/
abbrev fV (m : Nat) (G : Nat → Nat → Int) (s i : Nat) : Int := G (m - pcn 10 s) i + cF m G (s ^^^ 2 ^ i)
theorem fV_b {m : Nat} {G : Nat → Nat → Int} (hX : fB m G) {s i : Nat} (hs : s < 2 ^ m) (hi : i < m) (hb : Nat.testBit s i = true) : m - pcn 10 s < m ∧ 0 ≤ G (m - pcn 10 s) i ∧ G (m - pcn 10 s) i ≤ 20000000 ∧ 0 ≤ cF m G (s ^^^ 2 ^ i) ∧ cF m G (s ^^^ 2 ^ i) ≤ 200000000 := by
  have h2 : s < 1024 := Nat.lt_of_lt_of_le hs (Nat.le_trans (p256 hX.1) (by decide))
  have m8 := hX.1
  have e := pcn_x s h2 i (by omega) hb
  have p10 := pcn_10 s h2
  have g := hX.2 (m - pcn 10 s) i (by omega) hi
  have c := cF_b hX.1 hX.2 (pcn 10 (s ^^^ 2 ^ i)) (s ^^^ 2 ^ i) rfl (xo_lt hs hi)
  exact ⟨by omega, g.1, g.2, c.1, by omega⟩
theorem fV_r {m : Nat} {G : Nat → Nat → Int} (hX : fB m G) {s i : Nat} (hs : s < 2 ^ m) (hi : i < m) (hb : Nat.testBit s i = true) : 0 ≤ fV m G s i ∧ fV m G s i ≤ 220000000 := by
  have h := fV_b hX hs hi hb
  show 0 ≤ G (m - pcn 10 s) i + cF m G (s ^^^ 2 ^ i) ∧ G (m - pcn 10 s) i + cF m G (s ^^^ 2 ^ i) ≤ 220000000
  omega
section FMX
variable {m : Nat} {l : List Nat} {G : Nat → Nat → Int}
theorem cw_m {σ : pm_S} (hX : fX σ m l G) {T i : Nat} (hT : T < 2 ^ m) (hi : i < m) (hb : Nat.testBit T i = true) (hk : kC σ ((T ^^^ 2 ^ i : Nat) : Int) = cF m G (T ^^^ 2 ^ i)) : cwF σ T i = fV m G T i ∧ ocI T ≤ cI σ 55 := by
  obtain ⟨hB, e55, h125, hg⟩ := hX
  have m8 := hB.1
  have h2 : T < 1024 := Nat.lt_of_lt_of_le hT (Nat.le_trans (p256 m8) (by decide))
  have b := fV_b hB hT hi hb
  have pm := (pcn_xo m (by omega) T (by have := p256 m8; omega) hT).2.1
  have e1 : ocI (T : Int) = ((pcn 10 T : Nat) : Int) := bcP T h2
  have e2 : sbI (T : Int) (i : Int) = ((T ^^^ 2 ^ i : Nat) : Int) := by
    have h := bt2 T h2 i (by omega)
    rw [if_pos hb] at h
    unfold sbI
    simp only [oI]
    exact h
  have e3 : (σ.1 125 ((i : Int)).toNat).toInt = ((l.getD i 0 : Nat) : Int) := (h125 i hi).1
  have e4 : zK σ ((l.getD i 0 : Nat) : Int) = (σ.1 103 (l.getD i 0)).toInt := rfl
  have e5 : ((m : Int) - ((pcn 10 T : Nat) : Int)).toNat = m - pcn 10 T := by omega
  refine ⟨?_, by rw [e1, e55]; omega⟩
  unfold cwF
  rw [e1, e2, e3, e4, e55, e5, hg _ i hi, hk]
  exact sum0 (by omega) (by omega) (by omega) (by omega) (by omega) (by omega)
variable {σ0 : pm_S} {p what : Int}
/-- the least of a set -/
theorem fx_49 (hX : fX σ0 m l G) (hp : 0 ≤ p ∧ p ≤ 9) (hw : (-2147483648) ≤ what ∧ what ≤ 2147483647) {T : Nat} (hT : 1 ≤ T ∧ T < 2 ^ m) {Q : Option Value → pm_S → Prop}
    (hend : ∀ (σ : pm_S) (w z : Value), w.category = 1 → z.category = 1 → an_GB pm_B σ → FQ FFi σ0 σ → (∀ t : Nat, t < T + 1 → kC σ t = cF m G t) → Ok 223 22 79 [.ref 93, .int (Int32.ofInt p), .int (Int32.ofInt what), .int (Int32.ofInt (T : Int)), w, z] [] σ Q) :
    ∀ (N i : Nat) (σ : pm_S) (z : Value), z.category = 1 → i + N = m → an_GB pm_B σ → FQ FFi σ0 σ → (∀ t : Nat, t < T → kC σ t = cF m G t) → kC σ T = mnB 1000000000 (Nat.testBit T) (fV m G T) i → Ok 223 22 49 [.ref 93, .int (Int32.ofInt p), .int (Int32.ofInt what), .int (Int32.ofInt (T : Int)), .int (Int32.ofInt (i : Int)), z] [] σ Q := by
  have m8 := hX.1.1
  have h256 := p256 m8
  have hT2 : T < 256 := by omega
  have ixT : ((T : Int)).toNat = T := by omega
  intro N
  induction N with
  | zero =>
    intro i σ z hz hN hB hF hI hc
    have e55 : cI σ 55 = m := (hF.c 55 rfl).trans hX.2.1
    refine fj_49 p what T i (cI σ 55) z hz hB ⟨hp, hw, by omega, by omega, by omega, trivial⟩ ⟨rfl, trivial⟩ ?_
    intro τ y z1 hz1 hB1 F1 _ _ _ _
    have E := FQ.e1 F1
    refine Ok.ic rfl rfl (by omega) (by omega) (by omega) (by omega) (fun h => ?_) (fun h => ?_)
    · refine hend τ _ z1 rfl hz1 hB1 (hF.tr (FQ.up (G := []) rfl F1)) (fun t ht => ?_)
      have K : kC τ t = kC σ t := by show (τ.1 128 _).toInt = _; rw [E]
      rw [K]
      by_cases e : t = T
      · rw [e, hc, show i = m by omega]
        exact (cF_s m8 hT.2 (by omega)).symm
      · exact hI t (by omega)
    · exfalso
      have h : (i : Int) < cI σ 55 := h
      omega
  | succ N ih =>
    intro i σ z hz hN hB hF hI hc
    have e55 : cI σ 55 = m := (hF.c 55 rfl).trans hX.2.1
    refine fj_49 p what T i (cI σ 55) z hz hB ⟨hp, hw, by omega, by omega, by omega, trivial⟩ ⟨rfl, trivial⟩ ?_
    intro τ y z1 hz1 hB1 F1 _ _ _ _
    refine Ok.ic rfl rfl (by omega) (by omega) (by omega) (by omega) (fun h => ?_) (fun h => ?_)
    · exfalso
      have h : cI σ 55 ≤ (i : Int) := h
      omega
    · have next : ∀ (τ : pm_S) (z1 : Value), z1.category = 1 → an_GB pm_B τ → FQ FFi σ0 τ → (∀ t : Nat, t < T → kC τ t = cF m G t) → kC τ T = mnB 1000000000 (Nat.testBit T) (fV m G T) (i + 1) → Ok 223 22 77 [.ref 93, .int (Int32.ofInt p), .int (Int32.ofInt what), .int (Int32.ofInt (T : Int)), .int (Int32.ofInt (i : Int)), z1] [] τ Q := by
        intro τ z1 hz1 hB1 G1 hI1 hc1
        refine fj_77 p what T i z1 hz1 hB1 ⟨hp, hw, by omega, by omega, trivial⟩ ?_
        intro τ2 y2 z2 hz2 hB2 F2 _ _ _ _
        have K : ∀ t, kC τ2 t = kC τ t := fun t => by show (τ2.1 128 _).toInt = _; rw [FQ.e1 F2]
        exact ih (i + 1) τ2 z2 hz2 (by omega) hB2 (G1.tr (FQ.up (G := []) rfl F2)) (fun t ht => (K t).trans (hI1 t ht)) ((K T).trans hc1)
      refine fj_53 p what T i z1 hz1 hB1 ⟨hp, hw, by omega, by omega, trivial⟩ ?_ ?_
      · intro τ2 y2 z2 hz2 hB2 F2 f2 _ d2 _
        have E : τ2.1 = σ.1 := FQ.e1 (FQ.tr F1 F2)
        have K : ∀ t, kC τ2 t = kC σ t := fun t => by show (τ2.1 128 _).toInt = _; rw [E]
        have hb : Nat.testBit T i = false := bitF (x := (T : Int)) (i := (i : Int)) ⟨by omega, by omega⟩ ⟨by omega, by omega⟩ d2.1 d2.2.1 (by omega)
        refine next τ2 z2 hz2 hB2 (hF.tr (FQ.up (G := []) rfl (FQ.tr F1 F2))) (fun t ht => (K t).trans (hI t ht)) ?_
        rw [K, hc, mnB_n hb]
      · intro τ2 y2 z2 hz2 hB2 F2 f2 _ d2 _
        have E : τ2.1 = σ.1 := FQ.e1 (FQ.tr F1 F2)
        have K : ∀ t, kC τ2 t = kC σ t := fun t => by show (τ2.1 128 _).toInt = _; rw [E]
        have hb : Nat.testBit T i = true := bitT (x := (T : Int)) (i := (i : Int)) ⟨by omega, by omega⟩ ⟨by omega, by omega⟩ d2.1 d2.2.1 (by omega)
        have G2 : FQ FFi σ0 τ2 := hF.tr (FQ.up (G := []) rfl (FQ.tr F1 F2))
        have lt : T ^^^ 2 ^ i < T := by
          have := x2p T (by omega) i (by omega) hb
          have := Nat.two_pow_pos i
          omega
        have cw := cw_m (hX.fq G2) hT.2 (by omega) hb ((K _).trans (hI _ lt))
        have vr := fV_r hX.1 hT.2 (show i < m by omega) hb
        refine Ok.cv rfl rfl rfl rfl rfl rfl rfl ?_
        refine (m_costWith hB2 (s := T) (i := i) hT2 (by omega) (by rw [(hX.fq G2).2.1]; omega) cw.2).use (by decide) (fun r3 τ3 q3 => ?_)
        obtain ⟨rfl, hB3, F3⟩ := q3
        rw [cw.1]
        refine fj_64 p what T i (fV m G T i) (kC τ3 T) z2 hz2 hB3 ⟨hp, hw, by omega, by omega, by omega, ai_rng _, trivial⟩ ⟨rfl, trivial⟩ ?_
        intro τ4 y4 z4 hz4 hB4 F4 f4 _ _ c4
        have E4 : τ4.1 = σ.1 := (FQ.e1 (FQ.tr F3 F4)).trans E
        have G4 : FQ FFi σ0 τ4 := G2.tr (FQ.up (G := []) rfl (FQ.tr F3 F4))
        have K4 : ∀ t, kC τ4 t = kC σ t := fun t => by show (τ4.1 128 _).toInt = _; rw [E4]
        have K3 : kC τ3 T = kC σ T := by show (τ3.1 128 _).toInt = _; rw [(FQ.e1 F3).trans E]
        have k3r := ai_rng (τ3.1 128 ((T : Int)).toNat)
        refine Ok.ic rfl rfl (by omega) (by omega) k3r.1 k3r.2 (fun h5 => ?_) (fun h5 => ?_)
        · have h5 : kC τ3 T ≤ fV m G T i := h5
          refine next τ4 z4 hz4 hB4 G4 (fun t ht => (K4 t).trans (hI t ht)) ?_
          rw [K4, hc, mnB_y hb, ← hc]
          omega
        · have h5 : fV m G T i < kC τ3 T := h5
          refine fj_69 p what T i z4 hz4 hB4 ⟨hp, hw, by omega, by omega, trivial⟩ ?_
          intro τ5 y5 z5 hz5 hB5 F5 _ _ _ _
          have E5 : τ5.1 = σ.1 := (FQ.e1 F5).trans E4
          have G5 : FQ FFi σ0 τ5 := G4.tr (FQ.up (G := []) rfl F5)
          have K5 : ∀ t, kC τ5 t = kC σ t := fun t => by show (τ5.1 128 _).toInt = _; rw [E5]
          have cw5 := cw_m (hX.fq G5) hT.2 (by omega) hb ((K5 _).trans (hI _ lt))
          refine Ok.cv rfl rfl rfl rfl rfl rfl rfl ?_
          refine (m_costWith hB5 (s := T) (i := i) hT2 (by omega) (by rw [(hX.fq G5).2.1]; omega) cw5.2).use (by decide) (fun r6 τ6 q6 => ?_)
          obtain ⟨rfl, hB6, F6⟩ := q6
          have E6 : τ6.1 = σ.1 := (FQ.e1 F6).trans E5
          have G6 : FQ FFi σ0 τ6 := G5.tr (FQ.up (G := []) rfl F6)
          refine Ok.ast (n := 256) rfl rfl rfl (by decide) (by omega) (by omega) ?_
          rw [cw5.1, ixT]
          have hB7 : an_GB pm_B (put τ6 128 T (Int32.ofInt (fV m G T i))) := put_GB hB6 (ai_rng _)
          have G7 : FQ FFi σ0 (put τ6 128 T (Int32.ofInt (fV m G T i))) := G6.tr (FQ.put rfl)
          have K7 : kC (put τ6 128 T (Int32.ofInt (fV m G T i))) T = fV m G T i := by
            show ((put τ6 128 T _).1 128 ((T : Int)).toNat).toInt = _
            rw [ixT, put_eq, ti_of (by omega) (by omega)]
          have K7' : ∀ t : Nat, t < T → kC (put τ6 128 T (Int32.ofInt (fV m G T i))) t = kC σ t := fun t ht => by
            show ((put τ6 128 T _).1 128 ((t : Int)).toNat).toInt = _
            rw [put_nj (show ((t : Int)).toNat ≠ T by omega), E6]
          generalize put τ6 128 T (Int32.ofInt (fV m G T i)) = τ7 at hB7 G7 K7 K7' ⊢
          refine next τ7 z5 hz5 hB7 G7 (fun t ht => (K7' t ht).trans (hI t ht)) ?_
          rw [K7, mnB_y hb, ← hc]
          omega
/-- the first that costs least -/
theorem fx_106 (hX : fX σ0 m l G) (hK : ∀ t : Nat, t < 2 ^ m → kC σ0 t = cF m G t) (hp : 0 ≤ p ∧ p ≤ 9) (hw : 10 ≤ what ∧ what ≤ 17) {left k s : Nat} (hl : left < 2 ^ m) (hk : k ≤ 7) {Q : Option Value → pm_S → Prop}
    (hend : ∀ σ : pm_S, an_GB pm_B σ → FQ [] σ0 σ → Ok 223 22 126 [.ref 93, .int (Int32.ofInt p), .int (Int32.ofInt what), .int (Int32.ofInt (left : Int)), .int (Int32.ofInt (s : Int)), .int (Int32.ofInt (k : Int))] [] σ Q) :
    ∀ (N i : Nat) (σ : pm_S), i + N = m → sF (cPq m G left) N i = s → (∃ j, i ≤ j ∧ j < m ∧ cPq m G left j = true) → an_GB pm_B σ → FQ [] σ0 σ → Ok 223 22 106 [.ref 93, .int (Int32.ofInt p), .int (Int32.ofInt what), .int (Int32.ofInt (left : Int)), .int (Int32.ofInt (i : Int)), .int (Int32.ofInt (k : Int))] [] σ Q := by
  have m8 := hX.1.1
  have h256 := p256 m8
  intro N
  induction N with
  | zero =>
    intro i σ hN hs he hB hF
    obtain ⟨j, h1, h2, _⟩ := he
    exfalso
    omega
  | succ N ih =>
    intro i σ hN hs he hB hF
    have next : cPq m G left i = false → ∀ τ : pm_S, an_GB pm_B τ → FQ [] σ0 τ → Ok 223 22 121 [.ref 93, .int (Int32.ofInt p), .int (Int32.ofInt what), .int (Int32.ofInt (left : Int)), .int (Int32.ofInt (i : Int)), .int (Int32.ofInt (k : Int))] [] τ Q := by
      intro hc τ hB1 F1
      refine fj_121 p what left i k hB1 ⟨hp, hw, by omega, by omega, by omega, trivial⟩ ?_
      intro τ2 y2 hB2 F2 _ _ _ _
      refine ih (i + 1) τ2 (by omega) ((show sF (cPq m G left) (N + 1) i = sF (cPq m G left) N (i + 1) from if_neg (by rw [hc]; decide)).symm.trans hs) ?_ hB2 (F1.tr F2)
      obtain ⟨j, h1, h2, h3⟩ := he
      have ne : j ≠ i := fun z => by rw [z, hc] at h3; cases h3
      exact ⟨j, by omega, h2, h3⟩
    refine fj_106 p what left i k hB ⟨hp, hw, by omega, by omega, by omega, trivial⟩ ?_ ?_
    · intro τ y hB1 F1 f _ d _
      have hb : Nat.testBit left i = false := bitF (x := (left : Int)) (i := (i : Int)) ⟨by omega, by omega⟩ ⟨by omega, by omega⟩ d.1 d.2.1 (by omega)
      refine next ?_ τ hB1 (hF.tr F1)
      unfold cPq
      rw [hb, Bool.false_and]
    · intro τ y hB1 F1 f _ d _
      have hb : Nat.testBit left i = true := bitT (x := (left : Int)) (i := (i : Int)) ⟨by omega, by omega⟩ ⟨by omega, by omega⟩ d.1 d.2.1 (by omega)
      have G1 : FQ [] σ0 τ := hF.tr F1
      have E : τ.1 = σ0.1 := FQ.e1 G1
      have K : ∀ t, kC τ t = kC σ0 t := fun t => by show (τ.1 128 _).toInt = _; rw [E]
      have X1 : fX τ m l G := hX.fq (FQ.up (G := []) rfl G1)
      have cw := cw_m X1 hl (by omega) hb ((K _).trans (hK _ (xo_lt hl (by omega))))
      have vr := fV_r hX.1 hl (show i < m by omega) hb
      refine Ok.cv rfl rfl rfl rfl rfl rfl rfl ?_
      refine (m_costWith hB1 (s := left) (i := i) (by omega) (by omega) (by rw [X1.2.1]; omega) cw.2).use (by decide) (fun r2 τ2 q2 => ?_)
      obtain ⟨rfl, hB2, F2⟩ := q2
      have G2 : FQ [] σ0 τ2 := G1.tr F2
      rw [cw.1]
      have e6 : kC τ2 (left : Int) = cF m G left := (show kC τ2 (left : Int) = kC σ0 (left : Int) by show (τ2.1 128 _).toInt = _; rw [FQ.e1 G2]).trans (hK _ hl)
      have cr := cF_b m8 hX.1.2 (pcn 10 left) left rfl hl
      have p10 := pcn_10 left (by omega)
      refine fj_116 p what left i k (fV m G left i) (cF m G left) hB2 ⟨hp, hw, by omega, by omega, by omega, by omega, by omega, trivial⟩ ⟨e6, trivial⟩ ?_
      intro τ3 y3 hB3 F3 f3 _ _ c3
      have G3 := G2.tr F3
      refine Ok.ic rfl rfl (by omega) (by omega) (by omega) (by omega) (fun h => ?_) (fun h => ?_)
      · have h : fV m G left i = cF m G left := h
        have hc : cPq m G left i = true := by
          unfold cPq
          rw [hb, Bool.true_and]
          exact decide_eq_true h
        rw [show i = s from (show sF (cPq m G left) (N + 1) i = i from if_pos hc).symm.trans hs]
        exact hend τ3 hB3 G3
      · have h : fV m G left i ≠ cF m G left := h
        refine next ?_ τ3 hB3 G3
        unfold cPq
        rw [hb, Bool.true_and]
        exact decide_eq_false h
/-- one after another -/
theorem fx_99 (hX : fX σ0 m l G) (hK : ∀ t : Nat, t < 2 ^ m → kC σ0 t = cF m G t) (hp : 0 ≤ p ∧ p ≤ 9) {K : Nat} (hKm : K < m) (hw : what = 10 + (K : Int)) : ∀ (N k i : Nat) (σ : pm_S), k + N = K + 1 → i ≤ 7 → (k = K + 1 → i = sF (cPq m G (sqF m G K)) m 0) → an_GB pm_B σ → FQ [] σ0 σ → Ok 223 22 99 [.ref 93, .int (Int32.ofInt p), .int (Int32.ofInt what), .int (Int32.ofInt ((sqF m G k : Nat) : Int)), .int (Int32.ofInt (i : Int)), .int (Int32.ofInt (k : Int))] [] σ (fun r τ => r = some (.int (Int32.ofInt ((l.getD (sF (cPq m G (sqF m G K)) m 0) 0 : Nat) : Int))) ∧ an_GB pm_B τ ∧ FQ [] σ0 τ) := by
  have m8 := hX.1.1
  have h256 := p256 m8
  intro N
  induction N with
  | zero =>
    intro k i σ hN hi he hB hF
    have ek : k = K + 1 := by omega
    have sq := (sqF_ok m8 hX.1.2 k (by omega)).1
    have ei := he ek
    have sf : i < m := by
      have q := sqF_ok m8 hX.1.2 K (by omega)
      have l2 : sqF m G K < 1024 := by omega
      have n0 : sqF m G K ≠ 0 := fun z => by
        have h := q.2
        rw [z] at h
        exact absurd h (by show ¬ (0 : Nat) = m - K; omega)
      obtain ⟨j, j1, j2⟩ := cPq_ex m8 hX.1.2 q.1 n0
      have := (sF_ok (P := cPq m G (sqF m G K)) m 0 ⟨j, Nat.zero_le _, by omega, j2⟩).1
      omega
    refine fj_99 p what (sqF m G k : Nat) i k hB ⟨hp, by omega, by omega, by omega, by omega, trivial⟩ ?_
    intro τ y hB1 F1 _ _ _ _
    refine Ok.ic rfl rfl (by omega) (by omega) (by omega) (by omega) (fun h => ?_) (fun h => ?_)
    · have X1 : fX τ m l G := hX.fq (FQ.up (G := []) rfl (hF.tr F1))
      have g := X1.2.2.1 i sf
      refine fj_136 p what (sqF m G k : Nat) i k ((l.getD i 0 : Nat) : Int) hB1 ⟨hp, by omega, by omega, by omega, by omega, by omega, trivial⟩ ⟨g.1, trivial⟩ ?_
      intro τ2 y2 hB2 F2 _ _ _ _
      rw [ei]
      exact ⟨rfl, hB2, (hF.tr F1).tr F2⟩
    · exfalso
      have h : (k : Int) ≤ what + (-10) := h
      omega
  | succ N ih =>
    intro k i σ hN hi he hB hF
    have q := sqF_ok m8 hX.1.2 k (by omega)
    have n0 : sqF m G k ≠ 0 := fun z => by
      have h := q.2
      rw [z] at h
      exact absurd h (by show ¬ (0 : Nat) = m - k; omega)
    obtain ⟨j, j1, j2⟩ := cPq_ex m8 hX.1.2 q.1 n0
    have sf := sF_ok (P := cPq m G (sqF m G k)) m 0 ⟨j, Nat.zero_le _, by omega, j2⟩
    have sf1 : sF (cPq m G (sqF m G k)) m 0 < m := by omega
    refine fj_99 p what (sqF m G k : Nat) i k hB ⟨hp, by omega, by omega, by omega, by omega, trivial⟩ ?_
    intro τ y hB1 F1 _ _ _ _
    refine Ok.ic rfl rfl (by omega) (by omega) (by omega) (by omega) (fun h => ?_) (fun h => ?_)
    · exfalso
      have h : what + (-10) < (k : Int) := h
      omega
    · refine fj_104 p what (sqF m G k : Nat) i k hB1 ⟨hp, by omega, by omega, by omega, by omega, trivial⟩ ?_
      intro τ2 y2 hB2 F2 _ _ _ _
      refine fx_106 (s := sF (cPq m G (sqF m G k)) m 0) hX hK hp (by omega) q.1 (by omega) ?_ m 0 τ2 (by omega) rfl ⟨j, Nat.zero_le _, j1, j2⟩ hB2 ((hF.tr F1).tr F2)
      intro σ3 hB3 F3
      refine fj_126 p what (sqF m G k : Nat) (sF (cPq m G (sqF m G k)) m 0 : Nat) k hB3 ⟨hp, by omega, by omega, by omega, by omega, trivial⟩ ?_
      intro τ4 y4 hB4 F4 f4 _ d4 _
      have tb : Nat.testBit (sqF m G k) (sF (cPq m G (sqF m G k)) m 0) = true := (Bool.and_eq_true_iff.mp sf.2).1
      have e7 : y4 7 = ((sqF m G (k + 1) : Nat) : Int) := by
        have h := clrI (x := ((sqF m G k : Nat) : Int)) (i := ((sF (cPq m G (sqF m G k)) m 0 : Nat) : Int)) ⟨by omega, by omega⟩ ⟨by omega, by omega⟩ d4.1 d4.2.1 d4.2.2.1
        exact h.trans (if_pos tb)
      rw [e7]
      refine ih (k + 1) (sF (cPq m G (sqF m G k)) m 0) τ4 (by omega) (by omega) (fun z => ?_) hB4 (F3.tr F4)
      rw [show k = K by omega]
end FMX
