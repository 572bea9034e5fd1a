/-! first in the class -/
def fC (σ : pm_S) (m : Nat) (l : List Nat) (G : Nat → Nat → Int) : Prop := fB m G ∧ sI σ 79 2 = (m : Int) ∧ (∀ i, i < m → sI σ 80 i = ((l.getD i 0 : Nat) : Int) ∧ l.getD i 0 ≤ 29) ∧ (0 ≤ sI σ 2 1 ∧ sI σ 2 1 ≤ 99) ∧ ∀ k i, i < m → gN (σ.1 16 (l.getD i 0)).toInt (sI σ 2 1) k = G k i
abbrev FCg : List (Nat × Nat) := [(83, 9999), (84, 9999)]
section FCX
variable {m : Nat} {l : List Nat} {G : Nat → Nat → Int}
theorem fC.fq {σ τ : pm_S} (F : FQ FCg σ τ) (h : fC σ m l G) : fC τ m l G := by
  obtain ⟨h1, h2, h3, h4, h5⟩ := h
  have e2 : sI τ 2 1 = sI σ 2 1 := congrArg Int32.toInt (F 2 1 rfl)
  refine ⟨h1, (congrArg Int32.toInt (F 79 2 rfl)).trans h2, fun i hi => ⟨(congrArg Int32.toInt (F 80 i rfl)).trans (h3 i hi).1, (h3 i hi).2⟩, by rw [e2]; exact h4, fun k i hi => ?_⟩
  rw [e2, F 16 _ rfl]
  exact h5 k i hi
/-- what is grown so far -/
def gJ (σ : pm_S) (m : Nat) (G : Nat → Nat → Int) (i n : Nat) : Prop := ∀ a b, a < m → b < m → (b < i ∨ (b = i ∧ a < n)) → sI σ 84 (a * 8 + b) = G a b
variable {σ0 : pm_S}
theorem fx_g18 (hX : fC σ0 m l G) {i : Nat} (hi : i < m) {Q : Option Value → pm_S → Prop}
    (hend : ∀ (σ : pm_S) (c n : Int), ((-2147483648) ≤ c ∧ c ≤ 2147483647) → (0 ≤ n ∧ n ≤ 8) → an_GB pm_B σ → FQ FCg σ0 σ → gJ σ m G i m → Ok 76 7 41 [.ref 79, .int (Int32.ofInt (i : Int)), .int (Int32.ofInt c), .int (Int32.ofInt n)] [] σ Q) :
    ∀ (N n : Nat) (σ : pm_S), n + N = m → an_GB pm_B σ → FQ FCg σ0 σ → gJ σ m G i n → Ok 76 7 18 [.ref 79, .int (Int32.ofInt (i : Int)), .int (Int32.ofInt (G n i)), .int (Int32.ofInt (n : Int))] [] σ Q := by
  have m8 := hX.1.1
  intro N
  induction N with
  | zero =>
    intro n σ hN hB hF hJ
    have X := hX.fq hF
    have gr : (-2147483648) ≤ G n i ∧ G n i ≤ 2147483647 := by
      rw [← hX.2.2.2.2 n i hi]
      exact gN_rng (ai_rng _) n
    refine fa_18 i (G n i) n m hB ⟨by omega, gr, by omega, by omega, trivial⟩ ⟨X.2.1, trivial⟩ ?_
    intro τ y hB1 F1 _ _ _ _
    refine Ok.ic rfl rfl (by omega) (by omega) (by omega) (by omega) (fun h => ?_) (fun h => ?_)
    · refine hend τ (G n i) n gr (by omega) hB1 (hF.tr (FQ.up (G := []) rfl F1)) (fun a b ha hb hc => ?_)
      exact (congrArg Int32.toInt (F1 84 _ rfl)).trans (hJ a b ha hb (by omega))
    · exfalso
      have h : (n : Int) < (m : Int) := h
      omega
  | succ N ih =>
    intro n σ hN hB hF hJ
    have X := hX.fq hF
    have g0 := hX.1.2 n i (by omega) hi
    refine fa_18 i (G n i) n m hB ⟨by omega, by omega, by omega, by omega, trivial⟩ ⟨X.2.1, trivial⟩ ?_
    intro τ y hB1 F1 _ _ _ _
    refine Ok.ic rfl rfl (by omega) (by omega) (by omega) (by omega) (fun h => ?_) (fun h => ?_)
    · exfalso
      have h : (m : Int) ≤ (n : Int) := h
      omega
    · refine fa_22 i (G n i) n hB1 ⟨by omega, by omega, by omega, trivial⟩ ?_
      intro τ2 y2 hB2 F2 f2 _ d2 _
      have e3 : y2 3 = (n : Int) * 8 := mulC (by omega) (by decide) d2.1
      have e4 : y2 4 = y2 3 + (i : Int) := addC (by omega) (by omega) d2.2.1
      have ex : (y2 4).toNat = n * 8 + i := by omega
      refine Ok.ast (n := 64) rfl rfl rfl (by decide) (by omega) (by omega) ?_
      rw [ex]
      have G2 : FQ FCg σ0 τ2 := hF.tr (FQ.up (G := []) rfl (FQ.tr F1 F2))
      have hB3 : an_GB pm_B (put τ2 84 (n * 8 + i) (Int32.ofInt (G n i))) := put_GB hB2 (ai_rng _)
      have G3 : FQ FCg σ0 (put τ2 84 (n * 8 + i) (Int32.ofInt (G n i))) := G2.tr (FQ.put rfl)
      have J3 : gJ (put τ2 84 (n * 8 + i) (Int32.ofInt (G n i))) m G i (n + 1) := fun a b ha hb hc => by
        show ((put τ2 84 (n * 8 + i) (Int32.ofInt (G n i))).1 84 (a * 8 + b)).toInt = G a b
        by_cases e : a = n ∧ b = i
        · rw [e.1, e.2, put_eq, ti_of (by omega) (by omega)]
        · rw [put_nj (by omega), F2 84 _ rfl, F1 84 _ rfl]
          exact hJ a b ha hb (by omega)
      generalize put τ2 84 (n * 8 + i) (Int32.ofInt (G n i)) = τ3 at hB3 G3 J3 ⊢
      have X3 := hX.fq G3
      refine fa_31 i (G n i) n (sI σ0 2 1) hB3 ⟨by omega, by omega, by omega, hX.2.2.2.1, trivial⟩ ⟨congrArg Int32.toInt (G3 2 1 rfl), trivial⟩ ?_
      intro τ4 y4 hB4 F4 f4 _ d4 _
      have e6 : y4 6 = G (n + 1) i := by
        have h1 := hX.2.2.2.2 (n + 1) i hi
        have h0 := hX.2.2.2.2 n i hi
        rw [← h1]
        show y4 6 = gS (gN (σ0.1 16 (l.getD i 0)).toInt (sI σ0 2 1) n) (sI σ0 2 1)
        rw [h0]
        unfold gS
        rw [d4.1, d4.2.1, d4.2.2.1]
      rw [e6]
      refine ih (n + 1) τ4 (by omega) hB4 (G3.tr (FQ.up (G := []) rfl F4)) (fun a b ha hb hc => ?_)
      exact (congrArg Int32.toInt (F4 84 _ rfl)).trans (J3 a b ha hb hc)
theorem x_grow {σ : pm_S} (hX : fC σ m l G) (hB : an_GB pm_B σ) : Sp 76 7 [.ref 79] σ (fun r τ => r = none ∧ an_GB pm_B τ ∧ FQ FCg σ τ ∧ ∀ a b, a < m → b < m → sI τ 84 (a * 8 + b) = G a b) := by
  have m8 := hX.1.1
  have go : ∀ (N i : Nat) (τ : pm_S) (v w : Value), v.category = 1 → w.category = 1 → i + N = m → an_GB pm_B τ → FQ FCg σ τ → gJ τ m G i 0 → Ok 76 7 2 [.ref 79, .int (Int32.ofInt (i : Int)), v, w] [] τ (fun r τ => r = none ∧ an_GB pm_B τ ∧ FQ FCg σ τ ∧ ∀ a b, a < m → b < m → sI τ 84 (a * 8 + b) = G a b) := by
    intro N
    induction N with
    | zero =>
      intro i τ v w hv hw hN hB hF hJ
      have X := hX.fq hF
      refine fa_2 i m v w hv hw hB ⟨by omega, by omega, trivial⟩ ⟨X.2.1, trivial⟩ ?_
      intro τ1 y1 v1 w1 hv1 hw1 hB1 F1 _ _ _ _
      refine Ok.ic rfl rfl (by omega) (by omega) (by omega) (by omega) (fun h => ?_) (fun h => ?_)
      · refine fa_43 i v1 w1 hv1 hw1 hB1 ⟨by omega, trivial⟩ ?_
        intro τ2 y2 hB2 F2 _ _ _ _
        refine ⟨rfl, hB2, hF.tr (FQ.up (G := []) rfl (FQ.tr F1 F2)), fun a b ha hb => ?_⟩
        exact (congrArg Int32.toInt ((FQ.tr F1 F2) 84 _ rfl)).trans (hJ a b ha hb (by omega))
      · exfalso
        have h : (i : Int) < (m : Int) := h
        omega
    | succ N ih =>
      intro i τ v w hv hw hN hB hF hJ
      have X := hX.fq hF
      have hi : i < m := by omega
      refine fa_2 i m v w hv hw hB ⟨by omega, by omega, trivial⟩ ⟨X.2.1, trivial⟩ ?_
      intro τ1 y1 v1 w1 hv1 hw1 hB1 F1 _ _ _ _
      have H1 : FQ FCg σ τ1 := hF.tr (FQ.up (G := []) rfl F1)
      have X1 := hX.fq H1
      refine Ok.ic rfl rfl (by omega) (by omega) (by omega) (by omega) (fun h => ?_) (fun h => ?_)
      · exfalso
        have h : (m : Int) ≤ (i : Int) := h
        omega
      · have e0 : G 0 i = (τ1.1 16 (l.getD i 0)).toInt := (X1.2.2.2.2 0 i hi).symm
        have hd := X1.2.2.1 i hi
        refine fa_6 i ((l.getD i 0 : Nat) : Int) (G 0 i) v1 w1 hv1 hw1 hB1 ⟨by omega, by omega, by rw [e0]; exact ai_rng _, trivial⟩ ⟨hd.1, e0.symm, trivial⟩ ?_
        intro τ2 y2 hB2 F2 _ _ _ _
        refine fx_g18 hX hi ?_ m 0 τ2 (by omega) hB2 (H1.tr (FQ.up (G := []) rfl F2)) (fun a b ha hb hc => ?_)
        · intro τ3 c n hc hn hB3 F3 J3
          refine fa_41 i c n hB3 ⟨by omega, hc, hn, trivial⟩ ?_
          intro τ4 y4 hB4 F4 _ _ _ _
          refine ih (i + 1) τ4 _ _ rfl rfl (by omega) hB4 (F3.tr (FQ.up (G := []) rfl F4)) (fun a b ha hb hc => ?_)
          exact (congrArg Int32.toInt (F4 84 _ rfl)).trans (J3 a b ha hb (by omega))
        · exact (congrArg Int32.toInt ((FQ.tr F1 F2) 84 _ rfl)).trans (hJ a b ha hb (by omega))
  refine Sp.at rfl rfl ?_
  refine fa_0 _ _ _ rfl rfl rfl hB ?_
  intro τ y v w hv hw hB1 F1 _ _ _ _
  exact go m 0 τ v w hv hw (by omega) hB1 (FQ.up (G := []) rfl F1) (fun a b _ _ hc => by omega)
/-- where all is grown -/
def fG (σ : pm_S) (m : Nat) (l : List Nat) (G : Nat → Nat → Int) : Prop := fC σ m l G ∧ ∀ a b, a < m → b < m → sI σ 84 (a * 8 + b) = G a b
abbrev FC3 : List (Nat × Nat) := [(83, 9999)]
theorem fG.fq {σ τ : pm_S} (F : FQ FC3 σ τ) (h : fG σ m l G) : fG τ m l G := ⟨h.1.fq (FQ.up (G := FC3) rfl F), fun a b ha hb => (congrArg Int32.toInt (F 84 _ rfl)).trans (h.2 a b ha hb)⟩
/-- what behind a paid set -/
theorem beh (hm : m ≤ 8) {A i : Nat} (hA : A < 2 ^ m) (hi : i < m) (hb : Nat.testBit A i = false) : A ||| 2 ^ i < 2 ^ m ∧ A < (A ||| 2 ^ i) ∧ (2 ^ m - 1) ^^^ (A ||| 2 ^ i) = ((2 ^ m - 1) ^^^ A) ^^^ 2 ^ i ∧ Nat.testBit ((2 ^ m - 1) ^^^ A) i = true ∧ m - pcn 10 ((2 ^ m - 1) ^^^ A) = pcn 10 A ∧ pcn 10 A < m ∧ (2 ^ m - 1) ^^^ A < 2 ^ m := by
  have h256 := p256 hm
  have a1 := or_xo A (by omega) i (by omega) hb
  have a2 := lt_xo m (by omega) A (by omega) hA i hi
  have a3 := tb_xo m (by omega) A (by omega) hA i hi
  have a4 := pcn_xo m (by omega) A (by omega) hA
  have tb : Nat.testBit ((2 ^ m - 1) ^^^ A) i = true := by rw [a3, hb]; rfl
  have px := pcn_x _ (show (2 ^ m - 1) ^^^ A < 1024 by omega) i (by omega) tb
  refine ⟨a2.1, a1.2, ?_, tb, by omega, by omega, a4.2.2.1⟩
  rw [a1.1, Nat.xor_assoc]
theorem x_cwn {σ : pm_S} (hX : fG σ m l G) (hB : an_GB pm_B σ) {A i : Nat} (hA : A < 2 ^ m) (hi : i < m) (hb : Nat.testBit A i = false) (hK : sI σ 83 (A ||| 2 ^ i) = cF m G ((2 ^ m - 1) ^^^ (A ||| 2 ^ i))) : Sp 78 5 [.ref 79, .int (Int32.ofInt (A : Int)), .int (Int32.ofInt (i : Int))] σ (fun r τ => r = some (.int (Int32.ofInt (fV m G ((2 ^ m - 1) ^^^ A) i))) ∧ an_GB pm_B τ ∧ FQ [] σ τ) := by
  have m8 := hX.1.1.1
  have h256 := p256 m8
  obtain ⟨b1, b2, b3, b4, b5, b6, b7⟩ := beh m8 hA hi hb
  have fv := fV_b hX.1.1 b7 hi b4
  refine Sp.at rfl rfl ?_
  refine fc_0 A i hB ⟨by omega, by omega, trivial⟩ ?_
  intro τ1 y1 hB1 F1 f1 _ d1 _
  have e2 : y1 2 = ((pcn 10 A : Nat) : Int) := d1.1.symm.trans (bcP A (by omega))
  have e3 : y1 3 = y1 2 * 8 := mulC (by omega) (by decide) d1.2.1
  have e4 : y1 4 = y1 3 + (i : Int) := addC (by omega) (by omega) d1.2.2.1
  have ex : (y1 4).toNat = pcn 10 A * 8 + i := by omega
  refine Ok.ald (n := 64) rfl rfl rfl (by decide) (by omega) (by omega) ?_
  have g : (τ1.1 84 (y1 4).toNat).toInt = G (pcn 10 A) i := by
    rw [ex, F1 84 _ rfl]
    exact hX.2 _ _ b6 hi
  rw [g]
  rw [b5] at fv
  refine fc_9 A i (G (pcn 10 A) i) hB1 ⟨by omega, by omega, by omega, trivial⟩ ?_
  intro τ2 y2 hB2 F2 f2 _ d2 _
  have e5 : y2 4 = ((A ||| 2 ^ i : Nat) : Int) := orB (x := (A : Int)) (i := (i : Int)) ⟨by omega, by omega⟩ ⟨by omega, by omega⟩ d2.1 d2.2.1
  have ex2 : (y2 4).toNat = A ||| 2 ^ i := by omega
  refine Ok.ald (n := 1024) rfl rfl rfl (by decide) (by omega) (by omega) ?_
  have g2 : (τ2.1 83 (y2 4).toNat).toInt = cF m G (((2 ^ m - 1) ^^^ A) ^^^ 2 ^ i) := by
    rw [ex2, F2 83 _ rfl, F1 83 _ rfl, ← b3]
    exact hK
  rw [g2]
  refine fc_17 A i (cF m G (((2 ^ m - 1) ^^^ A) ^^^ 2 ^ i)) (G (pcn 10 A) i) hB2 ⟨by omega, by omega, by omega, by omega, trivial⟩ ?_
  intro τ3 y3 hB3 F3 f3 _ d3 _
  refine ⟨?_, hB3, FQ.tr F1 (FQ.tr F2 F3)⟩
  rw [← d3.1]
  refine congrArg (fun z => some (Value.int (Int32.ofInt z))) ?_
  show _ = G (m - pcn 10 ((2 ^ m - 1) ^^^ A)) i + cF m G (((2 ^ m - 1) ^^^ A) ^^^ 2 ^ i)
  rw [b5]
  exact sum0 (by omega) (by omega) (by omega) (by omega) (by omega) (by omega)
/-- the least behind -/
theorem x_beh {σ : pm_S} (hX : fG σ m l G) (hB : an_GB pm_B σ) {A : Nat} (hA : A < 2 ^ m - 1) (hK : ∀ B, A < B → B < 2 ^ m → sI σ 83 B = cF m G ((2 ^ m - 1) ^^^ B)) : Sp 77 7 [.ref 79, .int (Int32.ofInt (A : Int))] σ (fun r τ => r = some (.int (Int32.ofInt (cF m G ((2 ^ m - 1) ^^^ A)))) ∧ an_GB pm_B τ ∧ FQ [] σ τ) := by
  have m8 := hX.1.1.1
  have h256 := p256 m8
  have hA' : A < 2 ^ m := by omega
  have a4 := pcn_xo m (by omega) A (by omega) hA'
  have n0 : (2 ^ m - 1) ^^^ A ≠ 0 := fun z => by
    have := a4.2.2.2 z
    omega
  have tbq : ∀ i, i < m → Nat.testBit ((2 ^ m - 1) ^^^ A) i = !Nat.testBit A i := fun i hi => tb_xo m (by omega) A (by omega) hA' i hi
  have fr : ∀ i, i < m → Nat.testBit ((2 ^ m - 1) ^^^ A) i = true → 0 ≤ fV m G ((2 ^ m - 1) ^^^ A) i ∧ fV m G ((2 ^ m - 1) ^^^ A) i ≤ 220000000 := fun i hi h => fV_r hX.1.1 a4.2.2.1 hi h
  have eF : mnB 1073741824 (Nat.testBit ((2 ^ m - 1) ^^^ A)) (fV m G ((2 ^ m - 1) ^^^ A)) m = cF m G ((2 ^ m - 1) ^^^ A) := by
    rw [cF_s m8 a4.2.2.1 n0]
    refine mnB_co (bit_ex a4.2.2.1 n0) (fun i hi h => ?_) (fun i hi h => ⟨i, hi, h, rfl⟩) (fun i hi h => ⟨i, hi, h, rfl⟩)
    have := fr i hi h
    exact ⟨by omega, by show fV m G ((2 ^ m - 1) ^^^ A) i < 1000000000; omega⟩
  have rng : ∀ k, k ≤ m → 0 ≤ mnB 1073741824 (Nat.testBit ((2 ^ m - 1) ^^^ A)) (fV m G ((2 ^ m - 1) ^^^ A)) k ∧ mnB 1073741824 (Nat.testBit ((2 ^ m - 1) ^^^ A)) (fV m G ((2 ^ m - 1) ^^^ A)) k ≤ 1073741824 := fun k hk => by
    rcases mnB_at (B := 1073741824) (P := Nat.testBit ((2 ^ m - 1) ^^^ A)) (f := fV m G ((2 ^ m - 1) ^^^ A)) k with e | ⟨i, i1, i2, e⟩
    · rw [e]
      decide
    · have := fr i (by omega) i2
      rw [e]
      omega
  have go : ∀ (N i : Nat) (τ : pm_S), i + N = m → an_GB pm_B τ → FQ [] σ τ → Ok 77 7 4 [.ref 79, .int (Int32.ofInt (A : Int)), .int (Int32.ofInt (mnB 1073741824 (Nat.testBit ((2 ^ m - 1) ^^^ A)) (fV m G ((2 ^ m - 1) ^^^ A)) i)), .int (Int32.ofInt (i : Int))] [] τ (fun r τ => r = some (.int (Int32.ofInt (cF m G ((2 ^ m - 1) ^^^ A)))) ∧ an_GB pm_B τ ∧ FQ [] σ τ) := by
    intro N
    induction N with
    | zero =>
      intro i τ hN hB F
      have X := hX.fq (FQ.up (G := []) rfl F)
      have r := rng i (by omega)
      refine fb_4 A _ i m hB ⟨by omega, by omega, by omega, by omega, trivial⟩ ⟨X.1.2.1, trivial⟩ ?_
      intro τ1 y1 hB1 F1 _ _ _ _
      refine Ok.ic rfl rfl (by omega) (by omega) (by omega) (by omega) (fun h => ?_) (fun h => ?_)
      · refine fb_21 A _ i hB1 ⟨by omega, by omega, by omega, trivial⟩ ?_
        intro τ2 y2 hB2 F2 _ _ _ _
        refine ⟨?_, hB2, F.tr (FQ.tr F1 F2)⟩
        rw [show i = m by omega, eF]
      · exfalso
        have h : (i : Int) < (m : Int) := h
        omega
    | succ N ih =>
      intro i τ hN hB F
      have X := hX.fq (FQ.up (G := []) rfl F)
      have hi : i < m := by omega
      have r := rng i (by omega)
      refine fb_4 A _ i m hB ⟨by omega, by omega, by omega, by omega, trivial⟩ ⟨X.1.2.1, trivial⟩ ?_
      intro τ1 y1 hB1 F1 _ _ _ _
      refine Ok.ic rfl rfl (by omega) (by omega) (by omega) (by omega) (fun h => ?_) (fun h => ?_)
      · exfalso
        have h : (m : Int) ≤ (i : Int) := h
        omega
      · refine fb_8 A _ i hB1 ⟨by omega, by omega, by omega, trivial⟩ ?_ ?_
        · intro τ2 y2 hB2 F2 f2 _ d2 _
          have hb : Nat.testBit A i = false := bitF (x := (A : Int)) (i := (i : Int)) ⟨by omega, by omega⟩ ⟨by omega, by omega⟩ d2.1 d2.2.1 (by omega)
          have G2 : FQ [] σ τ2 := F.tr (FQ.tr F1 F2)
          have bh := beh m8 hA' hi hb
          have tb := bh.2.2.2.1
          have vr := fr i hi tb
          refine Ok.cv rfl rfl rfl rfl rfl rfl rfl ?_
          refine (x_cwn (hX.fq (FQ.up (G := []) rfl G2)) hB2 hA' hi hb ((congrArg Int32.toInt (G2 83 _ rfl)).trans (hK _ bh.2.1 bh.1))).use (by decide) (fun r3 τ3 q3 => ?_)
          obtain ⟨rfl, hB3, F3⟩ := q3
          refine fb_17 A _ i (fV m G ((2 ^ m - 1) ^^^ A) i) hB3 ⟨by omega, by omega, by omega, by omega, trivial⟩ ?_
          intro τ4 y4 hB4 F4 f4 _ d4 _
          have e4 : y4 4 = mnB 1073741824 (Nat.testBit ((2 ^ m - 1) ^^^ A)) (fV m G ((2 ^ m - 1) ^^^ A)) (i + 1) := by
            rw [mnB_y tb]
            exact zbM (by omega) (by omega) d4.1
          rw [e4]
          exact ih (i + 1) τ4 (by omega) hB4 (G2.tr (FQ.tr F3 F4))
        · intro τ2 y2 hB2 F2 f2 _ d2 _
          have hb : Nat.testBit A i = true := bitT (x := (A : Int)) (i := (i : Int)) ⟨by omega, by omega⟩ ⟨by omega, by omega⟩ d2.1 d2.2.1 (by omega)
          have tb : Nat.testBit ((2 ^ m - 1) ^^^ A) i = false := by rw [tbq i hi, hb]; rfl
          rw [← mnB_n (f := fV m G ((2 ^ m - 1) ^^^ A)) (B := 1073741824) tb]
          exact ih (i + 1) τ2 (by omega) hB2 (F.tr (FQ.tr F1 F2))
  refine Sp.at rfl rfl ?_
  refine fb_0 A _ _ rfl rfl hB ⟨by omega, trivial⟩ ?_
  intro τ y hB1 F1 _ _ _ _
  exact go m 0 τ (by omega) hB1 F1
/-- the first of the least -/
theorem x_fol {σ : pm_S} (hX : fG σ m l G) (hB : an_GB pm_B σ) (hK : ∀ B, B < 2 ^ m → sI σ 83 B = cF m G ((2 ^ m - 1) ^^^ B)) {A : Nat} (hA : A < 2 ^ m) (he : ∃ j, j < m ∧ cPq m G ((2 ^ m - 1) ^^^ A) j = true) : Sp 80 7 [.ref 79, .int (Int32.ofInt (A : Int))] σ (fun r τ => r = some (.int (Int32.ofInt ((sF (cPq m G ((2 ^ m - 1) ^^^ A)) m 0 : Nat) : Int))) ∧ an_GB pm_B τ ∧ FQ [] σ τ) := by
  have m8 := hX.1.1.1
  have h256 := p256 m8
  have a4 := pcn_xo m (by omega) A (by omega) hA
  have tbq : ∀ i, i < m → Nat.testBit ((2 ^ m - 1) ^^^ A) i = !Nat.testBit A i := fun i hi => tb_xo m (by omega) A (by omega) hA i hi
  have go : ∀ (N i : Nat) (τ : pm_S), i + N = m → sF (cPq m G ((2 ^ m - 1) ^^^ A)) N i = sF (cPq m G ((2 ^ m - 1) ^^^ A)) m 0 → (∃ j, i ≤ j ∧ j < m ∧ cPq m G ((2 ^ m - 1) ^^^ A) j = true) → an_GB pm_B τ → FQ [] σ τ → Ok 80 7 2 [.ref 79, .int (Int32.ofInt (A : Int)), .int (Int32.ofInt (i : Int))] [] τ (fun r τ => r = some (.int (Int32.ofInt ((sF (cPq m G ((2 ^ m - 1) ^^^ A)) m 0 : Nat) : Int))) ∧ an_GB pm_B τ ∧ FQ [] σ τ) := by
    intro N
    induction N with
    | zero =>
      intro i τ hN hs he hB F
      obtain ⟨j, h1, h2, _⟩ := he
      exfalso
      omega
    | succ N ih =>
      intro i τ hN hs he hB F
      have X := hX.fq (FQ.up (G := []) rfl F)
      have hi : i < m := by omega
      have next : cPq m G ((2 ^ m - 1) ^^^ A) i = false → ∀ τ2 : pm_S, an_GB pm_B τ2 → FQ [] σ τ2 → Ok 80 7 2 [.ref 79, .int (Int32.ofInt (A : Int)), .int (Int32.ofInt ((i : Int) + 1))] [] τ2 (fun r τ => r = some (.int (Int32.ofInt ((sF (cPq m G ((2 ^ m - 1) ^^^ A)) m 0 : Nat) : Int))) ∧ an_GB pm_B τ ∧ FQ [] σ τ) := by
        intro hc τ2 hB2 F2
        refine ih (i + 1) τ2 (by omega) ((show sF (cPq m G ((2 ^ m - 1) ^^^ A)) (N + 1) i = sF (cPq m G ((2 ^ m - 1) ^^^ A)) N (i + 1) from if_neg (by rw [hc]; decide)).symm.trans hs) ?_ hB2 F2
        obtain ⟨j, h1, h2, h3⟩ := he
        have ne : j ≠ i := fun z => by rw [z, hc] at h3; cases h3
        exact ⟨j, by omega, h2, h3⟩
      refine fd_2 A i m hB ⟨by omega, by omega, by omega, trivial⟩ ⟨X.1.2.1, trivial⟩ ?_
      intro τ1 y1 hB1 F1 _ _ _ _
      refine Ok.ic rfl rfl (by omega) (by omega) (by omega) (by omega) (fun h => ?_) (fun h => ?_)
      · exfalso
        have h : (m : Int) ≤ (i : Int) := h
        omega
      · refine fd_6 A i hB1 ⟨by omega, by omega, trivial⟩ ?_ ?_
        · intro τ2 y2 hB2 F2 f2 _ d2 _
          have hb : Nat.testBit A i = false := bitF (x := (A : Int)) (i := (i : Int)) ⟨by omega, by omega⟩ ⟨by omega, by omega⟩ d2.1 d2.2.1 (by omega)
          have G2 : FQ [] σ τ2 := F.tr (FQ.tr F1 F2)
          have bh := beh m8 hA hi hb
          have tb := bh.2.2.2.1
          have vr := fV_r hX.1.1 a4.2.2.1 hi tb
          have cr := cF_b m8 hX.1.1.2 (pcn 10 ((2 ^ m - 1) ^^^ A)) _ rfl a4.2.2.1
          have p10 := pcn_10 ((2 ^ m - 1) ^^^ A) (by omega)
          refine Ok.cv rfl rfl rfl rfl rfl rfl rfl ?_
          refine (x_cwn (hX.fq (FQ.up (G := []) rfl G2)) hB2 hA hi hb ((congrArg Int32.toInt (G2 83 _ rfl)).trans (hK _ bh.1))).use (by decide) (fun r3 τ3 q3 => ?_)
          obtain ⟨rfl, hB3, F3⟩ := q3
          have G3 : FQ [] σ τ3 := G2.tr F3
          refine fd_14 A i (fV m G ((2 ^ m - 1) ^^^ A) i) (cF m G ((2 ^ m - 1) ^^^ A)) hB3 ⟨by omega, by omega, by omega, by omega, trivial⟩ ⟨(congrArg Int32.toInt (G3 83 _ rfl)).trans (hK _ hA), trivial⟩ ?_
          intro τ4 y4 hB4 F4 _ _ _ _
          refine Ok.ic rfl rfl (by omega) (by omega) (by omega) (by omega) (fun h => ?_) (fun h => ?_)
          · have h : fV m G ((2 ^ m - 1) ^^^ A) i ≠ cF m G ((2 ^ m - 1) ^^^ A) := h
            refine fd_21 A i hB4 ⟨by omega, by omega, trivial⟩ ?_
            intro τ5 y5 hB5 F5 _ _ _ _
            refine next ?_ τ5 hB5 (G3.tr (FQ.tr F4 F5))
            unfold cPq
            rw [tb, Bool.true_and]
            exact decide_eq_false h
          · have h : fV m G ((2 ^ m - 1) ^^^ A) i = cF m G ((2 ^ m - 1) ^^^ A) := h
            have hc : cPq m G ((2 ^ m - 1) ^^^ A) i = true := by
              unfold cPq
              rw [tb, Bool.true_and]
              exact decide_eq_true h
            refine fd_19 A i hB4 ⟨by omega, by omega, trivial⟩ ?_
            intro τ5 y5 hB5 F5 _ _ _ _
            refine ⟨?_, hB5, G3.tr (FQ.tr F4 F5)⟩
            rw [← hs, show sF (cPq m G ((2 ^ m - 1) ^^^ A)) (N + 1) i = i from if_pos hc]
        · intro τ2 y2 hB2 F2 f2 _ d2 _
          have hb : Nat.testBit A i = true := bitT (x := (A : Int)) (i := (i : Int)) ⟨by omega, by omega⟩ ⟨by omega, by omega⟩ d2.1 d2.2.1 (by omega)
          refine next ?_ τ2 hB2 (F.tr (FQ.tr F1 F2))
          unfold cPq
          rw [tbq i hi, hb]
          rfl
  refine Sp.at rfl rfl ?_
  refine fd_0 A _ rfl hB ⟨by omega, trivial⟩ ?_
  intro τ y hB1 F1 _ _ _ _
  obtain ⟨j, j1, j2⟩ := he
  exact go m 0 τ (by omega) rfl ⟨j, Nat.zero_le _, j1, j2⟩ hB1 F1
end FCX
