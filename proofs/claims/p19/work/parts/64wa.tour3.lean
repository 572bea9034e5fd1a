/-! the class's tour: the table, the answer -/
theorem mnB_b {B : Int} {P : Nat → Bool} {f : Nat → Int} (hB : 0 ≤ B) : ∀ k, (∀ i, i < k → P i = true → 0 ≤ f i) → 0 ≤ mnB B P f k ∧ mnB B P f k ≤ B
  | 0, _ => ⟨hB, Int.le_refl _⟩
  | k + 1, h => by
    have ih := mnB_b hB k (fun i hi => h i (by omega))
    unfold mnB
    by_cases hp : P k = true
    · have := h k (by omega) hp
      rw [if_pos hp]
      omega
    · rw [if_neg hp]
      exact ih
theorem mnB_t {B : Int} {P : Nat → Bool} {f : Nat → Int} {k : Nat} (h : P k = true) : mnB B P f (k + 1) = min (mnB B P f k) (f k) := if_pos h
theorem mnB_f {B : Int} {P : Nat → Bool} {f : Nat → Int} {k : Nat} (h : P k = false) : mnB B P f (k + 1) = mnB B P f k := if_neg (by rw [h]; decide)
theorem img_0 {st : Nat → Nat} : ∀ n, img st n 0 = 0
  | 0 => rfl
  | n + 1 => by
    show img st n 0 ||| (if Nat.testBit 0 n then 2 ^ st n else 0) = 0
    rw [img_0 n, Nat.zero_testBit, if_neg (by decide)]
    rfl
theorem bt5 : ∀ m, m < 1024 → (an_f 4 (Int32.ofInt (m : Nat)) (Int32.ofInt 0)).toInt = (m : Int) := by decide +kernel
section TOUR
variable {W : Nat → Nat → Int} {fr N n : Nat} {st : Nat → Nat}
theorem On_img_b (hN : N ≤ 10) (hW : ∀ a b, 0 ≤ W a b ∧ W a b ≤ 99) (hs : ∀ i, i < n → st i < N) (b s : Nat) : 0 ≤ On W fr N (img st n b) s ∧ On W fr N (img st n b) s ≤ 110000 := by
  have i1 : img st n b < 2 ^ N := img_lt st hs
  have p10 : 2 ^ N ≤ 1024 := Nat.pow_le_pow_right (by decide) hN
  have := On_b W fr N hN hW 1024 (img st n b) (by omega) (by omega) i1 s
  omega
set_option maxRecDepth 20000 in
theorem x_fTo {σ : pm_S} (l b : Nat) (hB : an_GB pm_B σ) (hN : N ≤ 10) (hW : ∀ a b, 0 ≤ W a b ∧ W a b ≤ 99) (hWs : ∀ a c, W a c = W c a) (inj : ∀ i j, i < n → j < n → st i = st j → i = j) (hs : ∀ i, i < n → st i < N) (hn : n ≤ 9) (hl : l < n) (hb : b < 2 ^ n) (hbl : Nat.testBit b l = false) (h85 : (σ.1 85 1).toInt = (n : Int)) (h88 : (σ.1 88 l).toInt = W fr (st l)) (h87 : ∀ i, i < n → i ≠ l → (σ.1 87 (l * 9 + i)).toInt = W (st l) (st i)) (h89 : ∀ i, i < n → Nat.testBit b i = true → (σ.1 89 (b * 9 + i)).toInt = On W fr N (img st n (b ^^^ 2 ^ i)) (st i)) : Sp 107 9 [.ref 85, .int (Int32.ofInt l), .int (Int32.ofInt b)] σ (fun r τ => r = some (.int (Int32.ofInt (On W fr N (img st n b) (st l)))) ∧ an_GB pm_B τ ∧ FQ [] σ τ) := by
  have p9 : 2 ^ n ≤ 512 := Nat.pow_le_pow_right (by decide) hn
  refine Sp.at rfl rfl ?_
  refine su_f0 l b _ _ rfl rfl hB ⟨by omega, by omega, trivial⟩ ?_ ?_
  · intro τ0 y0 hB0 F0 f0 _ _ _
    have hb0 := f0.2.1
    have fb : ∀ i, i < n → Nat.testBit b i = true → (σ.1 87 (l * 9 + i)).toInt = W (st l) (st i) ∧ 0 ≤ (σ.1 89 (b * 9 + i)).toInt + (σ.1 87 (l * 9 + i)).toInt ∧ (σ.1 89 (b * 9 + i)).toInt + (σ.1 87 (l * 9 + i)).toInt ≤ 200000 ∧ (σ.1 89 (b * 9 + i)).toInt ≤ 200000 ∧ 0 ≤ (σ.1 89 (b * 9 + i)).toInt := fun i hi hbi => by
      have ne : i ≠ l := fun z => by rw [z, hbl] at hbi; cases hbi
      have a := h87 i hi ne
      have c := h89 i hi hbi
      have w := hW (st l) (st i)
      have d := On_img_b (fr := fr) hN hW hs (b ^^^ 2 ^ i) (st i)
      exact ⟨a, by omega, by omega, by omega, by omega⟩
    refine Ok.loop (fun i L τ => 0 ≤ i ∧ i ≤ n ∧ L = [.ref 85, .int (Int32.ofInt l), .int (Int32.ofInt b), .int (Int32.ofInt (mnB 1073741824 (fun i => Nat.testBit b i) (fun i => (σ.1 89 (b * 9 + i)).toInt + (σ.1 87 (l * 9 + i)).toInt) i.toNat)), .int (Int32.ofInt i)] ∧ an_GB pm_B τ ∧ FQ [] σ τ) n (fun i L τ h => h.2.1) ?_ 0 _ τ0 ⟨by decide, by omega, rfl, hB0, F0⟩
    rintro i L τ ⟨i0, i1, rfl, hB1, F1⟩ ih
    have mb := mnB_b (B := 1073741824) (P := fun i => Nat.testBit b i) (f := fun i => (σ.1 89 (b * 9 + i)).toInt + (σ.1 87 (l * 9 + i)).toInt) (by decide) i.toNat (fun j hj hbj => (fb j (by omega) hbj).2.1)
    generalize hmn : mnB 1073741824 (fun i => Nat.testBit b i) (fun i => (σ.1 89 (b * 9 + i)).toInt + (σ.1 87 (l * 9 + i)).toInt) i.toNat = mn at mb
    refine su_f11 l b mn i n hB1 ⟨by omega, by omega, by omega, by omega, by omega, trivial⟩ ⟨(congrArg Int32.toInt (F1 85 1 rfl)).trans h85, trivial⟩ ?_
    intro τ2 y2 hB2 F2 _ _ _ _
    have G2 : FQ [] σ τ2 := FQ.tr F1 F2
    refine Ok.ic rfl rfl (by omega) (by omega) (by omega) (by omega) (fun z => ?_) (fun z => ?_)
    · have z : (n : Int) ≤ i := z
      refine su_f44 l b mn i hB2 ⟨by omega, by omega, by omega, by omega, trivial⟩ ?_
      intro τ3 y3 hB3 F3 _ _ _ _
      refine ⟨?_, hB3, FQ.tr G2 F3⟩
      have e : i.toNat = n := by omega
      rw [← hmn, e, stepF st hN hW inj hs (by decide) (by omega) hb (fun j hj hbj => by rw [h89 j hj hbj, (fb j hj hbj).1])]
    · have z : i < (n : Int) := z
      have e1 : (i + 1).toNat = i.toNat + 1 := by omega
      refine su_f15 l b mn i hB2 ⟨by omega, by omega, by omega, by omega, trivial⟩ ?_ ?_
      · intro τ3 y3 hB3 F3 f _ d _
        have bf := bitF (x := (b : Int)) (by omega) (by omega) d.1 d.2.1 f.2.2.2.2.2.1.2
        rw [Int.toNat_natCast] at bf
        refine ih _ τ3 ⟨by omega, by omega, ?_, hB3, FQ.tr G2 F3⟩
        rw [e1, mnB_f bf, hmn]
      · intro τ3 y3 hB3 F3 f _ d c
        have bt := bitT (x := (b : Int)) (by omega) (by omega) d.1 d.2.1 f.2.2.2.2.2.1.1
        rw [Int.toNat_natCast] at bt
        have fi := fb i.toNat (by omega) bt
        have a6 := mulC (by omega) (by omega) d.2.2.1
        have a7 := addC (by omega) (by omega) d.2.2.2.1
        have a9 := mulC (by omega) (by omega) d.2.2.2.2.1
        have a10 := addC (by omega) (by omega) d.2.2.2.2.2.1
        have x7 : (y3 7).toNat = b * 9 + i.toNat := by omega
        have x10 : (y3 10).toNat = l * 9 + i.toNat := by omega
        have c11 := c.1
        have c8 := c.2.1
        rw [x10, F3 87 _ rfl, G2 87 _ rfl] at c11
        rw [x7, F3 89 _ rfl, G2 89 _ rfl] at c8
        have w := hW (st l) (st i.toNat)
        have a12 := addC (by omega) (by omega) d.2.2.2.2.2.2.1
        have a13 := minC (by omega) (by omega) d.2.2.2.2.2.2.2.1
        refine ih _ τ3 ⟨by omega, by omega, ?_, hB3, FQ.tr G2 F3⟩
        rw [e1, mnB_t bt, hmn, a13, a12, ← c8, ← c11]
  · intro τ0 y0 hB0 F0 f0 _ _ c0
    have hb0 := f0.2.1
    have e : b = 0 := by omega
    refine ⟨?_, hB0, F0⟩
    have c := c0.1
    rw [Int.toNat_natCast, F0 88 _ rfl, h88] at c
    rw [← c, e, img_0, On_0, hWs]
/-- what stands behind prepare -/
def LFQ (τ : pm_S) (W : Nat → Nat → Int) (fr n : Nat) (st : Nat → Nat) : Prop := ∀ i, i < n → (τ.1 88 i).toInt = W fr (st i) ∧ ∀ j, j < n → j ≠ i → (τ.1 87 (i * 9 + j)).toInt = W (st i) (st j)
theorem LFQ.fm {σ τ : pm_S} (G : List (Nat × Nat)) (h1 : an_inP G 87 = false) (h2 : an_inP G 88 = false) (hF : FQ G σ τ) (h : LFQ σ W fr n st) : LFQ τ W fr n st := fun i hi => ⟨by rw [hF 88 i (an_inP_ok h2 i)]; exact (h i hi).1, fun j hj hne => by rw [hF 87 _ (an_inP_ok h1 _)]; exact (h i hi).2 j hj hne⟩
def TBQ (τ : pm_S) (W : Nat → Nat → Int) (fr N n : Nat) (st : Nat → Nat) (bm : Nat) : Prop := ∀ b, 1 ≤ b → b < bm → ∀ l, l < n → Nat.testBit b l = true → (τ.1 89 (b * 9 + l)).toInt = On W fr N (img st n (b ^^^ 2 ^ l)) (st l)
theorem TBQ.fm {σ τ : pm_S} {bm : Nat} (G : List (Nat × Nat)) (h1 : an_inP G 89 = false) (hF : FQ G σ τ) (h : TBQ σ W fr N n st bm) : TBQ τ W fr N n st bm := fun b h1' h2 l hl hb => by rw [hF 89 _ (an_inP_ok h1 _)]; exact h b h1' h2 l hl hb
abbrev FPr : List (Nat × Nat) := [(85, 1), (86, 9999), (87, 9999), (88, 9999), (89, 9999)]
set_option maxRecDepth 20000 in
theorem x_table {σ : pm_S} {Q : Option Value → pm_S → Prop} (f m : Int) (hf : 0 ≤ f ∧ f ≤ 9) (hm : 0 ≤ m ∧ m ≤ 1023) (hN : N ≤ 10) (hW : ∀ a b, 0 ≤ W a b ∧ W a b ≤ 99) (hWs : ∀ a c, W a c = W c a) (inj : ∀ i j, i < n → j < n → st i = st j → i = j) (hs : ∀ i, i < n → st i < N) (hn : n ≤ 9)
    (ex : ∀ τ : pm_S, an_GB pm_B τ → FQ FPr σ τ → SQ τ n st → LFQ τ W fr n st → TBQ τ W fr N n st (2 ^ n) → Q none τ) :
    ∀ (τ0 : pm_S) (v0 : Value), v0.category = 1 → an_GB pm_B τ0 → FQ FPr σ τ0 → SQ τ0 n st → LFQ τ0 W fr n st → Ok 105 21 41 [.ref 85, .int (Int32.ofInt f), .int (Int32.ofInt m), .int (Int32.ofInt 1), v0] [] τ0 Q := by
  intro τ0 v0 hv0 hB0 F0 q0 l0
  have p9 : 2 ^ n ≤ 512 := Nat.pow_le_pow_right (by decide) hn
  have p0 : 0 < 2 ^ n := Nat.two_pow_pos n
  refine Ok.loop (fun b L τ => 1 ≤ b ∧ b ≤ ((2 ^ n : Nat) : Int) ∧ (∃ v : Value, v.category = 1 ∧ L = [.ref 85, .int (Int32.ofInt f), .int (Int32.ofInt m), .int (Int32.ofInt b), v]) ∧ an_GB pm_B τ ∧ FQ FPr σ τ ∧ SQ τ n st ∧ LFQ τ W fr n st ∧ TBQ τ W fr N n st b.toNat) ((2 ^ n : Nat) : Int) (fun i L τ h => h.2.1) ?_ 1 _ τ0 ⟨by decide, by omega, ⟨v0, hv0, rfl⟩, hB0, F0, q0, l0, fun b h1 h2 => absurd (show b < 1 from h2) (by omega)⟩
  rintro b L τ ⟨b0, b1, ⟨v, hv, rfl⟩, hB1, F1, q1, l1, t1⟩ ih
  refine su_p41 f m b n v hv hB1 ⟨hf, hm, by omega, by omega, trivial⟩ ⟨q1.1, trivial⟩ ?_
  intro τ2 y2 v2 hv2 hB2 F2 f2 _ d2 _
  have G2 : FQ FPr σ τ2 := FQ.tr F1 (FQ.up (G := []) rfl F2)
  have e4 := shlI (by omega) d2.1
  rw [Int.toNat_natCast] at e4
  have q2 := SQ.fr [] rfl rfl F2 q1
  have l2 := LFQ.fm [] rfl rfl F2 l1
  have t2 := TBQ.fm [] rfl F2 t1
  refine Ok.ic rfl rfl (by omega) (by omega) (by omega) (by omega) (fun z => ?_) (fun z => ?_)
  · have z : y2 4 ≤ b := z
    refine su_p79 f m b v2 hv2 hB2 ⟨hf, hm, by omega, trivial⟩ ?_
    intro τ3 y3 hB3 F3 _ _ _ _
    have e : b.toNat = 2 ^ n := by omega
    rw [e] at t2
    exact ex τ3 hB3 (FQ.tr G2 (FQ.up (G := []) rfl F3)) (SQ.fr [] rfl rfl F3 q2) (LFQ.fm [] rfl rfl F3 l2) (TBQ.fm [] rfl F3 t2)
  · have z : b < y2 4 := z
    refine su_p47 f m b v2 hv2 hB2 ⟨hf, hm, by omega, trivial⟩ ?_
    intro τ3 y3 hB3 F3 _ _ _ _
    refine Ok.loop (fun l L τ => 0 ≤ l ∧ l ≤ n ∧ L = [.ref 85, .int (Int32.ofInt f), .int (Int32.ofInt m), .int (Int32.ofInt b), .int (Int32.ofInt l)] ∧ an_GB pm_B τ ∧ FQ FPr σ τ ∧ SQ τ n st ∧ LFQ τ W fr n st ∧ TBQ τ W fr N n st b.toNat ∧ ∀ l', l' < l.toNat → Nat.testBit b.toNat l' = true → (τ.1 89 (b.toNat * 9 + l')).toInt = On W fr N (img st n (b.toNat ^^^ 2 ^ l')) (st l')) n (fun i L τ h => h.2.1) ?_ 0 _ τ3 ⟨by decide, by omega, rfl, hB3, FQ.tr G2 (FQ.up (G := []) rfl F3), SQ.fr [] rfl rfl F3 q2, LFQ.fm [] rfl rfl F3 l2, TBQ.fm [] rfl F3 t2, fun l' h => absurd h (Nat.not_lt_zero _)⟩
    rintro l L τ ⟨i0, i1, rfl, hB4, F4, q4, l4, t4, r4⟩ jh
    refine su_p49 f m b l n hB4 ⟨hf, hm, by omega, by omega, by omega, trivial⟩ ⟨q4.1, trivial⟩ ?_
    intro τ5 y5 hB5 F5 _ _ _ _
    have G5 : FQ FPr σ τ5 := FQ.tr F4 (FQ.up (G := []) rfl F5)
    have q5 := SQ.fr [] rfl rfl F5 q4
    have l5 := LFQ.fm [] rfl rfl F5 l4
    have t5 := TBQ.fm [] rfl F5 t4
    refine Ok.ic rfl rfl (by omega) (by omega) (by omega) (by omega) (fun w => ?_) (fun w => ?_)
    · have w : (n : Int) ≤ l := w
      refine su_p77 f m b l hB5 ⟨hf, hm, by omega, by omega, trivial⟩ ?_
      intro τ6 y6 hB6 F6 _ _ _ _
      refine ih _ τ6 ⟨by omega, by omega, ⟨_, rfl, rfl⟩, hB6, FQ.tr G5 (FQ.up (G := []) rfl F6), SQ.fr [] rfl rfl F6 q5, LFQ.fm [] rfl rfl F6 l5, fun b' h1 h2 l' hl hb => ?_⟩
      by_cases e : b' < b.toNat
      · exact TBQ.fm [] rfl F6 t5 b' h1 e l' hl hb
      · have e : b' = b.toNat := by omega
        subst e
        rw [F6 89 _ rfl, F5 89 _ rfl]
        exact r4 l' (by omega) hb
    · have w : l < (n : Int) := w
      refine su_p53 f m b l hB5 ⟨hf, hm, by omega, by omega, trivial⟩ ?_ ?_
      · intro τ6 y6 hB6 F6 g6 _ d6 _
        have bf := bitF (by omega) (by omega) d6.1 d6.2.1 g6.2.2.2.2.2.1.2
        refine su_p75 f m b l hB6 ⟨hf, hm, by omega, by omega, trivial⟩ ?_
        intro τ7 y7 hB7 F7 _ _ _ _
        refine jh _ τ7 ⟨by omega, by omega, rfl, hB7, FQ.tr G5 (FQ.up (G := []) rfl (FQ.tr F6 F7)), SQ.fr [] rfl rfl (FQ.tr F6 F7) q5, LFQ.fm [] rfl rfl (FQ.tr F6 F7) l5, TBQ.fm [] rfl (FQ.tr F6 F7) t5, fun l' hl hb => ?_⟩
        have ne : l' ≠ l.toNat := fun e => by rw [e, bf] at hb; cases hb
        rw [F7 89 _ rfl, F6 89 _ rfl, F5 89 _ rfl]
        exact r4 l' (by omega) hb
      · intro τ6 y6 hB6 F6 g6 _ d6 _
        have bt := bitT (by omega) (by omega) d6.1 d6.2.1 g6.2.2.2.2.2.1.1
        have a6 := mulC (by omega) (by omega) d6.2.2.1
        have a7 := addC (by omega) (by omega) d6.2.2.2.1
        have ac := clrI (by omega) (by omega) d6.2.2.2.2.1 d6.2.2.2.2.2.1 d6.2.2.2.2.2.2.1
        rw [if_pos bt] at ac
        have G6 : FQ FPr σ τ6 := FQ.tr G5 (FQ.up (G := []) rfl F6)
        have q6 := SQ.fr [] rfl rfl F6 q5
        have l6 := LFQ.fm [] rfl rfl F6 l5
        have t6 := TBQ.fm [] rfl F6 t5
        have x2 := x2p b.toNat (by omega) l.toNat (by omega) bt
        have el : l = ((l.toNat : Nat) : Int) := by omega
        have x7 : y6 7 = b * 9 + l := by omega
        rw [ac, x7]
        refine Ok.cv rfl rfl rfl rfl rfl rfl rfl ?_
        have z2 : 0 < 2 ^ l.toNat := Nat.two_pow_pos _
        have tx : ∀ j, Nat.testBit (b.toNat ^^^ 2 ^ l.toNat) j = true ↔ Nat.testBit b.toNat j = true ∧ j ≠ l.toNat := fun j => tb_x bt
        have call := x_fTo (σ := τ6) (W := W) (fr := fr) (N := N) (n := n) (st := st) l.toNat (b.toNat ^^^ 2 ^ l.toNat) hB6 hN hW hWs inj hs hn (by omega) (by omega) (by
          cases e : Nat.testBit (b.toNat ^^^ 2 ^ l.toNat) l.toNat with
          | false => rfl
          | true => exact absurd rfl ((tx l.toNat).mp e).2) q6.1 (l6 l.toNat (by omega)).1 (fun i hi hne => (l6 l.toNat (by omega)).2 i hi hne) (fun i hi hbi => t6 _ (by
            cases hz : (b.toNat ^^^ 2 ^ l.toNat) with
            | zero => rw [hz, Nat.zero_testBit] at hbi; cases hbi
            | succ k => omega) (by omega) i hi hbi)
        rw [← el] at call
        refine call.use (by decide) (fun r τ7 q => ?_)
        obtain ⟨rfl, hB7, F7⟩ := q
        refine Ok.ast (n := 4608) rfl rfl rfl (by decide) (by omega) (by omega) ?_
        have hB8 : an_GB pm_B (put τ7 89 (b * 9 + l).toNat (Int32.ofInt (On W fr N (img st n (b.toNat ^^^ 2 ^ l.toNat)) (st l.toNat)))) := put_GB hB7 (ai_rng _)
        refine su_p75 f m b l hB8 ⟨hf, hm, by omega, by omega, trivial⟩ ?_
        intro τ9 y9 hB9 F9 _ _ _ _
        have ix : (b * 9 + l).toNat = b.toNat * 9 + l.toNat := by omega
        have ob := On_img_b (fr := fr) hN hW hs (b.toNat ^^^ 2 ^ l.toNat) (st l.toNat)
        have G9 : FQ [(89, 9999)] τ6 τ9 := FQ.tr (FQ.up (G := []) rfl F7) (FQ.tr (FQ.put rfl) (FQ.up (G := []) rfl F9))
        refine jh _ τ9 ⟨by omega, by omega, rfl, hB9, FQ.tr G6 (FQ.up (G := [(89, 9999)]) rfl G9), SQ.fr [(89, 9999)] rfl rfl G9 q6, LFQ.fm [(89, 9999)] rfl rfl G9 l6, fun b' h1 h2 l' hl hb => ?_, fun l' hl hb => ?_⟩
        · rw [F9 89 _ rfl, put_nj (by omega), F7 89 _ rfl]
          exact t6 b' h1 h2 l' hl hb
        · rw [F9 89 _ rfl, put_get, ix]
          by_cases e : l' = l.toNat
          · rw [if_pos ⟨rfl, by rw [e]⟩, e, ti_of (by omega) (by omega)]
          · rw [if_neg (fun q => e (by omega)), F7 89 _ rfl, F6 89 _ rfl, F5 89 _ rfl]
            exact r4 l' (by omega) hb
end TOUR
