/-! wrong: the class's least -/
theorem wr_o1 : ∀ s : Nat, s < 32 → 0 < s → (an_f 3 (Int32.ofInt (s : Int)) (an_f 5 (an_f 3 (Int32.ofInt (s : Int)) (an_f 15 (Int32.ofInt (s : Int)) (Int32.ofInt 0))) (Int32.ofInt (-1)))).toInt = ((s &&& (s - 1) : Nat) : Int) := by decide +kernel
theorem wr_o2 : ∀ s : Nat, s < 32 → ∀ l : Nat, l < 32 → (an_f 3 (Int32.ofInt (s : Int)) (an_f 5 (Int32.ofInt (l : Int)) (Int32.ofInt (-1)))).toInt = ((s ^^^ (s &&& l) : Nat) : Int) := by decide +kernel
section WRF
variable {dy wh ot pl : Nat → Int} {D : Int}
abbrev wr_T (dy wh ot pl : Nat → Int) (D : Int) (st : Nat → Int) (N : Nat) (V : Nat → Int) (s left : Nat) : Int := wr_X (wr_A dy ot D) (wr_B dy ot D) (wr_w st wh) (wr_w st ot) (wr_q pl) N V s left
theorem wr_M_0 {A : Nat → Bool} {w o : Nat → Nat} {n g : Nat} : wr_M A w o n g 0 = 0 := wr_s_z (fun l _ => by
  rw [Nat.zero_testBit, Nat.zero_testBit, Bool.and_false, Bool.and_false, Bool.or_false, Bool.and_false]
  rfl)
theorem wr_W_b {A : Nat → Bool} {w q : Nat → Nat} {n g : Nat} (hn : n ≤ 30) : 0 ≤ wr_W A w q n g ∧ wr_W A w q n g ≤ 30 := by
  have a1 := wr_s_n (F := fun l => wr_b (A l && Nat.testBit g (w l))) (n := n) (fun l _ => (wr_b_r _).2)
  have bt : ∀ c, wr_ty A w q n g c ≤ wr_al A w n g := fun c => wr_s_le (fun l _ => by
    cases A l && Nat.testBit g (w l) <;> cases Nat.beq (q l) c <;> decide)
  have b0 : 0 ≤ wr_ty A w q n g 0 := wr_ty_0 g 0
  have m0 : wr_ty A w q n g 0 ≤ wr_mx (wr_ty A w q n g) 10 := wr_mx_ge (by decide)
  have a2 : wr_al A w n g ≤ (n : Int) := a1
  have b1 := bt 0
  unfold wr_W
  rcases wr_mx_at (f := wr_ty A w q n g) 10 with e | ⟨c, -, e⟩
  · omega
  · have := bt c
    omega
theorem wr_sub_lt {s left : Nat} (hs : s < 32) (h0 : 0 < s) (h : sbs left (s &&& (s - 1))) : left < s := by
  obtain ⟨b, -, -, -, hlt⟩ := wr_lw s hs h0
  have e := sbs_and h
  have l2 : left &&& (s &&& (s - 1)) ≤ s &&& (s - 1) := Nat.and_le_right
  omega
theorem wr_sub_s {s left : Nat} (h : sbs left (s &&& (s - 1))) : s &&& left = left := Nat.eq_of_testBit_eq (fun t => by
  rw [Nat.testBit_and]
  cases e : Nat.testBit left t with
  | false => exact Bool.and_false _
  | true =>
    have := h t e
    rw [Nat.testBit_and, Bool.and_eq_true] at this
    rw [this.1]
    rfl)
set_option maxRecDepth 20000 in
theorem x_fos24 {σ : pm_S} (N s : Nat) (S P : Int) (st : Nat → Int) (hB : an_GB pm_B σ) (hN : N ≤ 30) (eN : (σ.1 21 0).toInt = N) (hL : wr_L dy wh ot pl N S P) (hH : wr_H σ dy wh ot D st N) (hs : s < 32) (h0 : 0 < s) (hT : ∀ g, 0 < g → g ≤ s → sI σ 29 g = wr_W (wr_A dy ot D) (wr_w st wh) (wr_q pl) N g) (hV : ∀ l, l < s → 0 ≤ sI σ 30 l ∧ sI σ 30 l ≤ 30) (hV0 : sI σ 30 0 = 0) : Sp 56 13 [.ref 21, .int (Int32.ofInt (s : Int))] σ (fun r τ => ∃ v : Int, r = some (.int (Int32.ofInt v)) ∧ v ≤ 30 ∧ (∀ left, sbs left (s &&& (s - 1)) → v ≤ wr_T dy wh ot pl D st N (sI σ 30) s left) ∧ (∃ left, sbs left (s &&& (s - 1)) ∧ v = wr_T dy wh ot pl D st N (sI σ 30) s left) ∧ an_GB pm_B τ ∧ FQ [] σ τ) := by
  obtain ⟨b, hb5, hb, hrest, hlt⟩ := wr_lw s hs h0
  have X0 : wr_T dy wh ot pl D st N (sI σ 30) s 0 = wr_W (wr_A dy ot D) (wr_w st wh) (wr_q pl) N s := by
    show wr_W _ _ _ N (s ^^^ 0) + sI σ 30 0 + wr_M _ _ _ N (s ^^^ 0) 0 = _
    rw [Nat.xor_zero, hV0, wr_M_0]
    omega
  have W0 := wr_W_b (A := wr_A dy ot D) (w := wr_w st wh) (q := wr_q pl) (g := s) hN
  refine Sp.at rfl rfl ?_
  refine wzwo_0 (s : Int) _ _ _ _ _ _ rfl rfl rfl rfl rfl rfl hB ⟨by omega, trivial⟩ ?_
  intro τ0 y0 v6 v7 hv6 hv7 hB0 F0 f0 _ d0 c0
  have er : y0 4 = ((s &&& (s - 1) : Nat) : Int) := by
    rw [← wr_o1 s hs h0, ← d0.2.2.2.1, ← d0.2.2.1, oI, ← d0.2.1, oI, ← d0.1, oI]
  have e5 : y0 5 = wr_W (wr_A dy ot D) (wr_w st wh) (wr_q pl) N s := by
    rw [← c0.1, F0 29 _ rfl, Int.toNat_natCast]
    exact hT s h0 (Nat.le_refl s)
  rw [er, e5]
  -- at left: all parts above left and nothing have been tried
  have main : ∀ (m left : Nat), left ≤ m → sbs left (s &&& (s - 1)) → ∀ (τ : pm_S) (v : Int) (v6 v7 : Value), v6.category = 1 → v7.category = 1 → an_GB pm_B τ → FQ [] σ τ → (v ≤ 30 ∧ (-1000000) ≤ v) → (∀ j, sbs j (s &&& (s - 1)) → (j = 0 ∨ left < j) → v ≤ wr_T dy wh ot pl D st N (sI σ 30) s j) → (∃ j, sbs j (s &&& (s - 1)) ∧ v = wr_T dy wh ot pl D st N (sI σ 30) s j) → Ok 56 13 18 [.ref 21, .int (Int32.ofInt (s : Int)), .int (Int32.ofInt (y0 2)), .int (Int32.ofInt ((s &&& (s - 1) : Nat) : Int)), .int (Int32.ofInt v), .int (Int32.ofInt (left : Int)), v6, v7] [] τ (fun r τ => ∃ v : Int, r = some (.int (Int32.ofInt v)) ∧ v ≤ 30 ∧ (∀ left, sbs left (s &&& (s - 1)) → v ≤ wr_T dy wh ot pl D st N (sI σ 30) s left) ∧ (∃ left, sbs left (s &&& (s - 1)) ∧ v = wr_T dy wh ot pl D st N (sI σ 30) s left) ∧ an_GB pm_B τ ∧ FQ [] σ τ) := by
    intro m
    induction m with
    | zero =>
      intro left hm hsub τ v v6 v7 h6 h7 hB1 F1 hv ha he
      have z : left = 0 := by omega
      subst z
      refine wzwo_18 (s : Int) (y0 2) ((s &&& (s - 1) : Nat) : Int) v ((0 : Nat) : Int) v6 v7 h6 h7 hB1 ⟨by omega, by omega, by omega, by omega, by omega, trivial⟩ ?_ ?_
      · intro τ2 y2 w6 w7 k6 k7 hB2 F2 _ _ _ _
        refine wzwo_52 (s : Int) (y0 2) ((s &&& (s - 1) : Nat) : Int) v ((0 : Nat) : Int) w6 w7 k6 k7 hB2 ⟨by omega, by omega, by omega, by omega, by omega, trivial⟩ ?_
        intro τ3 y3 hB3 F3 _ _ _ _
        exact ⟨v, rfl, hv.1, fun j hj => ha j hj (by omega), he, hB3, FQ.tr F1 (FQ.tr F2 F3)⟩
      · intro τ2 y2 w7 k7 hB2 F2 f2 _ _ _
        have := f2.2.2.2.2.1
        omega
    | succ m ih =>
      intro left hm hsub τ v v6 v7 h6 h7 hB1 F1 hv ha he
      have lt := wr_sub_lt hs h0 hsub
      refine wzwo_18 (s : Int) (y0 2) ((s &&& (s - 1) : Nat) : Int) v (left : Int) v6 v7 h6 h7 hB1 ⟨by omega, by omega, by omega, by omega, by omega, trivial⟩ ?_ ?_
      · intro τ2 y2 w6 w7 k6 k7 hB2 F2 f2 _ _ _
        have z := f2.2.2.2.2.1
        refine wzwo_52 (s : Int) (y0 2) ((s &&& (s - 1) : Nat) : Int) v (left : Int) w6 w7 k6 k7 hB2 ⟨by omega, by omega, by omega, by omega, by omega, trivial⟩ ?_
        intro τ3 y3 hB3 F3 _ _ _ _
        exact ⟨v, rfl, hv.1, fun j hj => ha j hj (by omega), he, hB3, FQ.tr F1 (FQ.tr F2 F3)⟩
      · intro τ2 y2 w7 k7 hB2 F2 f2 r2 d2 c2
        have z := f2.2.2.2.2.1
        have G2 : FQ [] σ τ2 := FQ.tr F1 F2
        have eg : y2 6 = ((s ^^^ left : Nat) : Int) := by
          have q := wr_o2 s hs left (by omega)
          rw [wr_sub_s hsub] at q
          rw [← q, ← d2.2.1, ← d2.1, oI]
        have hg5 : s ^^^ left < 32 := Nat.xor_lt_two_pow (n := 5) hs (by omega)
        have tg : Nat.testBit (s ^^^ left) b = true := by
          rw [Nat.testBit_xor, hb]
          cases e : Nat.testBit left b with
          | false => rfl
          | true =>
            have h := hsub b e
            rw [hrest b hb5, Nat.beq_refl, hb] at h
            cases h
        have g0 : 0 < s ^^^ left := by
          rcases Nat.eq_zero_or_pos (s ^^^ left) with e | e
          · rw [e, Nat.zero_testBit] at tg
            cases tg
          · exact e
        have gs : s ^^^ left ≤ s := by
          have e : (s ^^^ left) &&& s = s ^^^ left := Nat.eq_of_testBit_eq (fun t => by
            rw [Nat.testBit_and, Nat.testBit_xor]
            cases e : Nat.testBit left t with
            | false => cases Nat.testBit s t <;> rfl
            | true =>
              have h := hsub t e
              rw [Nat.testBit_and, Bool.and_eq_true] at h
              rw [h.1]
              rfl)
          rw [← e]
          exact Nat.and_le_right
        have e7 : y2 7 = wr_W (wr_A dy ot D) (wr_w st wh) (wr_q pl) N (s ^^^ left) := by
          rw [← c2.1, G2 29 _ rfl, eg, Int.toNat_natCast]
          exact hT _ g0 gs
        have e8 : y2 8 = sI σ 30 left := by
          rw [← c2.2.1, G2 30 _ rfl, Int.toNat_natCast]
        have bV := hV left lt
        have bW := wr_W_b (A := wr_A dy ot D) (w := wr_w st wh) (q := wr_q pl) (g := s ^^^ left) hN
        have a9 := addC (by omega) (by omega) d2.2.2.1
        have dj : ∀ t, (Nat.testBit (s ^^^ left) t && Nat.testBit left t) = false := fun t => by
          rw [Nat.testBit_xor]
          cases e : Nat.testBit left t with
          | false => cases Nat.testBit s t <;> rfl
          | true =>
            have h := hsub t e
            rw [Nat.testBit_and, Bool.and_eq_true] at h
            rw [h.1]
            rfl
        rw [eg]
        refine Ok.cv rfl rfl rfl rfl rfl rfl rfl ?_
        refine (x_meet24 N (s ^^^ left) left S P st hB2 hN ((congrArg Int32.toInt (G2 21 0 rfl)).trans eN) hL (hH.fq (G := []) rfl G2) hg5 (by omega) dj).use (by decide) (fun r τ3 q => ?_)
        obtain ⟨mm, rfl, em, bm, hB3, F3⟩ := q
        refine wzwo_39 (s : Int) (y0 2) ((s &&& (s - 1) : Nat) : Int) v (left : Int) ((s ^^^ left : Nat) : Int) (y2 9) mm w7 k7 hB3 ⟨by omega, by omega, by omega, by omega, by omega, by omega, by omega, bm, trivial⟩ ?_
        intro τ4 y4 hB4 F4 f4 r4 d4 _
        have a4 := addC (by omega) (by omega) d4.1
        have m4 := minC (by omega) (by omega) d4.2.1
        have z4 : y4 10 = (((left - 1) &&& (s &&& (s - 1)) : Nat) : Int) := by
          have q := andJ (x := (left : Int) + (-1)) (y := ((s &&& (s - 1) : Nat) : Int)) (by omega) (by omega) d4.2.2.1
          rw [Int.toNat_natCast] at q
          rw [q, show ((left : Int) + (-1)).toNat = left - 1 by omega]
        have eX : y4 8 = wr_T dy wh ot pl D st N (sI σ 30) s left := by
          show _ = wr_W _ _ _ N (s ^^^ left) + sI σ 30 left + wr_M _ _ _ N (s ^^^ left) left
          rw [← em]
          omega
        rw [z4]
        refine ih ((left - 1) &&& (s &&& (s - 1))) ?_ and_sbs τ4 (y4 9) _ _ rfl rfl hB4 (FQ.tr G2 (FQ.tr F3 F4)) ⟨by omega, by omega⟩ (fun j hj hj2 => ?_) ?_
        · have l1 : (left - 1) &&& (s &&& (s - 1)) ≤ left - 1 := Nat.and_le_left
          omega
        · rcases hj2 with hj2 | hj2
          · have := ha j hj (Or.inl hj2)
            omega
          · by_cases c : left < j
            · have := ha j hj (Or.inr c)
              omega
            · by_cases c2 : j = left
              · rw [c2, ← eX]
                omega
              · have := down1 left left (s &&& (s - 1)) j (Nat.le_refl _) hsub hj (by omega)
                omega
        · by_cases c : v ≤ y4 8
          · obtain ⟨j, hj, e⟩ := he
            exact ⟨j, hj, by rw [← e]; omega⟩
          · exact ⟨left, hsub, by rw [← eX]; omega⟩
  refine main (s &&& (s - 1)) (s &&& (s - 1)) (Nat.le_refl _) (fun t h => h) τ0 _ v6 v7 hv6 hv7 hB0 F0 ⟨W0.2, by omega⟩ (fun j hj hj2 => ?_) ⟨0, sbs_0, X0.symm⟩
  rcases hj2 with rfl | hj2
  · rw [X0]
    exact Int.le_refl _
  · have e := sbs_and hj
    have l2 : j &&& (s &&& (s - 1)) ≤ s &&& (s - 1) := Nat.and_le_right
    omega
theorem wr_M_b {A : Nat → Bool} {w o : Nat → Nat} {n g h : Nat} : 0 ≤ wr_M A w o n g h := wr_s_0 (fun _ _ => (wr_b_r _).1)
theorem wr_T_cg {st : Nat → Int} {N s left : Nat} {V V' : Nat → Int} (h : V left = V' left) : wr_T dy wh ot pl D st N V s left = wr_T dy wh ot pl D st N V' s left := by
  show wr_W _ _ _ N (s ^^^ left) + V left + wr_M _ _ _ N (s ^^^ left) left = wr_W _ _ _ N (s ^^^ left) + V' left + wr_M _ _ _ N (s ^^^ left) left
  rw [h]
theorem wr_p5 {k : Nat} (h : k ≤ 5) : 0 < 2 ^ k ∧ 2 ^ k ≤ 32 := ⟨Nat.two_pow_pos k, Nat.pow_le_pow_right (n := 2) (by decide) h⟩
abbrev wr_F : List (Nat × Nat) := [(26, 9999), (27, 9999), (28, 9999), (29, 9999), (30, 9999)]
set_option maxRecDepth 20000 in
theorem x_few24 {σ : pm_S} (N : Nat) (S P : Int) (hB : an_GB pm_B σ) (hD : 0 ≤ D ∧ D ≤ 9999) (hN : N ≤ 30) (hP : P ≤ 10) (hS : S ≤ 10) (eN : (σ.1 21 0).toInt = N) (hR : wr_R σ dy wh ot pl) (hL : wr_L dy wh ot pl N S P) : Sp 52 19 [.ref 21, .int (Int32.ofInt D)] σ (fun r τ => ∃ v : Int, r = some (.int (Int32.ofInt v)) ∧ ((-1) ≤ v ∧ v ≤ 30) ∧ an_GB pm_B τ ∧ FQ wr_F σ τ ∧ ((6 ≤ pcn 10 (wr_set dy wh ot D N) ∧ v = -1) ∨ (pcn 10 (wr_set dy wh ot D N) ≤ 5 ∧ ∃ st V : Nat → Int, wr_Q st (wr_set dy wh ot D N) (pcn 10 (wr_set dy wh ot D N) : Nat) ∧ wr_ok (wr_A dy ot D) (wr_B dy ot D) (wr_w st wh) (wr_w st ot) (wr_q pl) N V (2 ^ pcn 10 (wr_set dy wh ot D N) - 1) ∧ V 0 = 0 ∧ v = V (2 ^ pcn 10 (wr_set dy wh ot D N) - 1)))) := by
  refine Sp.at rfl rfl ?_
  refine wzwf_0 D _ _ _ rfl rfl rfl hB ⟨hD, trivial⟩ ?_
  intro τ0 y0 v2 v3 v4 k2 k3 k4 hB0 F0 _ _ _ _
  refine Ok.cv rfl rfl rfl rfl rfl rfl rfl ?_
  refine (x_named24 (D := D) N S P hB0 hD hN hP hS ((congrArg Int32.toInt (F0 21 0 rfl)).trans eN) (hR.fq (G := []) rfl F0) hL).use (by decide) (fun r τ1 q => ?_)
  obtain ⟨k, rfl, hB1, F1, hQ, hn⟩ := q
  have hk := hQ.k10
  have ek := hQ.2.1
  have G1 : FQ wr_F σ τ1 := FQ.tr (FQ.up (G := []) rfl F0) (FQ.up (G := [(26, 9999), (27, 9999)]) rfl F1)
  have G1' : FQ [(26, 9999), (27, 9999)] σ τ1 := FQ.tr (FQ.up (G := []) rfl F0) F1
  have N1 : (τ1.1 21 0).toInt = N := (congrArg Int32.toInt (G1 21 0 rfl)).trans eN
  have R1 : wr_R τ1 dy wh ot pl := hR.fq rfl G1'
  refine wzwf_3 D k v2 v3 v4 k2 k3 k4 hB1 ⟨hD, hk, trivial⟩ ?_ ?_
  · intro τ2 y2 v4 k4 hB2 F2 f2 _ d2 _
    have hk5 := f2.2.1
    have hk5' : pcn 10 (wr_set dy wh ot D N) ≤ 5 := by omega
    have p5 := wr_p5 hk5'
    have s2 := shlI (by omega) d2.1
    rw [show k.toNat = pcn 10 (wr_set dy wh ot D N) by omega] at s2
    have H1 : wr_H τ1 dy wh ot D (sI τ1 27) N := ⟨hn, fun l hl hd => by
      have hin := wr_set_in (dy := dy) (wh := wh) (ot := ot) (D := D) (i := N) (l := l) hl hd
      have hll := hL l hl
      have a := hQ.2.2.2.1 (wh l).toNat (by omega) hin.1
      refine ⟨by omega, fun ho => ?_⟩
      have b := hQ.2.2.2.1 (ot l).toNat (by omega) (hin.2 ho)
      refine ⟨by omega, fun e => ?_⟩
      have := hQ.2.2.2.2 (ot l).toNat (wh l).toNat (by omega) (by omega) (hin.2 ho) hin.1 e
      omega⟩
    generalize hst : sI τ1 27 = st at hQ H1
    generalize hK : pcn 10 (wr_set dy wh ot D N) = K at *
    have eF : y2 2 + (-1) = ((2 ^ K - 1 : Nat) : Int) := by omega
    rw [eF]
    have hF32 : 2 ^ K - 1 < 32 := by omega
    generalize hFu : 2 ^ K - 1 = full at *
    refine Ok.ast (n := 32) rfl rfl rfl (by decide) (by omega) (by omega) ?_
    have hB3 : an_GB pm_B (put τ2 30 (0 : Int).toNat (Int32.ofInt 0)) := put_GB hB2 (ai_rng _)
    have F3 : FQ [(30, 9999)] τ1 (put τ2 30 (0 : Int).toNat (Int32.ofInt 0)) := FQ.tr (FQ.up (G := []) rfl F2) (FQ.put rfl)
    have V3 : sI (put τ2 30 (0 : Int).toNat (Int32.ofInt 0)) 30 0 = 0 := by
      show ((put τ2 30 (0 : Int).toNat (Int32.ofInt 0)).1 30 0).toInt = 0
      rw [put_get, if_pos ⟨rfl, rfl⟩]
      rfl
    generalize put τ2 30 (0 : Int).toNat (Int32.ofInt 0) = τ3 at hB3 F3 V3
    have G3 : FQ wr_F σ τ3 := FQ.tr G1 (FQ.up (G := [(30, 9999)]) rfl F3)
    have N3 : (τ3.1 21 0).toInt = N := (congrArg Int32.toInt (F3 21 0 rfl)).trans N1
    have R3 : wr_R τ3 dy wh ot pl := R1.fq rfl F3
    have H3 : wr_H τ3 dy wh ot D st N := H1.fq rfl F3
    refine wzwf_20 D k full v4 k4 hB3 ⟨hD, by omega, by omega, trivial⟩ ?_
    intro τ4 y4 hB4 F4 _ _ _ _
    -- the first rows
    refine Ok.loop (fun i L τ => 1 ≤ i ∧ i ≤ full + 1 ∧ an_GB pm_B τ ∧ FQ [(28, 9999), (29, 9999)] τ3 τ ∧ L = [.ref 21, .int (Int32.ofInt D), .int (Int32.ofInt k), .int (Int32.ofInt (full : Int)), .int (Int32.ofInt i)] ∧ ∀ g : Nat, 0 < g → (g : Int) < i → sI τ 29 g = wr_W (wr_A dy ot D) (wr_w st wh) (wr_q pl) N g) (full + 1) (fun i L τ h => h.2.1) ?_ 1 _ τ4 ⟨by decide, by omega, hB4, FQ.up (G := []) rfl F4, rfl, fun g h1 h2 => by omega⟩
    rintro i L τ ⟨i0, i1, hB5, F5, rfl, hT⟩ ih
    refine wzwf_22 D k full i hB5 ⟨hD, by omega, by omega, by omega, trivial⟩ ?_
    intro τ6 y6 hB6 F6 _ _ _ _
    have F36 : FQ [(28, 9999), (29, 9999)] τ3 τ6 := FQ.tr F5 (FQ.up (G := []) rfl F6)
    have T6 : ∀ g : Nat, 0 < g → (g : Int) < i → sI τ6 29 g = wr_W (wr_A dy ot D) (wr_w st wh) (wr_q pl) N g := fun g h1 h2 => (congrArg Int32.toInt (F6 29 g rfl)).trans (hT g h1 h2)
    refine Ok.ic rfl rfl (by omega) (by omega) (by omega) (by omega) (fun z => ?_) (fun z => ?_)
    · have z : (full : Int) < i := z
      clear ih
      refine wzwf_34 D k full i hB6 ⟨hD, by omega, by omega, by omega, trivial⟩ ?_
      intro τ7 y7 hB7 F7 _ _ _ _
      have F37 : FQ [(28, 9999), (29, 9999)] τ3 τ7 := FQ.tr F36 (FQ.up (G := []) rfl F7)
      have T7 : ∀ g : Nat, 0 < g → g ≤ full → sI τ7 29 g = wr_W (wr_A dy ot D) (wr_w st wh) (wr_q pl) N g := fun g h1 h2 => (congrArg Int32.toInt (F7 29 g rfl)).trans (T6 g h1 (by omega))
      have V7 : sI τ7 30 0 = 0 := by
        rw [show sI τ7 30 0 = sI τ3 30 0 from congrArg Int32.toInt (F37 30 0 rfl)]
        exact V3
      have N7 : (τ7.1 21 0).toInt = N := (congrArg Int32.toInt (F37 21 0 rfl)).trans N3
      have H7 : wr_H τ7 dy wh ot D st N := H3.fq rfl F37
      have G7 : FQ wr_F σ τ7 := FQ.tr G3 (FQ.up (G := [(28, 9999), (29, 9999)]) rfl F37)
      clear hT T6 F5 F6 F36 F37 hB5 hB6 F7 z i0 i1
      -- the second rows
      refine Ok.loop (fun i L τ => 1 ≤ i ∧ i ≤ full + 1 ∧ an_GB pm_B τ ∧ FQ [(30, 9999)] τ7 τ ∧ L = [.ref 21, .int (Int32.ofInt D), .int (Int32.ofInt k), .int (Int32.ofInt (full : Int)), .int (Int32.ofInt i)] ∧ sI τ 30 0 = 0 ∧ (∀ g : Nat, (g : Int) < i → 0 ≤ sI τ 30 g ∧ sI τ 30 g ≤ 30) ∧ ∀ s : Nat, 0 < s → (s : Int) < i → (∀ left, sbs left (s &&& (s - 1)) → sI τ 30 s ≤ wr_T dy wh ot pl D st N (sI τ 30) s left) ∧ ∃ left, sbs left (s &&& (s - 1)) ∧ sI τ 30 s = wr_T dy wh ot pl D st N (sI τ 30) s left) (full + 1) (fun i L τ h => h.2.1) ?_ 1 _ τ7 ⟨by decide, by omega, hB7, FQ.rf _ _, rfl, V7, fun g h => by
        have e : g = 0 := by omega
        rw [e, V7]
        decide, fun s h1 h2 => by omega⟩
      rintro i L τ ⟨i0, i1, hB8, F8, rfl, V8, b8, ok8⟩ ih
      refine wzwf_36 D k full i hB8 ⟨hD, by omega, by omega, by omega, trivial⟩ ?_
      intro τ9 y9 hB9 F9 _ _ _ _
      have F79 : FQ [(30, 9999)] τ7 τ9 := FQ.tr F8 (FQ.up (G := []) rfl F9)
      have e9 : sI τ9 30 = sI τ 30 := funext (fun g => congrArg Int32.toInt (F9 30 g rfl))
      refine Ok.ic rfl rfl (by omega) (by omega) (by omega) (by omega) (fun z => ?_) (fun z => ?_)
      · have z : (full : Int) < i := z
        refine wzwf_48 D k full i hB9 ⟨hD, by omega, by omega, by omega, trivial⟩ ?_
        intro τa ya hBa Fa _ _ _ ca
        have ea : sI τa 30 = sI τ 30 := (funext (fun g => congrArg Int32.toInt (Fa 30 g rfl))).trans e9
        have bl := b8 full (by omega)
        have ey : ya 4 = sI τ 30 full := by rw [← ca.1, Int.toNat_natCast, ← ea]
        refine ⟨ya 4, rfl, by omega, hBa, FQ.tr G7 (FQ.up (G := [(30, 9999)]) rfl (FQ.tr F79 (FQ.up (G := []) rfl Fa))), Or.inr ⟨by omega, st, sI τ 30, ?_, fun s h1 h2 => ok8 s h1 (by omega), V8, ?_⟩⟩
        · rw [← ek]
          exact hQ
        · exact ey
      · have z : i ≤ full := z
        obtain ⟨s, rfl⟩ : ∃ s : Nat, i = (s : Int) := ⟨i.toNat, by omega⟩
        refine wzwf_39 D k full s hB9 ⟨hD, by omega, by omega, by omega, trivial⟩ ?_
        intro τa ya hBa Fa _ _ _ _
        have F7a : FQ [(30, 9999)] τ7 τa := FQ.tr F79 (FQ.up (G := []) rfl Fa)
        have ea : sI τa 30 = sI τ 30 := (funext (fun g => congrArg Int32.toInt (Fa 30 g rfl))).trans e9
        refine Ok.cv rfl rfl rfl rfl rfl rfl rfl ?_
        refine (x_fos24 N s S P st hBa hN ((congrArg Int32.toInt (F7a 21 0 rfl)).trans N7) hL (H7.fq rfl F7a) (by omega) (by omega) (fun g h1 h2 => by
          rw [show sI τa 29 g = sI τ7 29 g from congrArg Int32.toInt (F7a 29 g rfl)]
          exact T7 g h1 (by omega)) (fun l hl => by rw [ea]; exact b8 l (by omega)) (by rw [ea]; exact V8)).use (by decide) (fun r τb q => ?_)
        obtain ⟨v, rfl, hv30, hle, ⟨lf, hlf, hex⟩, hBb, Fb⟩ := q
        rw [ea] at hle hex
        have lfl := wr_sub_lt (s := s) (by omega) (by omega) hlf
        have v0 : 0 ≤ v := by
          have a := wr_W_b (A := wr_A dy ot D) (w := wr_w st wh) (q := wr_q pl) (g := s ^^^ lf) hN
          have b := b8 lf (by omega)
          have c := wr_M_b (A := wr_B dy ot D) (w := wr_w st wh) (o := wr_w st ot) (n := N) (g := s ^^^ lf) (h := lf)
          have e : v = wr_W (wr_A dy ot D) (wr_w st wh) (wr_q pl) N (s ^^^ lf) + sI τ 30 lf + wr_M (wr_B dy ot D) (wr_w st wh) (wr_w st ot) N (s ^^^ lf) lf := hex
          omega
        refine Ok.ast (n := 32) rfl rfl rfl (by decide) (by omega) (by omega) ?_
        have hBc : an_GB pm_B (put τb 30 (s : Int).toNat (Int32.ofInt v)) := put_GB hBb (ai_rng _)
        have ov : (Int32.ofInt v).toInt = v := ti_of (by omega) (by omega)
        refine wzwf_46 D k full s hBc ⟨hD, by omega, by omega, by omega, trivial⟩ ?_
        intro τd yd hBd Fd _ _ _ _
        have gd : ∀ g, sI τd 30 g = if g = s then v else sI τ 30 g := fun g => by
          show (τd.1 30 g).toInt = _
          rw [Fd 30 g rfl, put_get, Int.toNat_natCast]
          by_cases e : g = s
          · rw [if_pos ⟨rfl, e⟩, if_pos e, ov]
          · rw [if_neg (fun z => e z.2), if_neg e, Fb 30 g rfl]
            exact congrFun ea g
        refine ih _ τd ⟨by omega, by omega, hBd, FQ.tr F7a (FQ.tr (FQ.up (G := []) rfl Fb) (FQ.tr (FQ.put rfl) (FQ.up (G := []) rfl Fd))), rfl, ?_, fun g hg => ?_, fun s2 h1 h2 => ?_⟩
        · rw [gd, if_neg (by omega)]
          exact V8
        · rw [gd]
          split
          · omega
          · exact b8 g (by omega)
        · by_cases e : s2 = s
          · subst e
            refine ⟨fun left hl => ?_, lf, hlf, ?_⟩
            · have l2 := wr_sub_lt (s := s2) (by omega) (by omega) hl
              rw [gd, if_pos rfl, wr_T_cg (V' := sI τ 30) (by rw [gd, if_neg (by omega)])]
              exact hle left hl
            · rw [gd, if_pos rfl, wr_T_cg (V' := sI τ 30) (by rw [gd, if_neg (by omega)])]
              exact hex
          · obtain ⟨a, lf2, hlf2, b⟩ := ok8 s2 h1 (by omega)
            refine ⟨fun left hl => ?_, lf2, hlf2, ?_⟩
            · have l2 := wr_sub_lt (s := s2) (by omega) (by omega) hl
              rw [gd, if_neg e, wr_T_cg (V' := sI τ 30) (by rw [gd, if_neg (by omega)])]
              exact a left hl
            · have l2 := wr_sub_lt (s := s2) (by omega) (by omega) hlf2
              rw [gd, if_neg e, wr_T_cg (V' := sI τ 30) (by rw [gd, if_neg (by omega)])]
              exact b
    · have z : i ≤ full := z
      obtain ⟨s, rfl⟩ : ∃ s : Nat, i = (s : Int) := ⟨i.toNat, by omega⟩
      refine wzwf_25 D k full s hB6 ⟨hD, by omega, by omega, by omega, trivial⟩ ?_
      intro τ7 y7 hB7 F7 _ _ _ _
      have F37 : FQ [(28, 9999), (29, 9999)] τ3 τ7 := FQ.tr F36 (FQ.up (G := []) rfl F7)
      refine Ok.cv rfl rfl rfl rfl rfl rfl rfl ?_
      refine (x_tog24 N s S P st hB7 hN hS ((congrArg Int32.toInt (F37 21 0 rfl)).trans N3) (R3.fq rfl F37) hL (H3.fq rfl F37) (by omega)).use (by decide) (fun r τ8 q => ?_)
      obtain ⟨rfl, hB8, F8⟩ := q
      have bW := wr_W_b (A := wr_A dy ot D) (w := wr_w st wh) (q := wr_q pl) (g := s) hN
      generalize eW : wr_W (wr_A dy ot D) (wr_w st wh) (wr_q pl) N s = ww at bW
      refine Ok.ast (n := 32) rfl rfl rfl (by decide) (by omega) (by omega) ?_
      have hB9 : an_GB pm_B (put τ8 29 (s : Int).toNat (Int32.ofInt ww)) := put_GB hB8 (ai_rng _)
      have ov : (Int32.ofInt ww).toInt = ww := ti_of (by omega) (by omega)
      refine wzwf_32 D k full s hB9 ⟨hD, by omega, by omega, by omega, trivial⟩ ?_
      intro τa ya hBa Fa _ _ _ _
      refine ih _ τa ⟨by omega, by omega, hBa, FQ.tr F37 (FQ.tr (FQ.up (G := [(28, 9999)]) rfl F8) (FQ.tr (FQ.put rfl) (FQ.up (G := []) rfl Fa))), rfl, fun g h1 h2 => ?_⟩
      show (τa.1 29 g).toInt = _
      rw [Fa 29 g rfl, put_get, Int.toNat_natCast]
      by_cases e : g = s
      · rw [if_pos ⟨rfl, e⟩, ov, e, eW]
      · rw [if_neg (fun z => e z.2), F8 29 g rfl, F7 29 g rfl]
        exact T6 g h1 (by omega)
  · intro τ2 y2 hB2 F2 f2 _ _ _
    have hk6 := f2.2.1
    exact ⟨-1, rfl, by decide, hB2, FQ.tr G1 (FQ.up (G := []) rfl F2), Or.inl ⟨by omega, rfl⟩⟩
set_option maxRecDepth 20000 in
theorem xc_wrong {σ : pm_S} (N : Nat) (S P : Int) (d : Int) (hB : an_GB pm_B σ) (hd : (-2147483648) ≤ d ∧ d ≤ 2147483647) (hN : N ≤ 30) (hP : P ≤ 10) (hS : S ≤ 10) (eN : (σ.1 21 0).toInt = N) (hR : wr_R σ dy wh ot pl) (hL : wr_L dy wh ot pl N S P) : Sp 150 31 [.ref 0, .int (Int32.ofInt d)] σ (fun r τ => ∃ v : Int, r = some (.int (Int32.ofInt v)) ∧ an_GB pm_B τ ∧ FQ wr_F σ τ ∧ ((¬ (0 ≤ d ∧ d ≤ 9999) ∧ v = -1) ∨ ((0 ≤ d ∧ d ≤ 9999) ∧ 6 ≤ pcn 10 (wr_set dy wh ot d N) ∧ v = -1) ∨ ((0 ≤ d ∧ d ≤ 9999) ∧ pcn 10 (wr_set dy wh ot d N) ≤ 5 ∧ ∃ st V : Nat → Int, wr_Q st (wr_set dy wh ot d N) (pcn 10 (wr_set dy wh ot d N) : Nat) ∧ wr_ok (wr_A dy ot d) (wr_B dy ot d) (wr_w st wh) (wr_w st ot) (wr_q pl) N V (2 ^ pcn 10 (wr_set dy wh ot d N) - 1) ∧ V 0 = 0 ∧ v = V (2 ^ pcn 10 (wr_set dy wh ot d N) - 1)))) := by
  refine Sp.at rfl rfl ?_
  refine wzww_0 d hB ⟨hd, trivial⟩ ?_ ?_ ?_
  · intro τ y hB1 F1 f _ _ _
    exact ⟨-1, rfl, hB1, FQ.up (G := []) rfl F1, Or.inl ⟨by omega, rfl⟩⟩
  · intro τ y hB1 F1 f _ _ _
    exact ⟨-1, rfl, hB1, FQ.up (G := []) rfl F1, Or.inl ⟨by omega, rfl⟩⟩
  · intro τ y hB1 F1 f _ _ _
    have hD := f.1
    refine Ok.cv rfl rfl rfl rfl rfl rfl rfl ?_
    refine (x_few24 (D := d) N S P hB1 hD hN hP hS ((congrArg Int32.toInt (F1 21 0 rfl)).trans eN) (hR.fq (G := []) rfl F1) hL).use (by decide) (fun r τ2 q => ?_)
    obtain ⟨v, rfl, bv, hB2, F2, q⟩ := q
    refine wzww_8 d v hB2 ⟨hD, by omega, trivial⟩ ?_
    intro τ3 y3 hB3 F3 _ _ _ _
    refine ⟨v, rfl, hB3, FQ.tr (FQ.up (G := []) rfl F1) (FQ.tr F2 (FQ.up (G := []) rfl F3)), Or.inr ?_⟩
    rcases q with ⟨q1, q2⟩ | ⟨q1, q2⟩
    · exact Or.inl ⟨hD, q1, q2⟩
    · exact Or.inr ⟨hD, q1, q2⟩
end WRF
