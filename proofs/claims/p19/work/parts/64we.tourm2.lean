/-! the model's tour: tourFrom, tour -/
section TOURM2
variable {W : Nat → Nat → Int}
set_option maxRecDepth 20000 in
theorem x_tF {σ : pm_S} (f m S : Int) (hB : an_GB pm_B σ) (hf : 0 ≤ f ∧ f < S) (hS : S ≤ 10) (hm : 0 ≤ m ∧ m < ((2 ^ S.toNat : Nat) : Int)) (eS : cI σ 2 = S) (hW : ∀ a b, 0 ≤ W a b ∧ W a b ≤ 99) (hr : ∀ a c : Nat, a < 10 → c < 10 → W a c = if a = c then 0 else 9 + (σ.1 95 (a * 10 + c)).toInt) : Sp 224 21 [.ref 93, .int (Int32.ofInt f), .int (Int32.ofInt m)] σ (fun r τ => r = some (.int (Int32.ofInt (On W f.toNat S.toNat m.toNat f.toNat))) ∧ an_GB pm_B τ ∧ FQ FOn σ τ) := by
  have s10 : S.toNat ≤ 10 := by omega
  have p10 : 2 ^ S.toNat ≤ 1024 := Nat.pow_le_pow_right (by decide) s10
  have p0 : 0 < 2 ^ S.toNat := Nat.two_pow_pos _
  have eS : (σ.1 93 2).toInt = S := eS
  have hf9 : 0 ≤ f ∧ f ≤ 9 := by omega
  have hm1 : 0 ≤ m ∧ m ≤ 1023 := by omega
  let Q : Option Value → pm_S → Prop := fun r τ => r = some (.int (Int32.ofInt (On W f.toNat S.toNat m.toNat f.toNat))) ∧ an_GB pm_B τ ∧ FQ FOn σ τ
  have big : ∀ (τ0 : pm_S) (v4 v5 v6 v7 : Value), v4.category = 1 → v5.category = 1 → v6.category = 1 → v7.category = 1 → an_GB pm_B τ0 → FQ FOn σ τ0 → OBQ τ0 W f.toNat S.toNat m.toNat 1 → Ok 224 21 18 [.ref 93, .int (Int32.ofInt f), .int (Int32.ofInt m), .int (Int32.ofInt 1), v4, v5, v6, v7] [] τ0 Q := by
    intro τ0 v4 v5 v6 v7 h4 h5 h6 h7 hB0 F0 o0
    refine Ok.loop (fun l L τ => 1 ≤ l ∧ l ≤ ((2 ^ S.toNat : Nat) : Int) ∧ (∃ v4 v5 v6 v7 : Value, v4.category = 1 ∧ v5.category = 1 ∧ v6.category = 1 ∧ v7.category = 1 ∧ L = [.ref 93, .int (Int32.ofInt f), .int (Int32.ofInt m), .int (Int32.ofInt l), v4, v5, v6, v7]) ∧ an_GB pm_B τ ∧ FQ FOn σ τ ∧ OBQ τ W f.toNat S.toNat m.toNat l.toNat) ((2 ^ S.toNat : Nat) : Int) (fun i L τ h => h.2.1) ?_ 1 _ τ0 ⟨by decide, by omega, ⟨v4, v5, v6, v7, h4, h5, h6, h7, rfl⟩, hB0, F0, o0⟩
    rintro l L τ ⟨l0, l1, ⟨v4, v5, v6, v7, h4, h5, h6, h7, rfl⟩, hB1, F1, o1⟩ ih
    refine sv_f18 f m l S v4 v5 v6 v7 h4 h5 h6 h7 hB1 ⟨hf9, hm1, by omega, by omega, trivial⟩ ⟨(congrArg Int32.toInt (F1 93 2 rfl)).trans eS, trivial⟩ ?_
    intro τ2 y2 w4 w5 w6 w7 k4 k5 k6 k7 hB2 F2 _ _ d2 _
    have G2 : FQ FOn σ τ2 := FQ.tr F1 (FQ.up (G := []) rfl F2)
    have o2 := OBQ.fm [] rfl F2 o1
    have e4 := shlI (by omega) d2.1
    refine Ok.ic rfl rfl (by omega) (by omega) (by omega) (by omega) (fun z => ?_) (fun z => ?_)
    · have z : y2 4 ≤ l := z
      refine sv_f94 f m l w4 w5 w6 w7 k4 k5 k6 k7 hB2 ⟨hf9, hm1, by omega, trivial⟩ ?_
      intro τ3 y3 hB3 F3 g _ d c
      have a3 := mulD (by omega) (by omega) d.1
      have a4 := addC (by omega) (by omega) d.2.1
      have x4 : (y3 4).toNat = m.toNat * 10 + f.toNat := by omega
      have c5 := c.1
      rw [x4, F3 129 _ rfl, o2 m.toNat (by omega) (fun _ h => h) f.toNat (by omega)] at c5
      exact ⟨by rw [c5], hB3, FQ.tr G2 (FQ.up (G := []) rfl F3)⟩
    · have z : l < y2 4 := z
      have e1 : (l + 1).toNat = l.toNat + 1 := by omega
      have last : ∀ (τ : pm_S) (u4 u5 u6 u7 : Value), u4.category = 1 → u5.category = 1 → u6.category = 1 → u7.category = 1 → an_GB pm_B τ → FQ FOn σ τ → OBQ τ W f.toNat S.toNat m.toNat (l + 1).toNat → Ok 224 21 92 [.ref 93, .int (Int32.ofInt f), .int (Int32.ofInt m), .int (Int32.ofInt l), u4, u5, u6, u7] [] τ Q := by
        intro τ u4 u5 u6 u7 n4 n5 n6 n7 hBx Fx ox
        refine sv_f92 f m l u4 u5 u6 u7 n4 n5 n6 n7 hBx ⟨hf9, hm1, by omega, trivial⟩ ?_
        intro τ' y' x4 x5 x6 x7 j4 j5 j6 j7 hB' F' _ _ _ _
        exact ih _ τ' ⟨by omega, by omega, ⟨x4, x5, x6, x7, j4, j5, j6, j7, rfl⟩, hB', FQ.tr Fx (FQ.up (G := []) rfl F'), OBQ.fm [] rfl F' ox⟩
      refine sv_f24 f m l w4 w5 w6 w7 k4 k5 k6 k7 hB2 ⟨hf9, hm1, by omega, trivial⟩ ?_ ?_
      · intro τ3 y3 u5 u6 u7 n5 n6 n7 hB3 F3 g _ d _
        have g4 := g.2.2.2.2.1
        have sub := (subI (by omega) hm1 d.1 d.2.1).mp (by omega)
        have G3 : FQ FOn σ τ3 := FQ.tr G2 (FQ.up (G := []) rfl F3)
        have o3 := OBQ.fm [] rfl F3 o2
        refine Ok.loop (fun s L τ => 0 ≤ s ∧ s ≤ S ∧ (∃ v5 v6 v7 : Value, v5.category = 1 ∧ v6.category = 1 ∧ v7.category = 1 ∧ L = [.ref 93, .int (Int32.ofInt f), .int (Int32.ofInt m), .int (Int32.ofInt l), .int (Int32.ofInt s), v5, v6, v7]) ∧ an_GB pm_B τ ∧ FQ FOn σ τ ∧ OBQ τ W f.toNat S.toNat m.toNat l.toNat ∧ ∀ s', s' < s.toNat → (τ.1 129 (l.toNat * 10 + s')).toInt = On W f.toNat S.toNat l.toNat s') S (fun i L τ h => h.2.1) ?_ 0 _ τ3 ⟨by decide, by omega, ⟨u5, u6, u7, n5, n6, n7, rfl⟩, hB3, G3, o3, fun s' h => absurd h (Nat.not_lt_zero _)⟩
        rintro s L τ ⟨i0, i1, ⟨v5, v6, v7, h5, h6, h7, rfl⟩, hB4, F4, o4, r4⟩ jh
        refine sv_f33 f m l s S v5 v6 v7 h5 h6 h7 hB4 ⟨hf9, hm1, by omega, by omega, by omega, trivial⟩ ⟨(congrArg Int32.toInt (F4 93 2 rfl)).trans eS, trivial⟩ ?_
        intro τ5 y5 w5 w6 w7 k5 k6 k7 hB5 F5 _ _ _ _
        have G5 : FQ FOn σ τ5 := FQ.tr F4 (FQ.up (G := []) rfl F5)
        have o5 := OBQ.fm [] rfl F5 o4
        refine Ok.ic rfl rfl (by omega) (by omega) (by omega) (by omega) (fun w => ?_) (fun w => ?_)
        · have w : S ≤ s := w
          refine last τ5 _ w5 w6 w7 rfl k5 k6 k7 hB5 G5 (fun l' h1 h2 s' hs => ?_)
          by_cases e : l' < l.toNat
          · exact o5 l' e h2 s' hs
          · have e : l' = l.toNat := by omega
            subst e
            rw [F5 129 _ rfl]
            exact r4 s' (by omega)
        · have w : s < S := w
          refine sv_f37 f m l s w5 w6 w7 k5 k6 k7 hB5 ⟨hf9, hm1, by omega, by omega, trivial⟩ ?_
          intro τ6 y6 x7 j7 hB6 F6 _ _ _ _
          have G6 : FQ FOn σ τ6 := FQ.tr G5 (FQ.up (G := []) rfl F6)
          have o6 := OBQ.fm [] rfl F6 o5
          refine x_in (σ := τ6) (W := W) f m S l s hf9 hm1 (by omega) (by omega) ⟨i0, w⟩ ((congrArg Int32.toInt (G6 93 2 rfl)).trans eS) hW (fun a c ha hc => by rw [G6 95 _ rfl]; exact hr a c ha hc) sub o6 ?_ τ6 x7 j7 hB6 (FQ.rf _ _)
          intro τ7 v hv hB7 F7
          have ob := On_b2 (W := W) (fr := f.toNat) s10 hW (l := l.toNat) (by omega) s.toNat
          refine sv_f81 f m l s (On W f.toNat S.toNat l.toNat s.toNat) S v hv hB7 ⟨hf9, hm1, by omega, by omega, by omega, by omega, trivial⟩ ?_
          intro τ8 y8 v8 hv8 hB8 F8 g8 _ d8 _
          have a6 := mulD (by omega) (by omega) d8.1
          have a7 := addC (by omega) (by omega) d8.2.1
          have x7 : y8 7 = l * 10 + s := by omega
          rw [x7]
          refine Ok.ast (n := 10240) rfl rfl rfl (by decide) (by omega) (by omega) ?_
          have hB9 : an_GB pm_B (put τ8 129 (l * 10 + s).toNat (Int32.ofInt (On W f.toNat S.toNat l.toNat s.toNat))) := put_GB hB8 (ai_rng _)
          refine sv_f90 f m l s (On W f.toNat S.toNat l.toNat s.toNat) S v8 hv8 hB9 ⟨hf9, hm1, by omega, by omega, by omega, by omega, trivial⟩ ?_
          intro τa ya va hva hBa Fa _ _ _ _
          have ix : (l * 10 + s).toNat = l.toNat * 10 + s.toNat := by omega
          refine jh _ τa ⟨by omega, by omega, ⟨_, _, va, rfl, rfl, hva, rfl⟩, hBa, FQ.tr G6 (FQ.tr (FQ.up (G := []) rfl (FQ.tr F7 F8)) (FQ.tr (FQ.put rfl) (FQ.up (G := []) rfl Fa))), fun l' h1 h2 s' hs => ?_, fun s' hs => ?_⟩
          · rw [Fa 129 _ rfl, put_nj (by omega), F8 129 _ rfl, F7 129 _ rfl]
            exact o6 l' h1 h2 s' hs
          · rw [Fa 129 _ rfl, put_get, ix]
            by_cases e : s' = s.toNat
            · rw [if_pos ⟨rfl, by rw [e]⟩, e, ti_of (by omega) (by omega)]
            · rw [if_neg (fun q => e (by omega)), F8 129 _ rfl, F7 129 _ rfl, F6 129 _ rfl, F5 129 _ rfl]
              exact r4 s' (by omega)
      · intro τ3 y3 u4 u5 u6 u7 n4 n5 n6 n7 hB3 F3 g _ d _
        have g4 := g.2.2.2.2.1
        refine last τ3 u4 u5 u6 u7 n4 n5 n6 n7 hB3 (FQ.tr G2 (FQ.up (G := []) rfl F3)) (fun l' h1 h2 s' hs => ?_)
        by_cases e : l' < l.toNat
        · exact OBQ.fm [] rfl F3 o2 l' e h2 s' hs
        · have e : l' = l.toNat := by omega
          subst e
          have := (subI (by omega) hm1 d.1 d.2.1).mpr h2
          omega
  refine Sp.at rfl rfl ?_
  refine sv_f0 f m _ _ _ _ _ rfl rfl rfl rfl rfl hB ⟨hf9, hm1, trivial⟩ ?_
  intro τ0 y0 v4 v5 v6 v7 h4 h5 h6 h7 hB0 F0 _ _ _ _
  refine Ok.loop (fun s L τ => 0 ≤ s ∧ s ≤ S ∧ (∃ v4 v5 v6 v7 : Value, v4.category = 1 ∧ v5.category = 1 ∧ v6.category = 1 ∧ v7.category = 1 ∧ L = [.ref 93, .int (Int32.ofInt f), .int (Int32.ofInt m), .int (Int32.ofInt s), v4, v5, v6, v7]) ∧ an_GB pm_B τ ∧ FQ FOn σ τ ∧ ∀ s', s' < s.toNat → (τ.1 129 s').toInt = W s' f.toNat) S (fun i L τ h => h.2.1) ?_ 0 _ τ0 ⟨by decide, by omega, ⟨v4, v5, v6, v7, h4, h5, h6, h7, rfl⟩, hB0, FQ.up (G := []) rfl F0, fun s' h => absurd h (Nat.not_lt_zero _)⟩
  rintro s L τ ⟨i0, i1, ⟨v4, v5, v6, v7, h4, h5, h6, h7, rfl⟩, hB1, F1, r1⟩ ih
  refine sv_f2 f m s S v4 v5 v6 v7 h4 h5 h6 h7 hB1 ⟨hf9, hm1, by omega, by omega, trivial⟩ ⟨(congrArg Int32.toInt (F1 93 2 rfl)).trans eS, trivial⟩ ?_
  intro τ2 y2 w4 w5 w6 w7 k4 k5 k6 k7 hB2 F2 _ _ _ _
  have G2 : FQ FOn σ τ2 := FQ.tr F1 (FQ.up (G := []) rfl F2)
  refine Ok.ic rfl rfl (by omega) (by omega) (by omega) (by omega) (fun z => ?_) (fun z => ?_)
  · have z : S ≤ s := z
    refine sv_f16 f m s w4 w5 w6 w7 k4 k5 k6 k7 hB2 ⟨hf9, hm1, by omega, trivial⟩ ?_
    intro τ3 y3 u4 u5 u6 u7 n4 n5 n6 n7 hB3 F3 _ _ _ _
    refine big τ3 u4 u5 u6 u7 n4 n5 n6 n7 hB3 (FQ.tr G2 (FQ.up (G := []) rfl F3)) (fun l h1 _ s' hs => ?_)
    have e : l = 0 := by omega
    subst e
    rw [Nat.zero_mul, Nat.zero_add, On_0, F3 129 _ rfl, F2 129 _ rfl]
    exact r1 s' (by omega)
  · have z : s < S := z
    refine sv_f6 f m s w4 w5 w6 w7 k4 k5 k6 k7 hB2 ⟨hf9, hm1, by omega, trivial⟩ ?_
    intro τ3 y3 u4 u5 u6 u7 n4 n5 n6 n7 hB3 F3 _ _ _ _
    have G3 : FQ FOn σ τ3 := FQ.tr G2 (FQ.up (G := []) rfl F3)
    refine Ok.cv rfl rfl rfl rfl rfl rfl rfl ?_
    refine (x_mO (W := W) s f hB3 (by omega) hf9 (fun a c ha hc => by rw [G3 95 _ rfl]; exact hr a c ha hc)).use (by decide) (fun r τ4 q => ?_)
    obtain ⟨rfl, hB4, F4⟩ := q
    refine Ok.ast (n := 10240) rfl rfl rfl (by decide) (by omega) (by omega) ?_
    have hB5 : an_GB pm_B (put τ4 129 s.toNat (Int32.ofInt (W s.toNat f.toNat))) := put_GB hB4 (ai_rng _)
    refine sv_f14 f m s u4 u5 u6 u7 n4 n5 n6 n7 hB5 ⟨hf9, hm1, by omega, trivial⟩ ?_
    intro τ6 y6 x4 x5 x6 x7 j4 j5 j6 j7 hB6 F6 _ _ _ _
    have wb := hW s.toNat f.toNat
    refine ih _ τ6 ⟨by omega, by omega, ⟨x4, x5, x6, x7, j4, j5, j6, j7, rfl⟩, hB6, FQ.tr G3 (FQ.tr (FQ.up (G := []) rfl F4) (FQ.tr (FQ.put rfl) (FQ.up (G := []) rfl F6))), fun s' hs => ?_⟩
    rw [F6 129 _ rfl, put_get]
    by_cases e : s' = s.toNat
    · rw [if_pos ⟨rfl, e⟩, e, ti_of (by omega) (by omega)]
    · rw [if_neg (fun q => e q.2), F4 129 _ rfl, F3 129 _ rfl, F2 129 _ rfl]
      exact r1 s' (by omega)
set_option maxRecDepth 20000 in
theorem xm_tour {σ : pm_S} (f m S : Int) (hB : an_GB pm_B σ) (rf : (-2147483648) ≤ f ∧ f ≤ 2147483647) (rm : (-2147483648) ≤ m ∧ m ≤ 2147483647) (hS : 0 ≤ S ∧ S ≤ 10) (eS : cI σ 2 = S) (hW : ∀ a b, 0 ≤ W a b ∧ W a b ≤ 99) (hr : ∀ a c : Nat, a < 10 → c < 10 → W a c = if a = c then 0 else 9 + (σ.1 95 (a * 10 + c)).toInt) : Sp 225 23 [.ref 93, .int (Int32.ofInt f), .int (Int32.ofInt m)] σ (fun r τ => an_GB pm_B τ ∧ FQ [(93, 0), (129, 9999)] σ τ ∧ ((¬ (0 ≤ f ∧ f < S ∧ 0 ≤ m ∧ m < ((2 ^ S.toNat : Nat) : Int)) ∧ r = some (.int (Int32.ofInt (-1)))) ∨ ((0 ≤ f ∧ f < S ∧ 0 ≤ m ∧ m < ((2 ^ S.toNat : Nat) : Int)) ∧ r = some (.int (Int32.ofInt (On W f.toNat S.toNat (clrN m.toNat f.toNat) f.toNat)))))) := by
  refine Sp.at rfl rfl ?_
  refine sv_t0 f m S hB ⟨rf, rm, hS, trivial⟩ ⟨eS, trivial⟩ ?_
  intro τ y hB1 F1 _ _ _ c1
  refine Ok.cv rfl rfl rfl rfl rfl rfl rfl ?_
  refine (x_h163 f S hB1 rf c1.1).use (by decide) (fun r τ2 q => ?_)
  obtain ⟨hB2, F2, ⟨q, rfl, -⟩ | ⟨q, rfl, -⟩⟩ := q
  · refine sv_t6n _ _ rfl rfl hB2 ?_
    intro τ3 y3 hB3 F3 _ _ _ _
    exact ⟨hB3, FQ.tr (FQ.up (G := [(93, 0)]) rfl F1) (FQ.up (G := []) rfl (FQ.tr F2 F3)), Or.inl ⟨by omega, rfl⟩⟩
  have G2 : FQ [(93, 0)] σ τ2 := FQ.tr F1 (FQ.up (G := []) rfl F2)
  refine sv_t6 f m S hB2 ⟨by omega, rm, hS, trivial⟩ ⟨(G2.c 2 rfl).trans eS, trivial⟩ ?_
  intro τ3 y3 hB3 F3 g3 _ d3 _
  have e3 := shlI hS d3.1
  have g4 := g3.2.2.2.1
  have G3 : FQ [(93, 0)] σ τ3 := FQ.tr G2 (FQ.up (G := []) rfl F3)
  refine Ok.cv rfl rfl rfl rfl rfl rfl rfl ?_
  refine (x_isIn (v := m) (l := 0) (h := y3 3 + (-1)) rm (by decide) (by omega)).use (by decide) (fun r τ4 p => ?_)
  rw [o0, o1] at p
  obtain ⟨rfl, ⟨p, rfl⟩ | ⟨p, rfl⟩⟩ := p
  · refine sv_t17n _ _ rfl rfl hB3 ?_
    intro τ5 y5 hB5 F5 _ _ _ _
    exact ⟨hB5, FQ.tr (FQ.up (G := [(93, 0)]) rfl G3) (FQ.up (G := []) rfl F5), Or.inl ⟨by omega, rfl⟩⟩
  have s10 : S.toNat ≤ 10 := by omega
  have p10 : 2 ^ S.toNat ≤ 1024 := Nat.pow_le_pow_right (by decide) s10
  refine sv_t17 f m hB3 ⟨by omega, by omega, trivial⟩ ?_
  intro τ5 y5 hB5 F5 g5 _ d5 _
  have G5 : FQ [(93, 0)] σ τ5 := FQ.tr G3 (FQ.up (G := []) rfl F5)
  have ac := clrI (by omega) (by omega) d5.1 d5.2.1 d5.2.2.1
  have cn : y5 4 = ((clrN m.toNat f.toNat : Nat) : Int) := by
    rw [ac]
    unfold clrN
    split
    · rfl
    · omega
  have cb : clrN m.toNat f.toNat < 2 ^ S.toNat := by
    unfold clrN
    split
    · rename_i hb
      have := x2p m.toNat (by omega) f.toNat (by omega) hb
      have z2 : 0 < 2 ^ f.toNat := Nat.two_pow_pos _
      omega
    · omega
  rw [cn]
  refine Ok.cv rfl rfl rfl rfl rfl rfl rfl ?_
  refine (x_tF (W := W) f ((clrN m.toNat f.toNat : Nat) : Int) S hB5 q hS.2 (by omega) ((G5.c 2 rfl).trans eS) hW (fun a c ha hc => by rw [G5 95 _ rfl]; exact hr a c ha hc)).use (by decide) (fun r τ6 p6 => ?_)
  obtain ⟨rfl, hB6, F6⟩ := p6
  rw [Int.toNat_natCast]
  have ob := On_b2 (W := W) (fr := f.toNat) s10 hW cb f.toNat
  refine sv_t28 f m _ hB6 ⟨by omega, by omega, by omega, trivial⟩ ?_
  intro τ7 y7 hB7 F7 _ _ _ _
  exact ⟨hB7, FQ.tr (FQ.up (G := [(93, 0)]) rfl G5) (FQ.tr (FQ.up (G := FOn) rfl F6) (FQ.up (G := []) rfl F7)), Or.inr ⟨by omega, rfl⟩⟩
end TOURM2
