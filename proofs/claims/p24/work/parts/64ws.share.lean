/-! shares: the class's coachShare -/
theorem euk_pos : ∀ k a b, 1 ≤ a ∨ 1 ≤ b → 1 ≤ (euk k a b).1 ∨ 1 ≤ (euk k a b).2
  | 0, a, b, h => h
  | k + 1, a, b, h => by
    by_cases e : b = 0
    · rw [show euk (k + 1) a b = (a, b) from if_pos e]
      exact h
    · rw [euk_s e]
      exact euk_pos k b (a % b) (Or.inl (by omega))
theorem absC {s y : Int} (hs : (-2000000000) ≤ s ∧ s ≤ 2000000000) (h : (an_f 13 (Int32.ofInt s) (Int32.ofInt 0)).toInt = y) : y = (s.natAbs : Int) := by
  rw [← h]
  show (pm_abs (Int32.ofInt s)).toInt = _
  unfold pm_abs
  have e1 := ti_of (z := s) (by omega) (by omega)
  have e0 : (0 : Int32).toInt = 0 := rfl
  split
  · rename_i z
    rw [Int32.le_iff_toInt_le, e1, e0] at z
    rw [e1]
    omega
  · rename_i z
    rw [Int32.le_iff_toInt_le, e1, e0] at z
    rw [Int32.toInt_sub, e1, e0, Int.bmod_eq_of_le (by omega) (by omega)]
    omega
theorem clrN_sbs {m t : Nat} : sbs (clrN m t) m := fun j h => (clrN_t.mp h).1
theorem or_sbs {a m p : Nat} (h : sbs a m) (hp : Nat.testBit m p = true) : sbs (a ||| 2 ^ p) m := fun j hj => by
  rw [Nat.testBit_or, Bool.or_eq_true, Nat.testBit_two_pow] at hj
  rcases hj with hj | hj
  · exact h j hj
  · rw [← of_decide_eq_true hj]
    exact hp
theorem sbs_tr {a b c : Nat} (h1 : sbs a b) (h2 : sbs b c) : sbs a c := fun j h => h2 j (h1 j h)
theorem euk_le : ∀ k a b B, a ≤ B → b ≤ B → (euk k a b).1 ≤ B
  | 0, a, b, B, h, _ => h
  | k + 1, a, b, B, h, h' => by
    by_cases e : b = 0
    · rw [show euk (k + 1) a b = (a, b) from if_pos e]
      exact h
    · rw [euk_s e]
      exact euk_le k b (a % b) B h' (by have := Nat.mod_le a b; omega)
/-- the answer, of the sum and of the orders -/
def shT (c : Nat → Int) (r p : Nat) : Int := sFrom (trm c (bcI r) p) (clrN r p) (clrN r p) 0
def shA (c : Nat → Int) (r p : Nat) (above : Bool) : Int := (an_f 9 (Int32.ofInt (if above then shT c r p else fctI (bcI r))) (Int32.ofInt (((euk 100 (shT c r p).natAbs (fctI (bcI r)).toNat).1 : Nat) : Int))).toInt
theorem shT_b {c : Nat → Int} {r p : Nat} (hr : r < 1024) (hpb : p < 10) (hp : Nat.testBit r p = true) (h6 : bcI r ≤ 6) (hc : ∀ a, 0 ≤ c a ∧ c a ≤ 1089) : (-2000000000) ≤ shT c r p ∧ shT c r p ≤ 2000000000 := by
  have z := x2p r hr p hpb hp
  have z2 : 0 < 2 ^ p := Nat.two_pow_pos p
  have e : clrN r p = r ^^^ 2 ^ p := if_pos hp
  have l : clrN r p < 1024 := by omega
  have pr := pcn_x r hr p hpb hp
  have br := bc_pcn r hr
  have q := sFrom_b (c := c) (cnt := bcI r) (p := p) (o := clrN r p) hc (fun a ha => by
    have al : a ≤ clrN r p := by
      have := sbs_and ha
      have l2 : a &&& clrN r p ≤ clrN r p := Nat.and_le_right
      omega
    have b1 := bc_pcn a (by omega)
    have b2 := pcn_su (k := 10) ha
    rw [e] at b2
    omega) h6 (clrN r p) 0 0 (by decide) (by decide) (by omega)
  unfold shT
  omega
set_option maxRecDepth 20000 in
theorem x_csh {σ : pm_S} {W : Nat → Nat → Int} (f r p ab S P : Int) (hB : an_GB pm_B σ) (hf : 0 ≤ f ∧ f < S) (hS : S ≤ 10) (hr : 0 ≤ r ∧ r ≤ 1023) (hp : 0 ≤ p ∧ p ≤ 9) (hab : 0 ≤ ab ∧ ab ≤ 1) (hP : 0 ≤ P ∧ P ≤ 10) (eS : (σ.1 3 0).toInt = S) (eP : (σ.1 7 0).toInt = P) (hh : ∀ i, i < P.toNat → (hoC σ i : Int) < S) (hW : ∀ a b, 0 ≤ W a b ∧ W a b ≤ 99) (hW0 : ∀ a, W a a = 0) (hWs : ∀ a c, W a c = W c a) (h5 : ∀ a c : Nat, (a : Int) < S → (c : Int) < S → a ≠ c → (σ.1 5 ((a : Int) * 10 + c).toNat).toInt = W a c) : Sp 109 29 [.ref 85, .int (Int32.ofInt f), .int (Int32.ofInt r), .int (Int32.ofInt p), .int (Int32.ofInt ab)] σ (fun v τ => an_GB pm_B τ ∧ FQ FPr σ τ ∧ ((¬ (Nat.testBit r.toNat p.toNat = true ∧ bcI r.toNat ≤ 6) ∧ v = some (.int (Int32.ofInt (-1)))) ∨ ((Nat.testBit r.toNat p.toNat = true ∧ bcI r.toNat ≤ 6) ∧ v = some (.int (Int32.ofInt (shA (fun a => On W f.toNat S.toNat (clrN (img (hoC σ) P.toNat a) f.toNat) f.toNat) r.toNat p.toNat (decide (ab = 1)))))))) := by
  have s10 : S.toNat ≤ 10 := by omega
  have p10 : 2 ^ S.toNat ≤ 1024 := Nat.pow_le_pow_right (by decide) s10
  have il : ∀ a, img (hoC σ) P.toNat a < 2 ^ S.toNat := fun a => img_lt _ (fun i hi => by have := hh i hi; omega)
  have cl : ∀ a, clrN (img (hoC σ) P.toNat a) f.toNat < 2 ^ S.toNat := fun a => by
    have := il a
    unfold clrN
    split
    · rename_i hb
      have := x2p (img (hoC σ) P.toNat a) (by omega) f.toNat (by omega) hb
      have z2 : 0 < 2 ^ f.toNat := Nat.two_pow_pos _
      omega
    · exact il a
  have cb : ∀ a, 0 ≤ On W f.toNat S.toNat (clrN (img (hoC σ) P.toNat a) f.toNat) f.toNat ∧ On W f.toNat S.toNat (clrN (img (hoC σ) P.toNat a) f.toNat) f.toNat ≤ 1089 := fun a => by
    have l := cl a
    have q := On_c (W := W) (fr := f.toNat) s10 hW 1024 (clrN (img (hoC σ) P.toNat a) f.toNat) (by omega) (by omega) l f.toNat
    have q2 := pcn_10 (clrN (img (hoC σ) P.toNat a) f.toNat) (by omega)
    omega
  refine Sp.at rfl rfl ?_
  refine sq_c0 f r p ab _ _ _ _ rfl rfl rfl rfl hB ⟨by omega, hr, hp, hab, trivial⟩ ?_ ?_ ?_
  · intro τ y hB1 F1 g _ d _
    have bf := bitF hr hp d.2.1 d.2.2.1 g.2.2.2.2.2.2.1.2
    exact ⟨hB1, FQ.up (G := []) rfl F1, Or.inl ⟨(fun z => Bool.noConfusion (bf.symm.trans z.1)), rfl⟩⟩
  · intro τ y v6 v7 v8 h6 h7 h8 hB1 F1 g _ d _
    have bt := bitT hr hp d.2.1 d.2.2.1 g.2.2.2.2.2.2.1.1
    have g4 := g.2.2.2.2.1
    have y4 : y 4 = bcI r.toNat := by
      rw [← d.1]
      unfold bcI
      rw [nOf hr.1]
    have b6 : bcI r.toNat ≤ 6 := by omega
    refine Ok.cv rfl rfl rfl rfl rfl rfl rfl ?_
    refine (x_hoC r P hB1 hr hP ((congrArg Int32.toInt (F1 7 0 rfl)).trans eP)).use (by decide) (fun r0 τ2 q => ?_)
    obtain ⟨rfl, hB2, F2⟩ := q
    have eh : img (hoC τ) P.toNat r.toNat = img (hoC σ) P.toNat r.toNat := img_cg (fun i hi => by show (τ.1 8 i).toInt.toNat = _; rw [F1 8 i rfl])
    rw [eh]
    have G2 : FQ [] σ τ2 := FQ.tr F1 F2
    have ir := il r.toNat
    refine Ok.cv rfl rfl rfl rfl rfl rfl rfl ?_
    refine (x_prep (W := W) f ((img (hoC σ) P.toNat r.toNat : Nat) : Int) S hB2 hf hS (by omega) ((congrArg Int32.toInt (G2 3 0 rfl)).trans eS) hW hWs (fun a c ha hc hne => by rw [G2 5 _ rfl]; exact h5 a c ha hc hne)).use (by decide) (fun r0 τ3 q => ?_)
    obtain ⟨rfl, hB3, F3, q3, l3, t3⟩ := q
    have G3 : FQ FPr σ τ3 := FQ.tr (FQ.up (G := []) rfl G2) F3
    refine sq_c20 f r p ab (y 4) v6 v7 v8 h6 h7 h8 hB3 ⟨by omega, hr, hp, hab, by omega, trivial⟩ ?_
    intro τ4 y4' w6 w7 w8 k6 k7 k8 hB4 F4 g4' _ d4 _
    have ac := clrI hr hp d4.1 d4.2.1 d4.2.2.1
    have cn : y4' 7 = ((clrN r.toNat p.toNat : Nat) : Int) := by
      rw [ac]
      unfold clrN
      rw [if_pos bt, if_pos bt]
    have g7 := g4'.2.2.2.2.2.2.2.1
    rw [cn]
    refine Ok.cv rfl rfl rfl rfl rfl rfl rfl ?_
    have sum := x_sumC (σ := τ4) (c := fun a => On W f.toNat S.toNat (clrN (img (hoC σ) P.toNat a) f.toNat) f.toNat) ((clrN r.toNat p.toNat : Nat) : Int) p (y 4) hB4 (by omega) hp (by omega) (fun a => by have := cb a; omega) (fun τ5 a hB5 F5 ha => by
      rw [Int.toNat_natCast] at ha
      have G5 : FQ [] τ3 τ5 := FQ.tr F4 F5
      have ra : sbs a r.toNat := sbs_tr ha clrN_sbs
      have rb : sbs (a ||| 2 ^ p.toNat) r.toNat := or_sbs ra bt
      have al : ∀ b, sbs b r.toNat → (0 : Int) ≤ (b : Int) ∧ (b : Int) ≤ 1023 := fun b hb => by
        have := sbs_and hb
        have l2 : b &&& r.toNat ≤ r.toNat := Nat.and_le_right
        omega
      have e8 : ∀ b, img (hoC τ5) P.toNat b = img (hoC σ) P.toNat b := fun b => img_cg (fun i hi => by show (τ5.1 8 i).toInt.toNat = _; rw [G5 8 i rfl, G3 8 i rfl])
      have one : ∀ b : Nat, sbs b r.toNat → Sp 111 23 [.ref 85, .int (Int32.ofInt (b : Int))] τ5 (fun v τ' => v = some (.int (Int32.ofInt (On W f.toNat S.toNat (clrN (img (hoC σ) P.toNat b) f.toNat) f.toNat))) ∧ an_GB pm_B τ' ∧ FQ [] τ5 τ') := fun b hb => by
        have q := x_coC (W := W) (σ := τ5) f (b : Int) ((img (hoC σ) P.toNat r.toNat : Nat) : Int) S P hB5 hf hS (al b hb) hP (by rw [G5 7 0 rfl, G3 7 0 rfl]; exact eP) (fun i hi => by show (((τ5.1 8 i).toInt.toNat : Nat) : Int) < S; rw [G5 8 i rfl, G3 8 i rfl]; exact hh i hi) hW hW0 (by
          rw [Int.toNat_natCast, Int.toNat_natCast, e8]
          exact img_su hb) (SQ.fr [] rfl rfl G5 q3) (LFQ.fm [] rfl rfl G5 l3) (TBQ.fm [] rfl G5 t3)
        rw [Int.toNat_natCast, e8] at q
        exact q
      exact ⟨one a ra, one _ rb⟩)
    refine sum.use (by decide) (fun r0 τ5 q => ?_)
    obtain ⟨rfl, hB5, F5⟩ := q
    rw [Int.toNat_natCast, y4]
    have sb := shT_b (c := fun a => On W f.toNat S.toNat (clrN (img (hoC σ) P.toNat a) f.toNat) f.toNat) (r := r.toNat) (p := p.toNat) (by omega) (by omega) bt b6 cb
    have st : sFrom (trm (fun a => On W f.toNat S.toNat (clrN (img (hoC σ) P.toNat a) f.toNat) f.toNat) (bcI r.toNat) p.toNat) (clrN r.toNat p.toNat) (clrN r.toNat p.toNat) 0 = shT (fun a => On W f.toNat S.toNat (clrN (img (hoC σ) P.toNat a) f.toNat) f.toNat) r.toNat p.toNat := rfl
    rw [st]
    have G5 : FQ FPr σ τ5 := FQ.tr G3 (FQ.up (G := []) rfl (FQ.tr F4 F5))
    unfold shA
    generalize shT (fun a => On W f.toNat S.toNat (clrN (img (hoC σ) P.toNat a) f.toNat) f.toNat) r.toNat p.toNat = tot at sb ⊢
    have n6 : 0 ≤ bcI r.toNat := by omega
    refine sq_c31 f r p ab (bcI r.toNat) tot w6 w7 w8 k6 k7 k8 hB5 ⟨by omega, hr, hp, hab, by omega, sb, trivial⟩ ?_
    intro τ6 y6 x7 x8 j7 j8 hB6 F6 _ _ _ _
    refine Ok.cs rfl rfl rfl rfl rfl rfl ?_
    refine (x_ord (bcI r.toNat) hB6 (by omega)).use (by decide) (fun r0 τ7 q => ?_)
    obtain ⟨rfl, hB7, F7⟩ := q
    have fb : 1 ≤ fctI (bcI r.toNat) ∧ fctI (bcI r.toNat) ≤ 720 := by
      have t : ∀ n : Nat, n < 7 → 1 ≤ fctI (n : Int) ∧ fctI (n : Int) ≤ 720 := by decide +kernel
      have q := t (bcI r.toNat).toNat (by omega)
      rw [nOf n6] at q
      exact q
    generalize fctI (bcI r.toNat) = od at fb ⊢
    refine sq_c34 f r p ab (bcI r.toNat) tot od x7 x8 j7 j8 hB7 ⟨by omega, hr, hp, hab, by omega, sb, by omega, trivial⟩ ?_
    intro τ8 y8 z8 i8 hB8 F8 g8 _ d8 _
    have ya := absC sb d8.1
    rw [ya]
    refine Ok.cs rfl rfl rfl rfl rfl rfl ?_
    refine (x_gcdC (tot.natAbs : Int) od hB8 (by omega) (by omega)).use (by decide) (fun r0 τ9 q => ?_)
    obtain ⟨rfl, hB9, F9⟩ := q
    rw [Int.toNat_natCast]
    have e0 : (euk 100 tot.natAbs od.toNat).2 = 0 := euk_end 50 _ _ (by
      have : (1024 : Nat) ≤ 2 ^ 50 := by decide
      omega)
    have ep := euk_pos 100 tot.natAbs od.toNat (Or.inr (by omega))
    have el : (euk 100 tot.natAbs od.toNat).1 ≤ 2147483647 := euk_le 100 _ _ 2147483647 (by omega) (by omega)
    generalize (euk 100 tot.natAbs od.toNat).1 = gg at ep el ⊢
    refine sq_c39 f r p ab (bcI r.toNat) tot od (gg : Int) z8 i8 hB9 ⟨by omega, hr, hp, hab, by omega, sb, by omega, by omega, trivial⟩ ?_ ?_
    · intro τa ya' hBa Fa ga _ da _
      have a3 := ga.2.2.2.1
      refine ⟨hBa, FQ.tr G5 (FQ.up (G := []) rfl (FQ.tr (FQ.tr (FQ.tr (FQ.tr F6 F7) F8) F9) Fa)), Or.inr ⟨⟨bt, b6⟩, ?_⟩⟩
      have e : decide (ab = 1) = false := decide_eq_false (by omega)
      rw [e, ← da.1]
      rfl
    · intro τa ya' hBa Fa ga _ da _
      have a3 := ga.2.2.2.1
      refine ⟨hBa, FQ.tr G5 (FQ.up (G := []) rfl (FQ.tr (FQ.tr (FQ.tr (FQ.tr F6 F7) F8) F9) Fa)), Or.inr ⟨⟨bt, b6⟩, ?_⟩⟩
      have e : decide (ab = 1) = true := decide_eq_true (by omega)
      rw [e, ← da.1]
      rfl
  · intro τ y hB1 F1 g _ d _
    have g4 := g.2.2.2.2.1
    have y4 : y 4 = bcI r.toNat := by
      rw [← d.1]
      unfold bcI
      rw [nOf hr.1]
    exact ⟨hB1, FQ.up (G := []) rfl F1, Or.inl ⟨(fun z => absurd z.2 (by omega)), rfl⟩⟩
