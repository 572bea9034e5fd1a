/-! shares: homesOf, factorials, the coach's cost on both sides -/
/-- the homes, as numbers -/
abbrev hoC (σ : pm_S) : Nat → Nat := fun i => (σ.1 8 i).toInt.toNat
abbrev hoM (σ : pm_S) : Nat → Nat := fun i => (σ.1 96 i).toInt.toNat
theorem img_cg {h h' : Nat → Nat} : ∀ {k m : Nat}, (∀ i, i < k → h i = h' i) → img h k m = img h' k m
  | 0, _, _ => rfl
  | k + 1, m, e => by
    show img h k m ||| _ = img h' k m ||| _
    rw [img_cg (fun i hi => e i (by omega)), e k (by omega)]
theorem img_su {h : Nat → Nat} {k a b : Nat} (hs : sbs a b) : sbs (img h k a) (img h k b) := fun t ht => by
  obtain ⟨i, h1, h2, h3⟩ := (img_t h k a t).mp ht
  exact (img_t h k b t).mpr ⟨i, h1, hs i h2, h3⟩
set_option maxRecDepth 20000 in
theorem x_hoC {σ : pm_S} (m P : Int) (hB : an_GB pm_B σ) (hm : 0 ≤ m ∧ m ≤ 1023) (hP : 0 ≤ P ∧ P ≤ 10) (eP : (σ.1 7 0).toInt = P) : Sp 65 9 [.ref 7, .int (Int32.ofInt m)] σ (fun r τ => r = some (.int (Int32.ofInt ((img (hoC σ) P.toNat m.toNat : Nat) : Int))) ∧ an_GB pm_B τ ∧ FQ [] σ τ) := by
  have hb : ∀ i, i < 10 → (0 : Int) ≤ (σ.1 8 i).toInt ∧ (σ.1 8 i).toInt ≤ 9 := fun i hi => hB 8 i hi
  have lt : ∀ k, k ≤ 10 → img (hoC σ) k m.toNat < 1024 := fun k hk => img_lt (N := 10) (hoC σ) (fun i hi => by
    have := hb i (by omega)
    show (σ.1 8 i).toInt.toNat < 10
    omega)
  refine Sp.at rfl rfl ?_
  refine sx_h0 m _ _ rfl rfl hB ⟨hm, trivial⟩ ?_
  intro τ0 y0 hB0 F0 _ _ _ _
  refine Ok.loop (fun i L τ => 0 ≤ i ∧ i ≤ P ∧ L = [.ref 7, .int (Int32.ofInt m), .int (Int32.ofInt ((img (hoC σ) i.toNat m.toNat : Nat) : Int)), .int (Int32.ofInt i)] ∧ an_GB pm_B τ ∧ FQ [] σ τ) P (fun i L τ h => h.2.1) ?_ 0 _ τ0 ⟨by decide, by omega, rfl, hB0, F0⟩
  rintro i L τ ⟨i0, i1, rfl, hB1, F1⟩ ih
  have l1 := lt i.toNat (by omega)
  refine sx_h4 m ((img (hoC σ) i.toNat m.toNat : Nat) : Int) i P hB1 ⟨hm, by omega, by omega, by omega, trivial⟩ ⟨(congrArg Int32.toInt (F1 7 0 rfl)).trans eP, trivial⟩ ?_
  intro τ2 y2 hB2 F2 _ _ _ _
  have G2 : FQ [] σ τ2 := FQ.tr F1 F2
  refine Ok.ic rfl rfl (by omega) (by omega) (by omega) (by omega) (fun z => ?_) (fun z => ?_)
  · have z : P ≤ i := z
    have e : i = P := by omega
    refine sx_h25 m ((img (hoC σ) i.toNat m.toNat : Nat) : Int) i hB2 ⟨hm, by omega, by omega, trivial⟩ ?_
    intro τ3 y3 hB3 F3 _ _ _ _
    exact ⟨by rw [e], hB3, FQ.tr G2 F3⟩
  · have z : i < P := z
    have e1 : (i + 1).toNat = i.toNat + 1 := by omega
    have st : img (hoC σ) (i.toNat + 1) m.toNat = img (hoC σ) i.toNat m.toNat ||| (if Nat.testBit m.toNat i.toNat then 2 ^ (hoC σ) i.toNat else 0) := rfl
    refine sx_h8 m ((img (hoC σ) i.toNat m.toNat : Nat) : Int) i hB2 ⟨hm, by omega, by omega, trivial⟩ ?_ ?_
    · intro τ3 y3 hB3 F3 f _ d _
      have bf := bitF hm (by omega) d.1 d.2.1 f.2.2.2.2.1.2
      refine ih _ τ3 ⟨by omega, by omega, ?_, hB3, FQ.tr G2 F3⟩
      have y5 : y3 5 = ((img (hoC σ) i.toNat m.toNat : Nat) : Int) := by rw [← d.2.2.1]; exact bt5 _ l1
      rw [e1, st, bf, if_neg (by decide), Nat.or_zero, y5]
    · intro τ3 y3 hB3 F3 f _ d c
      have bt := bitT hm (by omega) d.1 d.2.1 f.2.2.2.2.1.1
      have c5 := c.1
      rw [F3 8 _ rfl, G2 8 _ rfl] at c5
      have bi := hb i.toNat (by omega)
      have y7 := orJ (by omega) (by omega) d.2.2.1 d.2.2.2.1
      rw [Int.toNat_natCast, ← c5] at y7
      refine ih _ τ3 ⟨by omega, by omega, ?_, hB3, FQ.tr G2 F3⟩
      rw [e1, st, if_pos bt, y7]
set_option maxRecDepth 20000 in
theorem x_hoM {σ : pm_S} (m P : Int) (hB : an_GB pm_B σ) (hm : 0 ≤ m ∧ m ≤ 1023) (hP : 0 ≤ P ∧ P ≤ 10) (eP : (σ.1 93 5).toInt = P) : Sp 226 9 [.ref 93, .int (Int32.ofInt m)] σ (fun r τ => r = some (.int (Int32.ofInt ((img (hoM σ) P.toNat m.toNat : Nat) : Int))) ∧ an_GB pm_B τ ∧ FQ [] σ τ) := by
  have hb : ∀ i, i < 10 → (0 : Int) ≤ (σ.1 96 i).toInt ∧ (σ.1 96 i).toInt ≤ 9 := fun i hi => hB 96 i hi
  have lt : ∀ k, k ≤ 10 → img (hoM σ) k m.toNat < 1024 := fun k hk => img_lt (N := 10) (hoM σ) (fun i hi => by
    have := hb i (by omega)
    show (σ.1 96 i).toInt.toNat < 10
    omega)
  refine Sp.at rfl rfl ?_
  refine sx_m0 m _ _ rfl rfl hB ⟨hm, trivial⟩ ?_
  intro τ0 y0 hB0 F0 _ _ _ _
  refine Ok.loop (fun i L τ => 0 ≤ i ∧ i ≤ P ∧ L = [.ref 93, .int (Int32.ofInt m), .int (Int32.ofInt ((img (hoM σ) i.toNat m.toNat : Nat) : Int)), .int (Int32.ofInt i)] ∧ an_GB pm_B τ ∧ FQ [] σ τ) P (fun i L τ h => h.2.1) ?_ 0 _ τ0 ⟨by decide, by omega, rfl, hB0, F0⟩
  rintro i L τ ⟨i0, i1, rfl, hB1, F1⟩ ih
  have l1 := lt i.toNat (by omega)
  refine sx_m4 m ((img (hoM σ) i.toNat m.toNat : Nat) : Int) i P hB1 ⟨hm, by omega, by omega, by omega, trivial⟩ ⟨(congrArg Int32.toInt (F1 93 5 rfl)).trans eP, trivial⟩ ?_
  intro τ2 y2 hB2 F2 _ _ _ _
  have G2 : FQ [] σ τ2 := FQ.tr F1 F2
  refine Ok.ic rfl rfl (by omega) (by omega) (by omega) (by omega) (fun z => ?_) (fun z => ?_)
  · have z : P ≤ i := z
    have e : i = P := by omega
    refine sx_m26 m ((img (hoM σ) i.toNat m.toNat : Nat) : Int) i hB2 ⟨hm, by omega, by omega, trivial⟩ ?_
    intro τ3 y3 hB3 F3 _ _ _ _
    exact ⟨by rw [e], hB3, FQ.tr G2 F3⟩
  · have z : i < P := z
    have e1 : (i + 1).toNat = i.toNat + 1 := by omega
    have st : img (hoM σ) (i.toNat + 1) m.toNat = img (hoM σ) i.toNat m.toNat ||| (if Nat.testBit m.toNat i.toNat then 2 ^ (hoM σ) i.toNat else 0) := rfl
    refine sx_m8 m ((img (hoM σ) i.toNat m.toNat : Nat) : Int) i hB2 ⟨hm, by omega, by omega, trivial⟩ ?_ ?_
    · intro τ3 y3 hB3 F3 f _ d _
      have bf := bitF hm (by omega) d.1 d.2.1 f.2.2.2.2.1.2
      refine ih _ τ3 ⟨by omega, by omega, ?_, hB3, FQ.tr G2 F3⟩
      rw [e1, st, bf, if_neg (by decide), Nat.or_zero]
    · intro τ3 y3 hB3 F3 f _ d c
      have bt := bitT hm (by omega) d.1 d.2.1 f.2.2.2.2.1.1
      have c5 := c.1
      rw [F3 96 _ rfl, G2 96 _ rfl] at c5
      have bi := hb i.toNat (by omega)
      have y7 := orJ (by omega) (by omega) d.2.2.1 d.2.2.2.1
      rw [Int.toNat_natCast, ← c5] at y7
      refine ih _ τ3 ⟨by omega, by omega, ?_, hB3, FQ.tr G2 F3⟩
      rw [e1, st, if_pos bt, y7]
def fctI (n : Int) : Int := if n = 2 then 2 else if n = 3 then 6 else if n = 4 then 24 else if n = 5 then 120 else if n = 6 then 720 else if n = 7 then 5040 else if n = 8 then 40320 else if n = 9 then 362880 else if n = 10 then 3628800 else 1
set_option maxRecDepth 20000 in
theorem x_ord {σ : pm_S} (n : Int) (hB : an_GB pm_B σ) (hn : (-11) ≤ n ∧ n ≤ 10) : Sp 112 9 [.int (Int32.ofInt n)] σ (fun r τ => r = some (.int (Int32.ofInt (fctI n))) ∧ an_GB pm_B τ ∧ FQ [] σ τ) := by
  refine Sp.at rfl rfl ?_
  rcases (show n ≤ 1 ∨ n = 2 ∨ n = 3 ∨ n = 4 ∨ n = 5 ∨ n = 6 ∨ n = 7 ∨ n = 8 ∨ n = 9 ∨ n = 10 by omega) with h | rfl | rfl | rfl | rfl | rfl | rfl | rfl | rfl | rfl
  · refine sx_o1 n _ _ rfl rfl hB ⟨by omega, trivial⟩ ?_
    intro τ y hB1 F1 _ _ _ _
    refine ⟨?_, hB1, F1⟩
    have e : fctI n = 1 := by
      unfold fctI
      rw [if_neg (by omega), if_neg (by omega), if_neg (by omega), if_neg (by omega), if_neg (by omega), if_neg (by omega), if_neg (by omega), if_neg (by omega), if_neg (by omega)]
    rw [e]
  · refine sx_o2 _ _ rfl rfl hB ?_
    intro τ y hB1 F1 _ _ _ _
    exact ⟨rfl, hB1, F1⟩
  · refine sx_o3 _ _ rfl rfl hB ?_
    intro τ y hB1 F1 _ _ _ _
    exact ⟨rfl, hB1, F1⟩
  · refine sx_o4 _ _ rfl rfl hB ?_
    intro τ y hB1 F1 _ _ _ _
    exact ⟨rfl, hB1, F1⟩
  · refine sx_o5 _ _ rfl rfl hB ?_
    intro τ y hB1 F1 _ _ _ _
    exact ⟨rfl, hB1, F1⟩
  · refine sx_o6 _ _ rfl rfl hB ?_
    intro τ y hB1 F1 _ _ _ _
    exact ⟨rfl, hB1, F1⟩
  · refine sx_o7 _ _ rfl rfl hB ?_
    intro τ y hB1 F1 _ _ _ _
    exact ⟨rfl, hB1, F1⟩
  · refine sx_o8 _ _ rfl rfl hB ?_
    intro τ y hB1 F1 _ _ _ _
    exact ⟨rfl, hB1, F1⟩
  · refine sx_o9 _ _ rfl rfl hB ?_
    intro τ y hB1 F1 _ _ _ _
    exact ⟨rfl, hB1, F1⟩
  · refine sx_o10 _ _ rfl rfl hB ?_
    intro τ y hB1 F1 _ _ _ _
    exact ⟨rfl, hB1, F1⟩
set_option maxRecDepth 20000 in
theorem x_fct {σ : pm_S} (n : Int) (hB : an_GB pm_B σ) (hn : (-11) ≤ n ∧ n ≤ 10) : Sp 227 9 [.ref 93, .int (Int32.ofInt n)] σ (fun r τ => r = some (.int (Int32.ofInt (fctI n))) ∧ an_GB pm_B τ ∧ FQ [] σ τ) := by
  refine Sp.at rfl rfl ?_
  rcases (show n ≤ 1 ∨ n = 2 ∨ n = 3 ∨ n = 4 ∨ n = 5 ∨ n = 6 ∨ n = 7 ∨ n = 8 ∨ n = 9 ∨ n = 10 by omega) with h | rfl | rfl | rfl | rfl | rfl | rfl | rfl | rfl | rfl
  · refine sx_f1 n _ _ rfl rfl hB ⟨by omega, trivial⟩ ?_
    intro τ y hB1 F1 _ _ _ _
    refine ⟨?_, hB1, F1⟩
    have e : fctI n = 1 := by
      unfold fctI
      rw [if_neg (by omega), if_neg (by omega), if_neg (by omega), if_neg (by omega), if_neg (by omega), if_neg (by omega), if_neg (by omega), if_neg (by omega), if_neg (by omega)]
    rw [e]
  · refine sx_f2 _ _ rfl rfl hB ?_
    intro τ y hB1 F1 _ _ _ _
    exact ⟨rfl, hB1, F1⟩
  · refine sx_f3 _ _ rfl rfl hB ?_
    intro τ y hB1 F1 _ _ _ _
    exact ⟨rfl, hB1, F1⟩
  · refine sx_f4 _ _ rfl rfl hB ?_
    intro τ y hB1 F1 _ _ _ _
    exact ⟨rfl, hB1, F1⟩
  · refine sx_f5 _ _ rfl rfl hB ?_
    intro τ y hB1 F1 _ _ _ _
    exact ⟨rfl, hB1, F1⟩
  · refine sx_f6 _ _ rfl rfl hB ?_
    intro τ y hB1 F1 _ _ _ _
    exact ⟨rfl, hB1, F1⟩
  · refine sx_f7 _ _ rfl rfl hB ?_
    intro τ y hB1 F1 _ _ _ _
    exact ⟨rfl, hB1, F1⟩
  · refine sx_f8 _ _ rfl rfl hB ?_
    intro τ y hB1 F1 _ _ _ _
    exact ⟨rfl, hB1, F1⟩
  · refine sx_f9 _ _ rfl rfl hB ?_
    intro τ y hB1 F1 _ _ _ _
    exact ⟨rfl, hB1, F1⟩
  · refine sx_f10 _ _ rfl rfl hB ?_
    intro τ y hB1 F1 _ _ _ _
    exact ⟨rfl, hB1, F1⟩
section COACH
variable {W : Nat → Nat → Int}
set_option maxRecDepth 20000 in
/-- the model's cost of a coach -/
theorem x_coM {σ : pm_S} (f m S P : Int) (hB : an_GB pm_B σ) (hf : 0 ≤ f ∧ f < S) (hS : S ≤ 10) (hm : 0 ≤ m ∧ m ≤ 1023) (hP : 0 ≤ P ∧ P ≤ 10) (eS : cI σ 2 = S) (eP : cI σ 5 = P) (hh : ∀ i, i < P.toNat → (hoM σ i : Int) < S) (hW : ∀ a b, 0 ≤ W a b ∧ W a b ≤ 99) (hr : ∀ a c : Nat, a < 10 → c < 10 → W a c = if a = c then 0 else 9 + (σ.1 95 (a * 10 + c)).toInt) : Sp 228 23 [.ref 93, .int (Int32.ofInt f), .int (Int32.ofInt m)] σ (fun r τ => r = some (.int (Int32.ofInt (On W f.toNat S.toNat (clrN (img (hoM σ) P.toNat m.toNat) f.toNat) f.toNat))) ∧ an_GB pm_B τ ∧ FQ FOn σ τ) := by
  have hl : img (hoM σ) P.toNat m.toNat < 2 ^ S.toNat := img_lt _ (fun i hi => by have := hh i hi; omega)
  have s10 : S.toNat ≤ 10 := by omega
  have p10 : 2 ^ S.toNat ≤ 1024 := Nat.pow_le_pow_right (by decide) s10
  refine Sp.at rfl rfl ?_
  refine sx_k0 f m hB ⟨by omega, hm, trivial⟩ ?_
  intro τ y hB1 F1 _ _ _ _
  refine Ok.cv rfl rfl rfl rfl rfl rfl rfl ?_
  refine (x_hoM m P hB1 hm hP ((F1.c 5 rfl).trans eP)).use (by decide) (fun r τ2 q => ?_)
  obtain ⟨rfl, hB2, F2⟩ := q
  have eh : img (hoM τ) P.toNat m.toNat = img (hoM σ) P.toNat m.toNat := img_cg (fun i hi => by show (τ.1 96 i).toInt.toNat = _; rw [F1 96 i rfl])
  rw [eh]
  have G2 : FQ [] σ τ2 := FQ.tr F1 F2
  refine sx_k5 f m ((img (hoM σ) P.toNat m.toNat : Nat) : Int) hB2 ⟨by omega, hm, by omega, trivial⟩ ?_
  intro τ3 y3 hB3 F3 g3 _ d3 _
  have G3 : FQ [] σ τ3 := FQ.tr G2 F3
  have ac := clrI (by omega) (by omega) d3.1 d3.2.1 d3.2.2.1
  have cn : y3 5 = ((clrN (img (hoM σ) P.toNat m.toNat) f.toNat : Nat) : Int) := by
    rw [ac, Int.toNat_natCast]
    unfold clrN
    split <;> rfl
  have cb : clrN (img (hoM σ) P.toNat m.toNat) f.toNat < 2 ^ S.toNat := by
    unfold clrN
    split
    · rename_i hb
      have := x2p (img (hoM σ) P.toNat m.toNat) (by omega) f.toNat (by omega) hb
      have z2 : 0 < 2 ^ f.toNat := Nat.two_pow_pos _
      omega
    · exact hl
  rw [cn]
  refine Ok.cv rfl rfl rfl rfl rfl rfl rfl ?_
  refine (x_tF (W := W) f ((clrN (img (hoM σ) P.toNat m.toNat) f.toNat : Nat) : Int) S hB3 hf hS (by omega) ((G3.c 2 rfl).trans eS) hW (fun a c ha hc => by rw [G3 95 _ rfl]; exact hr a c ha hc)).use (by decide) (fun r τ4 p => ?_)
  obtain ⟨rfl, hB4, F4⟩ := p
  rw [Int.toNat_natCast]
  have ob := On_b2 (W := W) (fr := f.toNat) s10 hW cb f.toNat
  refine sx_k12 f m _ hB4 ⟨by omega, hm, by omega, trivial⟩ ?_
  intro τ5 y5 hB5 F5 _ _ _ _
  exact ⟨rfl, hB5, FQ.tr (FQ.up (G := []) rfl G3) (FQ.tr F4 (FQ.up (G := []) rfl F5))⟩
set_option maxRecDepth 20000 in
/-- the class's cost of a coach, behind prepare for the homes of more -/
theorem x_coC {σ : pm_S} (f m m0 S P : Int) (hB : an_GB pm_B σ) (hf : 0 ≤ f ∧ f < S) (hS : S ≤ 10) (hm : 0 ≤ m ∧ m ≤ 1023) (hP : 0 ≤ P ∧ P ≤ 10) (eP : (σ.1 7 0).toInt = P) (hh : ∀ i, i < P.toNat → (hoC σ i : Int) < S) (hW : ∀ a b, 0 ≤ W a b ∧ W a b ≤ 99) (hW0 : ∀ a, W a a = 0) (hsub : sbs (img (hoC σ) P.toNat m.toNat) m0.toNat) (hq : SQ σ (stp (PS f.toNat m0.toNat) S.toNat).length (fun i => (stp (PS f.toNat m0.toNat) S.toNat).getD i 0)) (hl : LFQ σ W f.toNat (stp (PS f.toNat m0.toNat) S.toNat).length (fun i => (stp (PS f.toNat m0.toNat) S.toNat).getD i 0)) (ht : TBQ σ W f.toNat S.toNat (stp (PS f.toNat m0.toNat) S.toNat).length (fun i => (stp (PS f.toNat m0.toNat) S.toNat).getD i 0) (2 ^ (stp (PS f.toNat m0.toNat) S.toNat).length)) : Sp 111 23 [.ref 85, .int (Int32.ofInt m)] σ (fun r τ => r = some (.int (Int32.ofInt (On W f.toNat S.toNat (clrN (img (hoC σ) P.toNat m.toNat) f.toNat) f.toNat))) ∧ an_GB pm_B τ ∧ FQ [] σ τ) := by
  have hi : img (hoC σ) P.toNat m.toNat < 2 ^ S.toNat := img_lt _ (fun i hi => by have := hh i hi; omega)
  have s10 : S.toNat ≤ 10 := by omega
  have p10 : 2 ^ S.toNat ≤ 1024 := Nat.pow_le_pow_right (by decide) s10
  have hPf : PS f.toNat m0.toNat f.toNat = false := PS_fr
  refine Sp.at rfl rfl ?_
  refine sx_c0 m hB ⟨hm, trivial⟩ ?_
  intro τ y hB1 F1 _ _ _ _
  refine Ok.cv rfl rfl rfl rfl rfl rfl rfl ?_
  refine (x_hoC m P hB1 hm hP ((congrArg Int32.toInt (F1 7 0 rfl)).trans eP)).use (by decide) (fun r τ2 q => ?_)
  obtain ⟨rfl, hB2, F2⟩ := q
  have eh : img (hoC τ) P.toNat m.toNat = img (hoC σ) P.toNat m.toNat := img_cg (fun i hi => by show (τ.1 8 i).toInt.toNat = _; rw [F1 8 i rfl])
  rw [eh]
  have G2 : FQ [] σ τ2 := FQ.tr F1 F2
  refine Ok.cv rfl rfl rfl rfl rfl rfl rfl ?_
  refine (x_fM (W := W) (fr := f.toNat) (N := S.toNat) ((img (hoC σ) P.toNat m.toNat : Nat) : Int) hB2 (by omega) s10 hW (hW0 _) (fun i j hi hj e => stp_inj hi hj e) (fun i hi => ((stp_mem _).mp (stp_get hi)).1) (stp_9 hPf (S := S.toNat) (by omega) (by omega) (Nat.le_refl _)) (SQ.fr [] rfl rfl G2 hq) (LFQ.fm [] rfl rfl G2 hl) (TBQ.fm [] rfl G2 ht)).use (by decide) (fun r τ3 p => ?_)
  obtain ⟨hB3, F3, b, hb, hbi, rfl⟩ := p
  have ei : img (fun i => (stp (PS f.toNat m0.toNat) S.toNat).getD i 0) (stp (PS f.toNat m0.toNat) S.toNat).length b = clrN (img (hoC σ) P.toNat m.toNat) f.toNat := by
    refine img_set (fun i hi => ?_) (fun t ht => ?_)
    · rw [hbi i hi, clrN_t, Int.toNat_natCast]
      have mi := ((stp_mem _).mp (stp_get hi)).2
      constructor
      · exact fun h => ⟨h, fun e => by rw [e, hPf] at mi; cases mi⟩
      · exact fun h => h.1
    · have h := clrN_t.mp ht
      refine ⟨?_, by rw [PS_ne h.2]; exact hsub t h.1⟩
      by_cases lt : t < S.toNat
      · exact lt
      · have : img (hoC σ) P.toNat m.toNat < 2 ^ t := Nat.lt_of_lt_of_le hi (Nat.pow_le_pow_right (by decide) (by omega))
        rw [Nat.testBit_lt_two_pow this] at h
        cases h.1
  rw [ei]
  have cb : clrN (img (hoC σ) P.toNat m.toNat) f.toNat < 2 ^ S.toNat := by
    unfold clrN
    split
    · rename_i hb
      have := x2p (img (hoC σ) P.toNat m.toNat) (by omega) f.toNat (by omega) hb
      have z2 : 0 < 2 ^ f.toNat := Nat.two_pow_pos _
      omega
    · exact hi
  have ob := On_b2 (W := W) (fr := f.toNat) s10 hW cb f.toNat
  refine sx_c7 m _ hB3 ⟨hm, by omega, trivial⟩ ?_
  intro τ4 y4 hB4 F4 _ _ _ _
  exact ⟨rfl, hB4, FQ.tr (FQ.tr G2 F3) F4⟩
end COACH
