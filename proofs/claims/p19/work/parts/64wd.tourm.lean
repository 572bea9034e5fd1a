/-! the model's tour: its loops -/
theorem sub0 {l s : Nat} (hl : l < 1024) (hs : s < 1024) : (Int32.ofInt (l : Int) &&& (Int32.ofInt (s : Int) ^^^ Int32.ofInt (-1))).toInt = 0 ↔ ∀ t, Nat.testBit l t = true → Nat.testBit s t = true := by
  have e1 : (Int32.ofInt (l : Int)).toBitVec = BitVec.ofNat 32 l := by
    rw [Int32.toBitVec_ofInt, BitVec.ofInt_natCast]
  have e2 : (Int32.ofInt (s : Int)).toBitVec = BitVec.ofNat 32 s := by
    rw [Int32.toBitVec_ofInt, BitVec.ofInt_natCast]
  have e3 : (Int32.ofInt (-1)).toBitVec = BitVec.allOnes 32 := by decide
  have lt : ∀ (x t : Nat), x < 1024 → Nat.testBit x t = true → t < 32 := fun x t hx h => by
    by_cases c : t < 32
    · exact c
    · rw [Nat.testBit_lt_two_pow (Nat.lt_of_lt_of_le hx (show 1024 ≤ 2 ^ t from Nat.pow_le_pow_right (n := 2) (by decide) (show 10 ≤ t by omega)))] at h
      cases h
  have z : (Int32.ofInt (l : Int) &&& (Int32.ofInt (s : Int) ^^^ Int32.ofInt (-1))).toInt = 0 ↔ (BitVec.ofNat 32 l &&& (BitVec.ofNat 32 s ^^^ BitVec.allOnes 32)) = 0#32 := by
    rw [← e1, ← e2, ← e3, ← Int32.toBitVec_xor, ← Int32.toBitVec_and]
    constructor
    · intro h
      have h2 : (Int32.ofInt (l : Int) &&& (Int32.ofInt (s : Int) ^^^ Int32.ofInt (-1))) = 0 := Int32.toInt_inj.mp h
      rw [h2]
      rfl
    · intro h
      have h2 : (Int32.ofInt (l : Int) &&& (Int32.ofInt (s : Int) ^^^ Int32.ofInt (-1))) = 0 := Int32.toBitVec_inj.mp h
      rw [h2]
      rfl
  rw [z]
  constructor
  · intro h t ht
    have lt32 := lt l t hl ht
    have b := congrArg (fun v => BitVec.getLsbD v t) h
    simp only [BitVec.getLsbD_and, BitVec.getLsbD_xor, BitVec.getLsbD_ofNat, BitVec.getLsbD_allOnes, BitVec.getLsbD_zero, lt32, decide_true, Bool.true_and, ht, Bool.xor_true] at b
    simpa using b
  · intro h
    refine BitVec.eq_of_getLsbD_eq (fun t ht => ?_)
    simp only [BitVec.getLsbD_and, BitVec.getLsbD_xor, BitVec.getLsbD_ofNat, BitVec.getLsbD_allOnes, BitVec.getLsbD_zero, ht, decide_true, Bool.true_and, Bool.xor_true]
    rw [Nat.zero_testBit]
    cases e : Nat.testBit l t with
    | false => rfl
    | true => rw [h t e]; rfl
theorem subI {x m y3 y4 : Int} (hx : 0 ≤ x ∧ x ≤ 1023) (hm : 0 ≤ m ∧ m ≤ 1023) (d3 : (an_f 5 (Int32.ofInt m) (Int32.ofInt (-1))).toInt = y3) (d4 : (an_f 3 (Int32.ofInt x) (Int32.ofInt y3)).toInt = y4) : y4 = 0 ↔ ∀ t, Nat.testBit x.toNat t = true → Nat.testBit m.toNat t = true := by
  have h := sub0 (l := x.toNat) (s := m.toNat) (by omega) (by omega)
  rw [nOf hx.1, nOf hm.1] at h
  rw [← d4, ← d3, oI]
  exact h
section TOURM
variable {W : Nat → Nat → Int}
set_option maxRecDepth 20000 in
theorem x_mO {σ : pm_S} (a b : Int) (hB : an_GB pm_B σ) (ha : 0 ≤ a ∧ a ≤ 9) (hb : 0 ≤ b ∧ b ≤ 9) (hr : ∀ a c : Nat, a < 10 → c < 10 → W a c = if a = c then 0 else 9 + (σ.1 95 (a * 10 + c)).toInt) : Sp 165 9 [.ref 93, .int (Int32.ofInt a), .int (Int32.ofInt b)] σ (fun r τ => r = some (.int (Int32.ofInt (W a.toNat b.toNat))) ∧ an_GB pm_B τ ∧ FQ [] σ τ) := by
  have h := hr a.toNat b.toNat (by omega) (by omega)
  refine Sp.at rfl rfl ?_
  refine sv_mo0 a b hB ⟨ha, hb, trivial⟩ ?_
  intro τ y hB1 F1 _ _ _ _
  refine Ok.ic rfl rfl (by omega) (by omega) (by omega) (by omega) (fun z => ?_) (fun z => ?_)
  · have z : a ≠ b := z
    refine sv_mo5 a b hB1 ⟨ha, hb, trivial⟩ ?_
    intro τ2 y2 hB2 F2 f _ d c
    have e2 := mulD (by omega) (by omega) d.1
    have e3 := addC (by omega) (by omega) d.2.1
    refine ⟨?_, hB2, FQ.tr F1 F2⟩
    have x3 : (y2 3).toNat = a.toNat * 10 + b.toNat := by omega
    have c4 := c.1
    rw [x3, F2 95 _ rfl, F1 95 _ rfl] at c4
    rw [if_neg (by omega)] at h
    have e : y2 4 + 9 = W a.toNat b.toNat := by omega
    rw [e]
  · have z : a = b := z
    refine sv_mo3 a b hB1 ⟨ha, hb, trivial⟩ ?_
    intro τ2 y2 hB2 F2 _ _ _ _
    refine ⟨?_, hB2, FQ.tr F1 F2⟩
    rw [h, if_pos (by omega)]
/-- onward, as far as the sets below bm that are parts of m -/
def OBQ (τ : pm_S) (W : Nat → Nat → Int) (fr N m bm : Nat) : Prop := ∀ l, l < bm → (∀ t, Nat.testBit l t = true → Nat.testBit m t = true) → ∀ s, s < N → (τ.1 129 (l * 10 + s)).toInt = On W fr N l s
theorem OBQ.fm {σ τ : pm_S} {fr N m bm : Nat} (G : List (Nat × Nat)) (h1 : an_inP G 129 = false) (hF : FQ G σ τ) (h : OBQ σ W fr N m bm) : OBQ τ W fr N m bm := fun l h1' h2 s hs => by rw [hF 129 _ (an_inP_ok h1 _)]; exact h l h1' h2 s hs
abbrev FOn : List (Nat × Nat) := [(129, 9999)]
theorem On_b2 {fr N : Nat} (hN : N ≤ 10) (hW : ∀ a b, 0 ≤ W a b ∧ W a b ≤ 99) {l : Nat} (hl : l < 2 ^ N) (s : Nat) : 0 ≤ On W fr N l s ∧ On W fr N l s ≤ 110000 := by
  have p10 : 2 ^ N ≤ 1024 := Nat.pow_le_pow_right (by decide) hN
  have := On_b W fr N hN hW 1024 l (by omega) (by omega) hl s
  omega
set_option maxRecDepth 20000 in
/-- the inner loop: the least over all of a set -/
theorem x_in {σ : pm_S} {Q : Option Value → pm_S → Prop} (f m S l s : Int) (hf : 0 ≤ f ∧ f ≤ 9) (hm : 0 ≤ m ∧ m ≤ 1023) (hS : 0 ≤ S ∧ S ≤ 10) (hl : 1 ≤ l ∧ l < ((2 ^ S.toNat : Nat) : Int)) (hs : 0 ≤ s ∧ s < S) (eS : (σ.1 93 2).toInt = S) (hW : ∀ a b, 0 ≤ W a b ∧ W a b ≤ 99) (hr : ∀ a c : Nat, a < 10 → c < 10 → W a c = if a = c then 0 else 9 + (σ.1 95 (a * 10 + c)).toInt) (hsub : ∀ t, Nat.testBit l.toNat t = true → Nat.testBit m.toNat t = true) (ho : OBQ σ W f.toNat S.toNat m.toNat l.toNat)
    (ex : ∀ (τ : pm_S) (v : Value), v.category = 1 → an_GB pm_B τ → FQ [] σ τ → Ok 224 21 81 [.ref 93, .int (Int32.ofInt f), .int (Int32.ofInt m), .int (Int32.ofInt l), .int (Int32.ofInt s), .int (Int32.ofInt (On W f.toNat S.toNat l.toNat s.toNat)), .int (Int32.ofInt S), v] [] τ Q) :
    ∀ (τ0 : pm_S) (v0 : Value), v0.category = 1 → an_GB pm_B τ0 → FQ [] σ τ0 → Ok 224 21 41 [.ref 93, .int (Int32.ofInt f), .int (Int32.ofInt m), .int (Int32.ofInt l), .int (Int32.ofInt s), .int (Int32.ofInt 1000000000), .int (Int32.ofInt 0), v0] [] τ0 Q := by
  intro τ0 v0 hv0 hB0 F0
  have s10 : S.toNat ≤ 10 := by omega
  have p10 : 2 ^ S.toNat ≤ 1024 := Nat.pow_le_pow_right (by decide) s10
  have cl : ∀ t, t < S.toNat → Nat.testBit l.toNat t = true → (l.toNat ^^^ 2 ^ t < l.toNat) ∧ (σ.1 129 ((l.toNat ^^^ 2 ^ t) * 10 + t)).toInt = On W f.toNat S.toNat (l.toNat ^^^ 2 ^ t) t ∧ 0 ≤ On W f.toNat S.toNat (l.toNat ^^^ 2 ^ t) t ∧ On W f.toNat S.toNat (l.toNat ^^^ 2 ^ t) t ≤ 110000 := fun t ht hb => by
    have z := x2p l.toNat (by omega) t (by omega) hb
    have z2 : 0 < 2 ^ t := Nat.two_pow_pos t
    have b := On_b2 (W := W) (fr := f.toNat) s10 hW (l := l.toNat ^^^ 2 ^ t) (by omega) t
    refine ⟨by omega, ho _ (by omega) (fun j hj => hsub j ((tb_x hb).mp hj).1) t ht, b.1, b.2⟩
  refine Ok.loop (fun i L τ => 0 ≤ i ∧ i ≤ S ∧ (∃ v : Value, v.category = 1 ∧ L = [.ref 93, .int (Int32.ofInt f), .int (Int32.ofInt m), .int (Int32.ofInt l), .int (Int32.ofInt s), .int (Int32.ofInt (mnB 1000000000 (fun t => Nat.testBit l.toNat t) (fun t => W s.toNat t + On W f.toNat S.toNat (l.toNat ^^^ 2 ^ t) t) i.toNat)), .int (Int32.ofInt i), v]) ∧ an_GB pm_B τ ∧ FQ [] σ τ) S (fun i L τ h => h.2.1) ?_ 0 _ τ0 ⟨by decide, by omega, ⟨v0, hv0, rfl⟩, hB0, F0⟩
  rintro i L τ ⟨i0, i1, ⟨v, hv, rfl⟩, hB1, F1⟩ ih
  have mb := mnB_b (B := 1000000000) (P := fun t => Nat.testBit l.toNat t) (f := fun t => W s.toNat t + On W f.toNat S.toNat (l.toNat ^^^ 2 ^ t) t) (by decide) i.toNat (fun j hj hbj => by
    have a := cl j (by omega) hbj
    have b := hW s.toNat j
    omega)
  generalize hmn : mnB 1000000000 (fun t => Nat.testBit l.toNat t) (fun t => W s.toNat t + On W f.toNat S.toNat (l.toNat ^^^ 2 ^ t) t) i.toNat = mn at mb
  refine sv_f41 f m l s mn i S v hv hB1 ⟨hf, hm, by omega, by omega, by omega, by omega, hS, trivial⟩ ⟨(congrArg Int32.toInt (F1 93 2 rfl)).trans eS, trivial⟩ ?_
  intro τ2 y2 v2 hv2 hB2 F2 _ _ _ _
  have G2 : FQ [] σ τ2 := FQ.tr F1 F2
  have e1 : (i + 1).toNat = i.toNat + 1 := by omega
  refine Ok.ic rfl rfl (by omega) (by omega) (by omega) (by omega) (fun z => ?_) (fun z => ?_)
  · have z : S ≤ i := z
    have e : i = S := by omega
    have h := On_s W f.toNat S.toNat s10 s.toNat (left := l.toNat) (by omega) (by omega)
    have hm2 := hmn
    rw [e] at hm2
    have h2 := ex τ2 v2 hv2 hB2 G2
    rw [h.trans hm2] at h2
    rw [e]
    exact h2
  · have z : i < S := z
    refine sv_f45 f m l s mn i v2 hv2 hB2 ⟨hf, hm, by omega, by omega, by omega, by omega, trivial⟩ ?_ ?_
    · intro τ3 y3 v3 hv3 hB3 F3 g _ d _
      have bt := bitT (by omega) (by omega) d.1 d.2.1 g.2.2.2.2.2.2.2.1.1
      have ci := cl i.toNat (by omega) bt
      have wi := hW s.toNat i.toNat
      have G3 : FQ [] σ τ3 := FQ.tr G2 F3
      refine Ok.cv rfl rfl rfl rfl rfl rfl rfl ?_
      refine (x_mO (W := W) s i hB3 (by omega) (by omega) (fun a c ha hc => by rw [G3 95 _ rfl]; exact hr a c ha hc)).use (by decide) (fun r τ4 q => ?_)
      obtain ⟨rfl, hB4, F4⟩ := q
      have G4 : FQ [] σ τ4 := FQ.tr G3 F4
      refine sv_f56 f m l s mn i (W s.toNat i.toNat) v3 hv3 hB4 ⟨hf, hm, by omega, by omega, by omega, by omega, wi, trivial⟩ ?_
      intro τ5 y5 hB5 F5 g5 _ d5 c5
      have G5 : FQ [] σ τ5 := FQ.tr G4 F5
      have ac := clrI (by omega) (by omega) d5.1 d5.2.1 d5.2.2.1
      rw [if_pos bt] at ac
      have a10 := mulD (by omega) (by omega) d5.2.2.2.1
      have a11 := addC (by omega) (by omega) d5.2.2.2.2.1
      have x11 : (y5 11).toNat = (l.toNat ^^^ 2 ^ i.toNat) * 10 + i.toNat := by omega
      have c12 := c5.1
      rw [x11, G5 129 _ rfl, ci.2.1] at c12
      have a13 := addC (by omega) (by omega) d5.2.2.2.2.2.1
      have v13 : y5 13 = W s.toNat i.toNat + On W f.toNat S.toNat (l.toNat ^^^ 2 ^ i.toNat) i.toNat := by omega
      have nx : mnB 1000000000 (fun t => Nat.testBit l.toNat t) (fun t => W s.toNat t + On W f.toNat S.toNat (l.toNat ^^^ 2 ^ t) t) (i + 1).toNat = min mn (y5 13) := by rw [e1, mnB_t bt, hmn, v13]
      refine Ok.ic rfl rfl (by omega) (by omega) (by omega) (by omega) (fun w => ?_) (fun w => ?_)
      · have w : mn ≤ y5 13 := w
        refine sv_f77 f m l s mn i (y5 13) hB5 ⟨hf, hm, by omega, by omega, by omega, by omega, by omega, trivial⟩ ?_
        intro τ6 y6 hB6 F6 _ _ _ _
        have e : min mn (y5 13) = mn := by omega
        rw [e] at nx
        exact ih _ τ6 ⟨by omega, by omega, ⟨_, rfl, by rw [nx]⟩, hB6, FQ.tr G5 F6⟩
      · have w : y5 13 < mn := w
        refine sv_f75 f m l s mn i (y5 13) hB5 ⟨hf, hm, by omega, by omega, by omega, by omega, by omega, trivial⟩ ?_
        intro τ6 y6 hB6 F6 _ _ _ _
        have e : min mn (y5 13) = y5 13 := by omega
        rw [e] at nx
        exact ih _ τ6 ⟨by omega, by omega, ⟨_, rfl, by rw [nx]⟩, hB6, FQ.tr G5 F6⟩
    · intro τ3 y3 v3 hv3 hB3 F3 g _ d _
      have bf := bitF (by omega) (by omega) d.1 d.2.1 g.2.2.2.2.2.2.2.1.2
      exact ih _ τ3 ⟨by omega, by omega, ⟨v3, hv3, by rw [e1, mnB_f bf, hmn]⟩, hB3, FQ.tr G2 F3⟩
end TOURM
