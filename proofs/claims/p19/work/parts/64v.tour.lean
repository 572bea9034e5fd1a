/-! the class's tour: its loops -/
theorem Ok.cs {k D idx : Nat} {M : pm_M} {L st : List Value} {σ : pm_S} {Q : Option Value → pm_S → Prop} {pc ln x y : Nat} {zs : List Nat} (hM : pm_nth pm_tab k = some M) {off : Nat} (hi : pm_nth M.2.2.2.2.2 idx = some (pc, .invokestatic off, ln, x, y, zs)) {As rest : List Value} (h0 : Nat.ble 1000 x = false) (hx : Nat.ble x 255 = true) (hp : pm_pop y [] st = some (As, rest)) (hc : Nat.ble (pm_cs rest) 8 = true) (h : Sp x D As σ (fun r τ => Ok k (D + 1) (idx + 1) L (pm_rv r rest) τ Q)) : Ok k (D + 1) idx L st σ Q := by
  refine Ok.one (by rw [← pm_nth_eq]; exact hM) hi ?_
  unfold pm_go
  dsimp only
  rw [h0]
  dsimp only
  unfold pm_gcS
  rw [hx]
  dsimp only
  rw [hp]
  dsimp only
  rw [hc]
  exact h
set_option maxRecDepth 20000 in
theorem x_mB {σ : pm_S} (a b S : Int) (hB : an_GB pm_B σ) (ha : 0 ≤ a ∧ a < S) (hb : 0 ≤ b ∧ b < S) (hS : S ≤ 10) (eS : (σ.1 3 0).toInt = S) : Sp 85 9 [.ref 3, .int (Int32.ofInt a), .int (Int32.ofInt b)] σ (fun r τ => r = some (.int (Int32.ofInt (σ.1 5 (a * 10 + b).toNat).toInt)) ∧ an_GB pm_B τ ∧ FQ [] σ τ) := by
  refine Sp.at rfl rfl ?_
  refine su_mb0 a b hB ⟨by omega, by omega, trivial⟩ ?_
  intro τ y hB1 F1 _ _ _ _
  refine Ok.cv rfl rfl rfl rfl rfl rfl rfl ?_
  refine (x_h82 a S hB1 (by omega) ((congrArg Int32.toInt (F1 3 0 rfl)).trans eS)).use (by decide) (fun r τ2 q => ?_)
  obtain ⟨hB2, F2, ⟨q, rfl, -⟩ | ⟨q, rfl, -⟩⟩ := q
  · exfalso
    omega
  have G2 : FQ [] σ τ2 := FQ.tr F1 F2
  refine su_mb3 a b hB2 ⟨by omega, by omega, trivial⟩ ?_
  intro τ3 y3 hB3 F3 _ _ _ _
  have G3 : FQ [] σ τ3 := FQ.tr G2 F3
  refine Ok.cv rfl rfl rfl rfl rfl rfl rfl ?_
  refine (x_h82 b S hB3 (by omega) ((congrArg Int32.toInt (G3 3 0 rfl)).trans eS)).use (by decide) (fun r τ4 q => ?_)
  obtain ⟨hB4, F4, ⟨q, rfl, -⟩ | ⟨q, rfl, -⟩⟩ := q
  · exfalso
    omega
  have G4 : FQ [] σ τ4 := FQ.tr G3 F4
  refine su_mb7 a b hB4 ⟨by omega, by omega, trivial⟩ ?_
  intro τ5 y5 hB5 F5 f _ d c
  have e2 := mulC (by omega) (by omega) d.1
  have e3 := addC (by omega) (by omega) d.2.1
  have e : y5 3 = a * 10 + b := by omega
  refine ⟨?_, hB5, FQ.tr G4 F5⟩
  rw [← c.1, F5 5 _ rfl, G4 5 _ rfl, e]
/-- a spot that is a stop -/
abbrev PS (fr m : Nat) : Nat → Bool := fun t => !(Nat.beq t fr) && Nat.testBit m t
abbrev FTs : List (Nat × Nat) := [(85, 1), (86, 9999)]
/-- the stops as they stand in the row -/
def STQ (τ : pm_S) (P : Nat → Bool) (s : Nat) : Prop := (τ.1 85 1).toInt = (((stp P s).length : Nat) : Int) ∧ ∀ i, i < (stp P s).length → (τ.1 86 i).toInt = (((stp P s).getD i 0 : Nat) : Int)
theorem STQ.fr {σ τ : pm_S} {P : Nat → Bool} {s : Nat} (G : List (Nat × Nat)) (h1 : an_inF G 85 1 = false) (h2 : an_inP G 86 = false) (hF : FQ G σ τ) (h : STQ σ P s) : STQ τ P s := ⟨by rw [hF 85 1 h1]; exact h.1, fun i hi => by rw [hF 86 i (an_inP_ok h2 i)]; exact h.2 i hi⟩
theorem PS_fr {fr m : Nat} : PS fr m fr = false := by
  show (!(Nat.beq fr fr) && _) = false
  rw [Nat.beq_refl]
  rfl
theorem PS_ne {fr m t : Nat} (h : t ≠ fr) : PS fr m t = Nat.testBit m t := by
  show (!(Nat.beq t fr) && _) = _
  have e : Nat.beq t fr = false := by
    cases z : Nat.beq t fr with
    | false => rfl
    | true => exact absurd (Nat.eq_of_beq_eq_true z) h
  rw [e]
  rfl
theorem stp_9 {P : Nat → Bool} {fr S s : Nat} (hf : P fr = false) (h1 : fr < S) (h2 : S ≤ 10) (h3 : s ≤ S) : (stp P s).length ≤ 9 := by
  have a := stp_len (P := P) s
  by_cases e : fr < s
  · have := stp_lf hf s e
    omega
  · omega
theorem stp_8 {P : Nat → Bool} {fr S s : Nat} (hf : P fr = false) (h1 : fr < S) (h2 : S ≤ 10) (h3 : s < S) (h4 : s ≠ fr) : (stp P s).length ≤ 8 := by
  have a := stp_len (P := P) s
  by_cases e : fr < s
  · have := stp_lf hf s e
    omega
  · omega
theorem stp_t {P : Nat → Bool} {s : Nat} (h : P s = true) : (stp P (s + 1)).length = (stp P s).length + 1 ∧ (∀ i, i < (stp P s).length → (stp P (s + 1)).getD i 0 = (stp P s).getD i 0) ∧ (stp P (s + 1)).getD (stp P s).length 0 = s := by
  have e : stp P (s + 1) = stp P s ++ [s] := if_pos h
  rw [e]
  refine ⟨by rw [List.length_append, List.length_singleton], fun i hi => ?_, ?_⟩
  · rw [List.getD_eq_getElem?_getD, List.getElem?_append_left hi, ← List.getD_eq_getElem?_getD]
  · rw [List.getD_eq_getElem?_getD, List.getElem?_append_right (Nat.le_refl _), Nat.sub_self]
    rfl
theorem stp_f {P : Nat → Bool} {s : Nat} (h : P s = false) : stp P (s + 1) = stp P s := if_neg (by rw [h]; decide)
set_option maxRecDepth 20000 in
theorem x_stops {σ : pm_S} {Q : Option Value → pm_S → Prop} (fr m S : Int) (hf : 0 ≤ fr ∧ fr < S) (hS : S ≤ 10) (hm : 0 ≤ m ∧ m ≤ 1023) (eS : (σ.1 3 0).toInt = S)
    (ex : ∀ (τ : pm_S) (v : Value), v.category = 1 → an_GB pm_B τ → FQ FTs σ τ → STQ τ (PS fr.toNat m.toNat) S.toNat → Ok 105 21 36 [.ref 85, .int (Int32.ofInt fr), .int (Int32.ofInt m), .int (Int32.ofInt S), v] [] τ Q) :
    ∀ (τ0 : pm_S) (v0 : Value), v0.category = 1 → an_GB pm_B τ0 → FQ FTs σ τ0 → (τ0.1 85 1).toInt = 0 → Ok 105 21 5 [.ref 85, .int (Int32.ofInt fr), .int (Int32.ofInt m), .int (Int32.ofInt 0), v0] [] τ0 Q := by
  intro τ0 v0 hv0 hB0 F0 c0
  have hP : PS fr.toNat m.toNat fr.toNat = false := PS_fr
  refine Ok.loop (fun i L τ => 0 ≤ i ∧ i ≤ S ∧ (∃ v : Value, v.category = 1 ∧ L = [.ref 85, .int (Int32.ofInt fr), .int (Int32.ofInt m), .int (Int32.ofInt i), v]) ∧ an_GB pm_B τ ∧ FQ FTs σ τ ∧ STQ τ (PS fr.toNat m.toNat) i.toNat) S (fun i L τ h => h.2.1) ?_ 0 _ τ0 ⟨by decide, by omega, ⟨v0, hv0, rfl⟩, hB0, F0, c0, fun i hi => absurd hi (Nat.not_lt_zero _)⟩
  rintro i L τ ⟨i0, i1, ⟨v, hv, rfl⟩, hB1, F1, hst⟩ ih
  have l9 := stp_9 (s := i.toNat) (S := S.toNat) hP (by omega) (by omega) (by omega)
  have k0 := hst.1
  have e1 : (i + 1).toNat = i.toNat + 1 := by omega
  refine su_p5 fr m i ((stp (PS fr.toNat m.toNat) i.toNat).length : Nat) S v hv hB1 ⟨by omega, by omega, by omega, by omega, by omega, trivial⟩ ⟨k0, (congrArg Int32.toInt (F1 3 0 rfl)).trans eS, trivial⟩ ?_
  intro τ2 y2 v2 hv2 hB2 F2 _ _ _ _
  have G2 : FQ FTs σ τ2 := FQ.tr F1 (FQ.up (G := []) rfl F2)
  have s2 : STQ τ2 (PS fr.toNat m.toNat) i.toNat := STQ.fr [] rfl rfl F2 hst
  refine Ok.ic rfl rfl (by omega) (by omega) (by omega) (by omega) (fun z => ?_) (fun z => ?_)
  · have z : S ≤ i := z
    have e : i = S := by omega
    rw [e] at s2 ⊢
    exact ex τ2 v2 hv2 hB2 G2 s2
  · have z : i < S := z
    refine su_p11 fr m i ((stp (PS fr.toNat m.toNat) i.toNat).length : Nat) v2 hv2 hB2 ⟨by omega, by omega, by omega, by omega, trivial⟩ ⟨s2.1, trivial⟩ ?_
    intro τ3 y3 v3 hv3 hB3 F3 _ _ _ _
    have G3 : FQ FTs σ τ3 := FQ.tr G2 (FQ.up (G := []) rfl F3)
    have s3 : STQ τ3 (PS fr.toNat m.toNat) i.toNat := STQ.fr [] rfl rfl F3 s2
    refine Ok.ic rfl rfl (by omega) (by omega) (by omega) (by omega) (fun w => ?_) (fun w => ?_)
    · have w : i = fr := w
      refine su_p34 fr m i ((stp (PS fr.toNat m.toNat) i.toNat).length : Nat) v3 hv3 hB3 ⟨by omega, by omega, by omega, by omega, trivial⟩ ⟨s3.1, trivial⟩ ?_
      intro τ4 y4 v4 hv4 hB4 F4 _ _ _ _
      refine ih _ τ4 ⟨by omega, by omega, ⟨v4, hv4, rfl⟩, hB4, FQ.tr G3 (FQ.up (G := []) rfl F4), ?_⟩
      have e : PS fr.toNat m.toNat i.toNat = false := by rw [w]; exact hP
      have s4 := STQ.fr [] rfl rfl F4 s3
      unfold STQ at s4 ⊢
      rw [e1, stp_f e]
      exact s4
    · have w : i ≠ fr := w
      have l8 := stp_8 (s := i.toNat) (S := S.toNat) hP (by omega) (by omega) (by omega) (by omega)
      have pe : PS fr.toNat m.toNat i.toNat = Nat.testBit m.toNat i.toNat := PS_ne (by omega)
      refine su_p14 fr m i ((stp (PS fr.toNat m.toNat) i.toNat).length : Nat) v3 hv3 hB3 ⟨by omega, by omega, by omega, by omega, trivial⟩ ⟨s3.1, trivial⟩ ?_ ?_
      · intro τ4 y4 v4 hv4 hB4 F4 f _ d _
        have b := bitF hm (by omega) d.1 d.2.1 f.2.2.2.2.2.1.2
        refine ih _ τ4 ⟨by omega, by omega, ⟨v4, hv4, rfl⟩, hB4, FQ.tr G3 (FQ.up (G := []) rfl F4), ?_⟩
        have s4 := STQ.fr [] rfl rfl F4 s3
        unfold STQ at s4 ⊢
        rw [e1, stp_f (pe.trans b)]
        exact s4
      · intro τ4 y4 v4 hv4 hB4 F4 f _ d c4
        have b := bitT hm (by omega) d.1 d.2.1 f.2.2.2.2.2.1.1
        have s4 := STQ.fr [] rfl rfl F4 s3
        have tt := stp_t (pe.trans b)
        refine Ok.ast (n := 9) rfl rfl rfl (by decide) (by omega) (by omega) ?_
        have hB5 : an_GB pm_B (put τ4 86 (((stp (PS fr.toNat m.toNat) i.toNat).length : Nat) : Int).toNat (Int32.ofInt i)) := put_GB hB4 (by
          show (0 : Int) ≤ (Int32.ofInt i).toInt ∧ (Int32.ofInt i).toInt ≤ 9
          rw [ti_of (by omega) (by omega)]
          omega)
        refine su_p28 fr m i ((stp (PS fr.toNat m.toNat) i.toNat).length : Nat) v4 hv4 hB5 ⟨by omega, by omega, by omega, by omega, trivial⟩ ⟨by rw [put_nr (by decide)]; exact s4.1, trivial⟩ ?_
        intro τ6 y6 v6 hv6 hB6 F6 _ _ _ c6
        refine ih _ τ6 ⟨by omega, by omega, ⟨v6, hv6, rfl⟩, hB6, FQ.tr (FQ.tr G3 (FQ.up (G := []) rfl F4)) (FQ.tr (FQ.put rfl) (FQ.up (G := [(85, 1)]) rfl F6)), ?_⟩
        rw [e1]
        refine ⟨?_, fun j hj => ?_⟩
        · rw [c6.1, tt.1]
          omega
        · rw [tt.1] at hj
          rw [F6 86 j rfl, put_get, Int.toNat_natCast]
          by_cases e : j = (stp (PS fr.toNat m.toNat) i.toNat).length
          · rw [if_pos ⟨rfl, e⟩, ti_of (by omega) (by omega), e, tt.2.2]
            omega
          · rw [if_neg (fun q => e q.2), tt.2.1 j (by omega)]
            exact s4.2 j (by omega)
