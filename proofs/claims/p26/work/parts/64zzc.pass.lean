/-! sunday, pass: both sides -/
section PASSC
variable {D N S : Nat} {ls : List (List Int)}
/-- n Sundays of the class -/
def gbN (D N S : Nat) (ls : List (List Int)) : Nat → pm_S → pm_S → Nat → Prop
  | 0, σ, τ, q => FQ [] σ τ ∧ q = 0
  | n + 1, σ, τ, q => ∃ (σ' τ' : pm_S) (q1 q2 : Nat), FQ [] σ σ' ∧ gbS D N S ls σ' τ' q1 ∧ gbN D N S ls n τ' τ q2 ∧ q = q1 + q2
theorem gbN_e : ∀ {n : Nat} {σ τ υ : pm_S} {q : Nat}, gbN D N S ls n σ τ q → FQ [] τ υ → gbN D N S ls n σ υ q
  | 0, _, _, _, _, h, F => ⟨FQ.tr h.1 F, h.2⟩
  | n + 1, _, _, _, _, ⟨σ', τ', q1, q2, a, b, c, e⟩, F => ⟨σ', τ', q1, q2, a, b, gbN_e c F, e⟩
theorem gbN_s : ∀ {n : Nat} {σ ρ τ υ : pm_S} {q q' : Nat}, gbN D N S ls n σ ρ q → FQ [] ρ τ → gbS D N S ls τ υ q' → gbN D N S ls (n + 1) σ υ (q + q')
  | 0, σ, ρ, τ, υ, q, q', h, F, g => ⟨τ, υ, q', 0, FQ.tr h.1 F, g, ⟨FQ.rf _ _, rfl⟩, by rw [h.2]; omega⟩
  | n + 1, σ, ρ, τ, υ, q, q', ⟨σ', τ', q1, q2, a, b, c, e⟩, F, g => ⟨σ', τ', q1, q2 + q', a, b, gbN_s c F g, by omega⟩
theorem gbN_F : ∀ {n : Nat} {σ τ : pm_S} {q : Nat}, gbN D N S ls n σ τ q → FQ FGb σ τ
  | 0, _, _, _, h => FQ.up (G := []) rfl h.1
  | n + 1, _, _, _, ⟨σ', τ', q1, q2, a, b, c, e⟩ => FQ.tr (FQ.up (G := []) rfl a) (FQ.tr (gbS_F b) (gbN_F c))
set_option maxRecDepth 20000 in
theorem x_suC {σ : pm_S} (K : KCs D N S ls σ) (hsu : 0 ≤ sI σ 1 1 ∧ sI σ 1 1 ≤ 9999) (hB0 : an_GB pm_B σ) : Sp 139 61 [.ref 0] σ (fun r τ => an_GB pm_B τ ∧ KCs D N S ls τ ∧ ((sI σ 1 1 = 9999 ∧ FQ [] σ τ ∧ r = some (.int (Int32.ofInt (-1)))) ∨ (sI σ 1 1 ≤ 9998 ∧ sI τ 1 1 = sI σ 1 1 + 1 ∧ ∃ q : Nat, gbN D N S ls 1 σ τ q ∧ r = some (.int (Int32.ofInt (q : Int)))))) := by
  refine Sp.at rfl rfl ?_
  refine uf_s0 (sI σ 1 1) hB0 ⟨hsu, trivial⟩ ⟨rfl, trivial⟩ ?_ ?_
  · intro τ1 y1 hB1 F1 f _ _ _
    have f1 := f.1
    exact ⟨hB1, K.fq F1, Or.inl ⟨by omega, F1, rfl⟩⟩
  · intro τ1 y1 hB1 F1 f _ _ _
    have f1 := f.1
    have e1 : sI τ1 1 1 = sI σ 1 1 := congrArg Int32.toInt (F1 1 1 rfl)
    refine Ok.cv rfl rfl rfl rfl rfl rfl rfl ?_
    refine (x_gb (K.fq F1) (by omega) hB1).use (by decide) (fun r τ2 q => ?_)
    obtain ⟨hB2, K2, e2, q, hq, g, rfl⟩ := q
    refine uf_s8 (q : Int) hB2 ⟨by omega, trivial⟩ ?_
    intro τ3 y3 hB3 F3 _ _ _ _
    have e3 : sI τ3 1 1 = sI τ2 1 1 := congrArg Int32.toInt (F3 1 1 rfl)
    exact ⟨hB3, K2.fq F3, Or.inr ⟨by omega, by omega, q, ⟨τ1, τ2, q, 0, F1, g, ⟨F3, rfl⟩, rfl⟩, rfl⟩⟩
/-- everyone aims home -/
abbrev ahC (σ τ : pm_S) : Prop := FQ [(11, 9999)] σ τ ∧ ∀ j, j < 10 → τ.1 11 j = σ.1 8 j
theorem KCs.ah {σ τ : pm_S} (h : KCs D N S ls σ) (A : ahC σ τ) : KCs D N S ls τ := by
  obtain ⟨F, g⟩ := A
  obtain ⟨⟨a1, a2, a3, a4, a5, a6, a7, a8⟩, b, c, e, f⟩ := h
  refine ⟨⟨a1, a2, a3, (congrArg Int32.toInt (F 13 0 rfl)).trans a4, (congrArg Int32.toInt (F 7 0 rfl)).trans a5, (congrArg Int32.toInt (F 3 0 rfl)).trans a6, ?_, ?_⟩, fun p hp => ?_, fun d hd => ?_, e, f.fq (G := [(11, 9999)]) rfl F⟩
  · rw [row_fq F (P := 14) rfl, row_fq F (P := 15) rfl]
    exact a7
  · rw [row_fq F (P := 14) rfl, row_fq F (P := 15) rfl]
    exact a8
  · have e8 : sI τ 8 p = sI σ 8 p := congrArg Int32.toInt (F 8 p rfl)
    have e11 : sI τ 11 p = sI σ 8 p := congrArg Int32.toInt (g p (by omega))
    rw [e8, e11]
    exact ⟨(b p hp).1, (b p hp).1⟩
  · rw [show sI τ 16 d = sI σ 16 d from congrArg Int32.toInt (F 16 d rfl)]
    exact c d hd
set_option maxRecDepth 20000 in
theorem x_paC {σ : pm_S} (n : Int) (hn : (-2147483648) ≤ n ∧ n ≤ 2147483647) (K : KCs D N S ls σ) (hsu : 0 ≤ sI σ 1 1 ∧ sI σ 1 1 ≤ 9999) (hB0 : an_GB pm_B σ) : Sp 140 61 [.ref 0, .int (Int32.ofInt n)] σ (fun r τ => an_GB pm_B τ ∧ KCs D N S ls τ ∧ ((¬ (1 ≤ n ∧ n ≤ 400 ∧ sI σ 1 1 + n ≤ 9999) ∧ FQ [] σ τ ∧ r = some (.int (Int32.ofInt (-1)))) ∨ (1 ≤ n ∧ n ≤ 400 ∧ sI σ 1 1 + n ≤ 9999 ∧ sI τ 1 1 = sI σ 1 1 + n ∧ ∃ (σ' : pm_S) (q : Nat), ahC σ σ' ∧ gbN D N S ls n.toNat σ' τ q ∧ r = some (.int (Int32.ofInt (q : Int)))))) := by
  refine Sp.at rfl rfl ?_
  refine uf_p0 n (sI σ 1 1) _ _ rfl rfl hB0 ⟨hn, hsu, trivial⟩ ⟨rfl, trivial⟩ ?_ ?_ ?_ ?_
  · intro τ1 y1 hB1 F1 f _ _ _
    have f1 := f.1
    exact ⟨hB1, K.fq F1, Or.inl ⟨fun z => by omega, F1, rfl⟩⟩
  · intro τ1 y1 hB1 F1 f _ _ _
    have f1 := f.1
    exact ⟨hB1, K.fq F1, Or.inl ⟨fun z => by omega, F1, rfl⟩⟩
  · intro τ1 y1 v2 v3 k2 k3 hB1 F1 f _ d _
    have f1 := f.1
    have f3 := f.2.2.1
    have z := d.1
    rw [sum0 (by omega) (by omega) (by omega) (by omega) (by omega) (by omega)] at z
    refine Ok.cv rfl rfl rfl rfl rfl rfl rfl ?_
    refine (x_aim (σ := τ1) hB1).use (by decide) (fun r τ2 q => ?_)
    obtain ⟨rfl, hB2, F2, h2⟩ := q
    have A : ahC σ τ2 := ⟨FQ.tr (FQ.up (G := []) rfl F1) F2, fun j hj => by rw [h2 j hj, F1 8 j rfl]⟩
    have K2 : KCs D N S ls τ2 := K.ah A
    have e2 : sI τ2 1 1 = sI σ 1 1 := congrArg Int32.toInt (A.1 1 1 rfl)
    have lp : ∀ (k i q : Nat) (τ : pm_S), ((i + k : Nat) : Int) = n → q ≤ 330 * i → an_GB pm_B τ → KCs D N S ls τ → sI τ 1 1 = sI σ 1 1 + i → gbN D N S ls i τ2 τ q → Ok 140 61 23 [.ref 0, .int (Int32.ofInt n), .int (Int32.ofInt (q : Int)), .int (Int32.ofInt (i : Int))] [] τ (fun r τ => an_GB pm_B τ ∧ KCs D N S ls τ ∧ ((¬ (1 ≤ n ∧ n ≤ 400 ∧ sI σ 1 1 + n ≤ 9999) ∧ FQ [] σ τ ∧ r = some (.int (Int32.ofInt (-1)))) ∨ (1 ≤ n ∧ n ≤ 400 ∧ sI σ 1 1 + n ≤ 9999 ∧ sI τ 1 1 = sI σ 1 1 + n ∧ ∃ (σ' : pm_S) (q : Nat), ahC σ σ' ∧ gbN D N S ls n.toNat σ' τ q ∧ r = some (.int (Int32.ofInt (q : Int)))))) := by
      intro k
      induction k with
      | zero =>
        intro i q τ hi hq hB Kt es g
        refine uf_p23 n q i hB ⟨by omega, by omega, by omega, trivial⟩ ?_
        intro τ3 y3 hB3 F3 _ _ _ _
        refine Ok.ic rfl rfl (by omega) (by omega) (by omega) (by omega) (fun w => ?_) (fun w => ?_)
        · refine uf_p34 n q i hB3 ⟨by omega, by omega, by omega, trivial⟩ ?_
          intro τ4 y4 hB4 F4 _ _ _ _
          have G4 : FQ [] τ τ4 := FQ.tr F3 F4
          refine ⟨hB4, Kt.fq G4, Or.inr ⟨by omega, by omega, by omega, ?_, τ2, q, A, ?_, rfl⟩⟩
          · rw [show sI τ4 1 1 = sI τ 1 1 from congrArg Int32.toInt (G4 1 1 rfl), es]
            omega
          · rw [show n.toNat = i by omega]
            exact gbN_e g G4
        · have w : (i : Int) < n := w
          exfalso
          omega
      | succ k ih =>
        intro i q τ hi hq hB Kt es g
        refine uf_p23 n q i hB ⟨by omega, by omega, by omega, trivial⟩ ?_
        intro τ3 y3 hB3 F3 _ _ _ _
        refine Ok.ic rfl rfl (by omega) (by omega) (by omega) (by omega) (fun w => ?_) (fun w => ?_)
        · have w : n ≤ (i : Int) := w
          exfalso
          omega
        refine uf_p26 n q i hB3 ⟨by omega, by omega, by omega, trivial⟩ ?_
        intro τ4 y4 hB4 F4 _ _ _ _
        have G4 : FQ [] τ τ4 := FQ.tr F3 F4
        have e4 : sI τ4 1 1 = sI τ 1 1 := congrArg Int32.toInt (G4 1 1 rfl)
        refine Ok.cv rfl rfl rfl rfl rfl rfl rfl ?_
        refine (x_gb (Kt.fq G4) (by omega) hB4).use (by decide) (fun r τ5 h => ?_)
        obtain ⟨hB5, K5, e5, q', hq', g5, rfl⟩ := h
        refine uf_p30 n q i (q' : Int) hB5 ⟨by omega, by omega, by omega, by omega, trivial⟩ ?_
        intro τ6 y6 hB6 F6 _ _ d6 _
        have s6 : y6 4 = ((q + q' : Nat) : Int) := by
          have z := d6.1
          rw [sum0 (by omega) (by omega) (by omega) (by omega) (by omega) (by omega)] at z
          omega
        rw [s6, show (i : Int) + 1 = ((i + 1 : Nat) : Int) by omega]
        refine ih (i + 1) (q + q') τ6 (by omega) (by omega) hB6 (K5.fq F6) ?_ (gbN_e (gbN_s g G4 g5) F6)
        rw [show sI τ6 1 1 = sI τ5 1 1 from congrArg Int32.toInt (F6 1 1 rfl), e5, e4, es]
        omega
    refine uf_p19 n v2 v3 k2 k3 hB2 ⟨by omega, trivial⟩ ?_
    intro τ3 y3 hB3 F3 _ _ _ _
    have K3 : KCs D N S ls τ3 := K2.fq F3
    refine lp n.toNat 0 0 τ3 (by omega) (Nat.zero_le _) hB3 K3 ?_ ⟨F3, rfl⟩
    rw [show sI τ3 1 1 = sI τ2 1 1 from congrArg Int32.toInt (F3 1 1 rfl), e2]
    omega
  · intro τ1 y1 hB1 F1 f _ d _
    have f1 := f.1
    have f3 := f.2.2.1
    have z := d.1
    rw [sum0 (by omega) (by omega) (by omega) (by omega) (by omega) (by omega)] at z
    exact ⟨hB1, K.fq F1, Or.inl ⟨fun w => by omega, F1, rfl⟩⟩
end PASSC
