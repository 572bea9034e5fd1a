/-! cleared in the model: all of it -/
/-- only the sets that are -/
def nF (m : Nat) (r : Nat → Int) : Nat → Int := fun S => if S < 2 ^ m then r S else 0
theorem nF_e {m : Nat} {r : Nat → Int} {S : Nat} (h : S < 2 ^ m) : nF m r S = r S := if_pos h
section KOX
variable {m : Nat} {C : Nat → Bool}
theorem fT_n {r : Nat → Int} (h : fT (2 ^ m) C r) : fT (2 ^ m) C (nF m r) := by
  refine ⟨(nF_e (Nat.two_pow_pos m)).trans h.1, fun S h0 hS => ?_⟩
  rw [nF_e hS]
  refine cMin_cg (fun _ => Iff.rfl) (fun P hP => ?_) (h.2 S h0 hS)
  have := xlt hP.2.1 hP.1
  rw [nF_e (show S ^^^ P < 2 ^ m by omega)]
theorem fT_eq (hC : cOk m C) {r q : Nat → Int} (h : fT (2 ^ m) C r) (h' : fT (2 ^ m) C q) : nF m r = nF m q := funext fun S => by
  by_cases c : S < 2 ^ m
  · rw [nF_e c, nF_e c]
    exact fT_u hC h h' S S (Nat.le_refl _) c
  · rw [show nF m r S = 0 from if_neg c, show nF m q S = 0 from if_neg c]
theorem fT_s {T : Nat} {r q : Nat → Int} (h : fT T C r) (hT : T ≠ 0) (hq : ∀ t, t < T → q t = r t) (hv : cMin 1000000000 (qS C T) (fun P => r (T ^^^ P) + 1) (q T)) : fT (T + 1) C q := by
  refine ⟨(hq 0 (by omega)).trans h.1, fun S h0 hS => ?_⟩
  by_cases e : S = T
  · rw [e]
    refine cMin_cg (fun _ => Iff.rfl) (fun P hP => ?_) hv
    have := xlt hP.2.1 hP.1
    rw [hq _ this]
  · rw [hq S (by omega)]
    refine cMin_cg (fun _ => Iff.rfl) (fun P hP => ?_) (h.2 S h0 (by omega))
    have := xlt hP.2.1 hP.1
    rw [hq _ (by omega)]
theorem tv_01 (b : Bool) : Int32.ofInt (tvI b) = 0 ∨ Int32.ofInt (tvI b) = 1 := by
  cases b
  · exact Or.inl (by decide)
  · exact Or.inr (by decide)
theorem tv_i (b : Bool) : (Int32.ofInt (tvI b)).toInt = tvI b := by cases b <;> decide
variable {l : List Nat} {X : Nat → Nat → Bool} {σ0 : pm_S} {what : Int}
theorem kl_26 (hX : kX σ0 m l X) (hs : ∀ i j, X i j = X j i) (hr : ∀ i, X i i = false) (hw : (-2147483648) ≤ what ∧ what ≤ 2147483647) {Q : Option Value → pm_S → Prop}
    (hend : ∀ (τ : pm_S) (v3 v4 v5 : Value), v3.category = 1 → v4.category = 1 → v5.category = 1 → an_GB pm_B τ → FQ FKr σ0 τ → sI τ 126 0 = 0 → (∀ P, P ≠ 0 → P < 2 ^ m → sI τ 127 P = tvI (cB m X P)) → Ok 220 22 38 [.ref 93, .int (Int32.ofInt what), .int (Int32.ofInt ((2 ^ m - 1 : Nat) : Int)), v3, v4, v5] [] τ Q) :
    ∀ (N T : Nat) (τ : pm_S) (v4 v5 : Value), v4.category = 1 → v5.category = 1 → T + N = 2 ^ m → 1 ≤ T → an_GB pm_B τ → FQ FKr σ0 τ → sI τ 126 0 = 0 → (∀ P, P ≠ 0 → P < T → sI τ 127 P = tvI (cB m X P)) → Ok 220 22 26 [.ref 93, .int (Int32.ofInt what), .int (Int32.ofInt ((2 ^ m - 1 : Nat) : Int)), .int (Int32.ofInt (T : Int)), v4, v5] [] τ Q := by
  have m10 := hX.1
  have h1024 := p1024 m10
  intro N
  induction N with
  | zero =>
    intro T τ v4 v5 c4 c5 hN hT hB F h0 hJ
    refine ld_26 what ((2 ^ m - 1 : Nat) : Int) T v4 v5 c4 c5 hB ⟨hw, by omega, by omega, trivial⟩ ?_
    intro τ1 y1 w4 w5 d4 d5 hB1 F1 _ _ _ _
    refine Ok.ic rfl rfl (by omega) (by omega) (by omega) (by omega) (fun h => ?_) (fun h => ?_)
    · exact hend τ1 _ w4 w5 rfl d4 d5 hB1 (F.tr (FQ.up (G := []) rfl F1)) ((congrArg Int32.toInt (F1 126 0 rfl)).trans h0) (fun P p0 hP => (congrArg Int32.toInt (F1 127 P rfl)).trans (hJ P p0 (by omega)))
    · exfalso
      have h : (T : Int) ≤ ((2 ^ m - 1 : Nat) : Int) := h
      omega
  | succ N ih =>
    intro T τ v4 v5 c4 c5 hN hT hB F h0 hJ
    refine ld_26 what ((2 ^ m - 1 : Nat) : Int) T v4 v5 c4 c5 hB ⟨hw, by omega, by omega, trivial⟩ ?_
    intro τ1 y1 w4 w5 d4 d5 hB1 F1 _ _ _ _
    refine Ok.ic rfl rfl (by omega) (by omega) (by omega) (by omega) (fun h => ?_) (fun h => ?_)
    · exfalso
      have h : ((2 ^ m - 1 : Nat) : Int) < (T : Int) := h
      omega
    · refine ld_29 what ((2 ^ m - 1 : Nat) : Int) T w4 w5 d4 d5 hB1 ⟨hw, by omega, by omega, trivial⟩ ?_
      intro τ2 y2 z4 z5 e4 e5 hB2 F2 _ _ _ _
      have G2 : FQ FKr σ0 τ2 := F.tr (FQ.up (G := []) rfl (F1.tr F2))
      refine Ok.cv rfl rfl rfl rfl rfl rfl rfl ?_
      refine (m_are (hX.fq G2) hs hr hB2 (S := T) (by omega)).use (by decide) (fun r τ3 q3 => ?_)
      obtain ⟨rfl, hB3, F3⟩ := q3
      refine Ok.bst (n := 1024) rfl rfl rfl (by decide) (by omega) (by omega) (tv_01 _) ?_
      rw [show ((T : Int)).toNat = T by omega]
      have H3 : FQ [] τ τ3 := F1.tr (F2.tr F3)
      have hB4 : an_GB pm_B (put τ3 127 T (Int32.ofInt (tvI (cB m X T)))) := put_GB hB3 (by
        show (0 : Int) ≤ (Int32.ofInt (tvI (cB m X T))).toInt ∧ (Int32.ofInt (tvI (cB m X T))).toInt ≤ 1
        rw [tv_i]
        exact tvI_r _)
      have G4 : FQ FKr σ0 (put τ3 127 T (Int32.ofInt (tvI (cB m X T)))) := (G2.tr (FQ.up (G := []) rfl F3)).tr (FQ.put rfl)
      have J4 : ∀ P, P ≠ 0 → P < T + 1 → sI (put τ3 127 T (Int32.ofInt (tvI (cB m X T)))) 127 P = tvI (cB m X P) := fun P p0 hP => by
        show ((put τ3 127 T (Int32.ofInt (tvI (cB m X T)))).1 127 P).toInt = _
        by_cases e : P = T
        · rw [e, put_eq, tv_i]
        · rw [put_nj e, H3 127 P rfl]
          exact hJ P p0 (by omega)
      have K4 : sI (put τ3 127 T (Int32.ofInt (tvI (cB m X T)))) 126 0 = 0 := by
        show ((put τ3 127 T (Int32.ofInt (tvI (cB m X T)))).1 126 0).toInt = _
        rw [put_nr (by decide), H3 126 0 rfl]
        exact h0
      generalize put τ3 127 T (Int32.ofInt (tvI (cB m X T))) = τ4 at hB4 G4 J4 K4 ⊢
      refine ld_36 what ((2 ^ m - 1 : Nat) : Int) T z4 z5 e4 e5 hB4 ⟨hw, by omega, by omega, trivial⟩ ?_
      intro τ5 y5 u4 u5 k4 k5 hB5 F5 _ _ _ _
      exact ih (T + 1) τ5 u4 u5 k4 k5 (by omega) (by omega) hB5 (G4.tr (FQ.up (G := []) rfl F5)) ((congrArg Int32.toInt (F5 126 0 rfl)).trans K4) (fun P p0 hP => (congrArg Int32.toInt (F5 127 P rfl)).trans (J4 P p0 hP))
/-- bounds -/
theorem fT_r (hC : cOk m C) {T : Nat} (hT : T ≤ 2 ^ m) {r : Nat → Int} (h : fT T C r) {t : Nat} (ht : t < T) : 0 ≤ r t ∧ r t ≤ 10 := by
  have h1024 := p1024 hC.1
  have a := fT_b hC hT h t t (Nat.le_refl _) ht
  have p := pcn_10 t (by omega)
  omega
theorem kl_40 (hC : cOk m C) (hw : (-2147483648) ≤ what ∧ what ≤ 2147483647) {Q : Option Value → pm_S → Prop}
    (hend : ∀ (τ : pm_S) (v3 v4 v5 : Value), v3.category = 1 → v4.category = 1 → v5.category = 1 → an_GB pm_B τ → FQ FKr σ0 τ → (∀ P, P ≠ 0 → P < 2 ^ m → sI τ 127 P = tvI (C P)) → fT (2 ^ m) C (sI τ 126) → Ok 220 22 52 [.ref 93, .int (Int32.ofInt what), .int (Int32.ofInt ((2 ^ m - 1 : Nat) : Int)), v3, v4, v5] [] τ Q) :
    ∀ (N T : Nat) (τ : pm_S) (v4 v5 : Value), v4.category = 1 → v5.category = 1 → T + N = 2 ^ m → 1 ≤ T → an_GB pm_B τ → FQ FKr σ0 τ → (∀ P, P ≠ 0 → P < 2 ^ m → sI τ 127 P = tvI (C P)) → fT T C (sI τ 126) → Ok 220 22 40 [.ref 93, .int (Int32.ofInt what), .int (Int32.ofInt ((2 ^ m - 1 : Nat) : Int)), .int (Int32.ofInt (T : Int)), v4, v5] [] τ Q := by
  have m10 := hC.1
  have h1024 := p1024 m10
  intro N
  induction N with
  | zero =>
    intro T τ v4 v5 c4 c5 hN hT hB F hJ hf
    refine ld_40 what ((2 ^ m - 1 : Nat) : Int) T v4 v5 c4 c5 hB ⟨hw, by omega, by omega, trivial⟩ ?_
    intro τ1 y1 w4 w5 d4 d5 hB1 F1 _ _ _ _
    have e126 : sI τ1 126 = sI τ 126 := funext fun j => congrArg Int32.toInt (F1 126 j rfl)
    refine Ok.ic rfl rfl (by omega) (by omega) (by omega) (by omega) (fun h => ?_) (fun h => ?_)
    · refine hend τ1 _ w4 w5 rfl d4 d5 hB1 (F.tr (FQ.up (G := []) rfl F1)) (fun P p0 hP => (congrArg Int32.toInt (F1 127 P rfl)).trans (hJ P p0 hP)) ?_
      rw [e126, ← show T = 2 ^ m by omega]
      exact hf
    · exfalso
      have h : (T : Int) ≤ ((2 ^ m - 1 : Nat) : Int) := h
      omega
  | succ N ih =>
    intro T τ v4 v5 c4 c5 hN hT hB F hJ hf
    refine ld_40 what ((2 ^ m - 1 : Nat) : Int) T v4 v5 c4 c5 hB ⟨hw, by omega, by omega, trivial⟩ ?_
    intro τ1 y1 w4 w5 d4 d5 hB1 F1 _ _ _ _
    refine Ok.ic rfl rfl (by omega) (by omega) (by omega) (by omega) (fun h => ?_) (fun h => ?_)
    · exfalso
      have h : ((2 ^ m - 1 : Nat) : Int) < (T : Int) := h
      omega
    · refine ld_43 what ((2 ^ m - 1 : Nat) : Int) T w4 w5 d4 d5 hB1 ⟨hw, by omega, by omega, trivial⟩ ?_
      intro τ2 y2 z4 z5 e4 e5 hB2 F2 _ _ _ _
      have H2 : FQ [] τ τ2 := F1.tr F2
      refine Ok.cv rfl rfl rfl rfl rfl rfl rfl ?_
      refine (m_lea (C := C) m10 (r := sI τ 126) (S := T) (by omega) (fun P p0 hP => (congrArg Int32.toInt (H2 127 P rfl)).trans (hJ P p0 hP)) (fun P hP => ⟨congrArg Int32.toInt (H2 126 P rfl), by have := fT_r hC (by omega) hf hP; omega⟩) hB2).use (by decide) (fun r τ3 q3 => ?_)
      obtain ⟨⟨v, rfl, hv, hm⟩, hB3, F3⟩ := q3
      have H3 : FQ [] τ τ3 := H2.tr F3
      refine Ok.ast (n := 1024) rfl rfl rfl (by decide) (by omega) (by omega) ?_
      rw [show ((T : Int)).toNat = T by omega]
      have hB4 : an_GB pm_B (put τ3 126 T (Int32.ofInt v)) := put_GB hB3 (ai_rng _)
      have G4 : FQ FKr σ0 (put τ3 126 T (Int32.ofInt v)) := (F.tr (FQ.up (G := []) rfl H3)).tr (FQ.put rfl)
      have J4 : ∀ P, P ≠ 0 → P < 2 ^ m → sI (put τ3 126 T (Int32.ofInt v)) 127 P = tvI (C P) := fun P p0 hP => by
        show ((put τ3 126 T (Int32.ofInt v)).1 127 P).toInt = _
        rw [put_nr (by decide), H3 127 P rfl]
        exact hJ P p0 hP
      have K4 : fT (T + 1) C (sI (put τ3 126 T (Int32.ofInt v)) 126) := by
        refine fT_s hf (by omega) (fun t ht => ?_) ?_
        · show ((put τ3 126 T (Int32.ofInt v)).1 126 t).toInt = _
          rw [put_nj (by omega), H3 126 t rfl]
        · rw [show sI (put τ3 126 T (Int32.ofInt v)) 126 T = v by
            show ((put τ3 126 T (Int32.ofInt v)).1 126 T).toInt = _
            rw [put_eq, ti_of (by omega) (by omega)]]
          exact hm
      generalize put τ3 126 T (Int32.ofInt v) = τ4 at hB4 G4 J4 K4 ⊢
      refine ld_50 what ((2 ^ m - 1 : Nat) : Int) T z4 z5 e4 e5 hB4 ⟨hw, by omega, by omega, trivial⟩ ?_
      intro τ5 y5 u4 u5 k4 k5 hB5 F5 _ _ _ _
      refine ih (T + 1) τ5 u4 u5 k4 k5 (by omega) (by omega) hB5 (G4.tr (FQ.up (G := []) rfl F5)) (fun P p0 hP => (congrArg Int32.toInt (F5 127 P rfl)).trans (J4 P p0 hP)) ?_
      rw [show sI τ5 126 = sI τ4 126 from funext fun j => congrArg Int32.toInt (F5 126 j rfl)]
      exact K4
theorem kl_78 (hm : m ≤ 10) {F : Nat → Int} (h127 : ∀ P, P ≠ 0 → P < 2 ^ m → sI σ0 127 P = tvI (C P)) (h126 : ∀ P, P < 2 ^ m → sI σ0 126 P = F P ∧ 0 ≤ F P ∧ F P ≤ 1000) {K : Nat} (hK : K < 1000) (hw : what = 10 + (K : Int)) : ∀ (N k part : Nat) (τ : pm_S), k + N = K + 1 → part < 1024 → (k = K + 1 → part = grS C F (lfS m C F K)) → an_GB pm_B τ → FQ [] σ0 τ → Ok 220 22 78 [.ref 93, .int (Int32.ofInt what), .int (Int32.ofInt ((2 ^ m - 1 : Nat) : Int)), .int (Int32.ofInt ((lfS m C F k : Nat) : Int)), .int (Int32.ofInt (part : Int)), .int (Int32.ofInt (k : Int))] [] τ (fun r τ => r = some (.int (Int32.ofInt ((grS C F (lfS m C F K) : Nat) : Int))) ∧ an_GB pm_B τ ∧ FQ [] σ0 τ) := by
  have h1024 := p1024 hm
  intro N
  induction N with
  | zero =>
    intro k part τ hN hp he hB G
    have lf := lfS_lt (m := m) (C := C) (F := F) k
    refine ld_78 what ((2 ^ m - 1 : Nat) : Int) ((lfS m C F k : Nat) : Int) part k hB ⟨by omega, by omega, by omega, by omega, by omega, trivial⟩ ?_
    intro τ1 y1 hB1 F1 _ _ _ _
    refine Ok.ic rfl rfl (by omega) (by omega) (by omega) (by omega) (fun h => ?_) (fun h => ?_)
    · refine ld_101 what ((2 ^ m - 1 : Nat) : Int) ((lfS m C F k : Nat) : Int) part k hB1 ⟨by omega, by omega, by omega, by omega, by omega, trivial⟩ ?_
      intro τ2 y2 hB2 F2 _ _ _ _
      refine ⟨?_, hB2, G.tr (F1.tr F2)⟩
      rw [he (by omega)]
    · exfalso
      have h : (k : Int) ≤ what + (-10) := h
      omega
  | succ N ih =>
    intro k part τ hN hp he hB G
    have lf := lfS_lt (m := m) (C := C) (F := F) k
    have fr := h126 _ lf
    refine ld_78 what ((2 ^ m - 1 : Nat) : Int) ((lfS m C F k : Nat) : Int) part k hB ⟨by omega, by omega, by omega, by omega, by omega, trivial⟩ ?_
    intro τ1 y1 hB1 F1 _ _ _ _
    refine Ok.ic rfl rfl (by omega) (by omega) (by omega) (by omega) (fun h => ?_) (fun h => ?_)
    · exfalso
      have h : what + (-10) < (k : Int) := h
      omega
    · have G1 : FQ [] σ0 τ1 := G.tr F1
      refine ld_83 what ((2 ^ m - 1 : Nat) : Int) ((lfS m C F k : Nat) : Int) part k (F (lfS m C F k)) hB1 ⟨by omega, by omega, by omega, by omega, by omega, by omega, trivial⟩ ⟨(congrArg Int32.toInt (G1 126 _ rfl)).trans fr.1, trivial⟩ ?_
      intro τ2 y2 hB2 F2 _ _ _ _
      have G2 : FQ [] σ0 τ2 := G1.tr F2
      refine Ok.cv rfl rfl rfl rfl rfl rfl rfl ?_
      refine (m_gre (C := C) hm (F := F) lf (fun P p0 hP => (congrArg Int32.toInt (G2 127 P rfl)).trans (h127 P p0 hP)) (fun P hP => ⟨(congrArg Int32.toInt (G2 126 P rfl)).trans (h126 P hP).1, (h126 P hP).2⟩) hB2).use (by decide) (fun r τ3 q3 => ?_)
      obtain ⟨rfl, hB3, F3⟩ := q3
      have gs : sbs (grS C F (lfS m C F k)) (lfS m C F k) := dnF_s 1023 _ (sbs_rf _)
      have gl := sbs_le gs
      refine ld_92 what ((2 ^ m - 1 : Nat) : Int) ((lfS m C F k : Nat) : Int) k ((grS C F (lfS m C F k) : Nat) : Int) _ rfl hB3 ⟨by omega, by omega, by omega, by omega, by omega, trivial⟩ ?_
      intro τ4 y4 hB4 F4 f4 _ d4 _
      have e6 : y4 6 = ((lfS m C F (k + 1) : Nat) : Int) := andX (by omega) gs d4.1 d4.2.1
      rw [e6]
      exact ih (k + 1) (grS C F (lfS m C F k)) τ4 (by omega) (by omega) (fun z => by rw [show k = K by omega]) hB4 (G2.tr (F3.tr F4))
end KOX
abbrev FMk : List (Nat × Nat) := [(93, 0), (93, 55), (125, 9999), (126, 9999), (127, 9999)]
theorem x_clm {σ : pm_S} (what : Int) (hw : (-2147483648) ≤ what ∧ what ≤ 2147483647) {D : Nat} (hD : D ≤ 30) (eD : sI σ 93 11 = (D : Int)) {P : Nat → Bool} (hP : P = (fun d => decide (σ.1 107 d = 0))) {l : List Nat} (hl : l = opL P D) {X : Nat → Nat → Bool} (hX : ∀ i j, i < l.length → j < l.length → X i j = xcl (sI σ 101) (sI σ 102) (sI σ 104) l i j) (hs : ∀ i j, X i j = X j i) (hr : ∀ i, X i i = false) (hB : an_GB pm_B σ) : Sp 220 22 [.ref 93, .int (Int32.ofInt what)] σ (fun r τ => an_GB pm_B τ ∧ FQ FMk σ τ ∧ ((11 ≤ l.length ∧ r = some (.int (Int32.ofInt (-1)))) ∨ (l.length ≤ 10 ∧ ∃ q : Nat → Int, fT (2 ^ l.length) (cB l.length X) q ∧ r = some (.int (Int32.ofInt (clV l.length (cB l.length X) (nF l.length q) what)))))) := by
  have ll := opL_le P D
  rw [← hl] at ll
  refine Sp.at rfl rfl ?_
  refine ld_0 what _ _ _ _ rfl rfl rfl rfl hB ⟨hw, trivial⟩ ?_
  intro τ1 y1 v2 v3 v4 v5 c2 c3 c4 c5 hB1 F1 _ _ _ _
  refine Ok.cv rfl rfl rfl rfl rfl rfl rfl ?_
  refine (x_tkO hD ((congrArg Int32.toInt (F1 93 11 rfl)).trans eD) (P := P) (by rw [hP]; show _ = (fun d => decide (τ1.1 107 d = 0)); rw [row_fq F1 (P := 107) rfl]) hB1).use (by decide) (fun r τ2 q2 => ?_)
  obtain ⟨rfl, hB2, F2, e2, g2⟩ := q2
  rw [← hl] at e2 g2
  have G2 : FQ FMk σ τ2 := (FQ.up (G := [(93, 0)]) rfl F1).tr (FQ.up (G := FGm2) rfl F2)
  refine ld_6 what (l.length : Nat) v2 v3 v4 v5 c2 c3 c4 c5 hB2 ⟨hw, by omega, trivial⟩ ⟨e2, trivial⟩ ?_ ?_
  · intro τ3 y3 w3 w4 w5 d3 d4 d5 hB3 F3 f3 _ dd3 _
    have l10 : l.length ≤ 10 := by omega
    generalize hm : l.length = m at *
    have h1024 := p1024 l10
    have h1 := Nat.two_pow_pos m
    have e3 : y3 2 = ((2 ^ m : Nat) : Int) := shlI (i := (m : Int)) ⟨by omega, by omega⟩ dd3.1
    rw [show y3 2 + (-1) = ((2 ^ m - 1 : Nat) : Int) by omega]
    have G3 : FQ FMk σ τ3 := G2.tr (FQ.up (G := []) rfl F3)
    refine Ok.ast (n := 1024) rfl rfl rfl (by decide) (by omega) (by omega) ?_
    have hB4 : an_GB pm_B (put τ3 126 (0 : Int).toNat (Int32.ofInt 0)) := put_GB hB3 (ai_rng _)
    have H4 : FQ FKr τ3 (put τ3 126 (0 : Int).toNat (Int32.ofInt 0)) := FQ.put rfl
    have K4 : sI (put τ3 126 (0 : Int).toNat (Int32.ofInt 0)) 126 0 = 0 := by
      show ((put τ3 126 (0 : Int).toNat (Int32.ofInt 0)).1 126 (0 : Int).toNat).toInt = 0
      rw [put_eq]
      rfl
    generalize put τ3 126 (0 : Int).toNat (Int32.ofInt 0) = τ4 at hB4 H4 K4 ⊢
    have KX : kX τ3 m l X := by
      refine ⟨l10, (congrArg Int32.toInt (F3 93 55 rfl)).trans e2, fun i hi => ⟨(congrArg Int32.toInt (F3 125 i rfl)).trans (g2 i (by omega)), ?_⟩, fun i j hi hj => ?_⟩
      · have h := opL_m (P := P) (n := D) (x := l.getD i 0) (by rw [← hl]; exact getD_mem (by omega))
        omega
      · rw [hX i j hi hj]
        have e : ∀ P, an_inP FMk P = false → sI τ3 P = sI σ P := fun P h => funext fun j => congrArg Int32.toInt (G3 P j (an_inP_ok h j))
        rw [e 101 rfl, e 102 rfl, e 104 rfl]
    have hC : cOk m (cB m X) := cB_ok l10 hr
    refine ld_24 what ((2 ^ m - 1 : Nat) : Int) w3 w4 w5 d3 d4 d5 hB4 ⟨hw, by omega, trivial⟩ ?_
    intro τ5 y5 z4 z5 k4 k5 hB5 F5 _ _ _ _
    refine kl_26 (σ0 := τ3) KX hs hr hw ?_ (2 ^ m - 1) 1 τ5 z4 z5 k4 k5 (by omega) (by omega) hB5 (H4.tr (FQ.up (G := []) rfl F5)) ((congrArg Int32.toInt (F5 126 0 rfl)).trans K4) (fun P p0 hP => by omega)
    intro τ6 t3 t4 t5 s3 s4 s5 hB6 F6 h60 J6
    refine ld_38 what ((2 ^ m - 1 : Nat) : Int) t3 t4 t5 s3 s4 s5 hB6 ⟨hw, by omega, trivial⟩ ?_
    intro τ7 y7 u4 u5 k4 k5 hB7 F7 _ _ _ _
    refine kl_40 (σ0 := τ3) (C := cB m X) hC hw ?_ (2 ^ m - 1) 1 τ7 u4 u5 k4 k5 (by omega) (by omega) hB7 (F6.tr (FQ.up (G := []) rfl F7)) (fun P p0 hP => (congrArg Int32.toInt (F7 127 P rfl)).trans (J6 P p0 hP)) ⟨(congrArg Int32.toInt (F7 126 0 rfl)).trans h60, fun S s0 hS => by omega⟩
    intro τ8 t3 t4 t5 s3 s4 s5 hB8 F8 J8 f8
    have G8 : FQ FMk σ τ8 := G3.tr (FQ.up (G := FKr) rfl F8)
    have f8n := fT_n f8
    have rg : ∀ P, P < 2 ^ m → sI τ8 126 P = nF m (sI τ8 126) P ∧ 0 ≤ nF m (sI τ8 126) P ∧ nF m (sI τ8 126) P ≤ 10 := fun P hP => ⟨(nF_e hP).symm, fT_r hC (Nat.le_refl _) f8n hP⟩
    have rf := rg (2 ^ m - 1) (by omega)
    refine ld_52 what ((2 ^ m - 1 : Nat) : Int) (nF m (sI τ8 126) (2 ^ m - 1)) t3 t4 t5 s3 s4 s5 hB8 ⟨hw, by omega, by omega, trivial⟩ ⟨rf.1, trivial⟩ ?_ ?_
    · intro τ9 y9 t3 t4 t5 s3 s4 s5 hB9 F9 f9 rl _ _
      have r0 := rl.1
      refine Ok.cv rfl rfl rfl rfl rfl rfl rfl ?_
      refine (x_isIn (v := what) (l := 10) (h := nF m (sI τ8 126) (2 ^ m - 1) + 9) hw (by omega) (by omega)).use (by decide) (fun r τa qa => ?_)
      obtain ⟨rfl, ⟨c, rfl⟩ | ⟨c, rfl⟩⟩ := qa
      · rw [show pm_iv 0 0 = Int32.ofInt 0 by decide]
        refine ld_69n what ((2 ^ m - 1 : Nat) : Int) t3 t4 t5 s3 s4 s5 hB9 ⟨hw, by omega, trivial⟩ ?_
        intro τb yb hBb Fb _ _ _ _
        refine ⟨hBb, G8.tr (FQ.up (G := []) rfl (F9.tr Fb)), Or.inr ⟨l10, _, f8, ?_⟩⟩
        unfold clV
        rw [if_neg r0, if_neg (by omega)]
      · rw [show pm_iv 1 0 = Int32.ofInt 1 by decide]
        refine ld_69 what ((2 ^ m - 1 : Nat) : Int) t3 t4 t5 s3 s4 s5 hB9 ⟨hw, by omega, trivial⟩ ?_
        intro τb yb hBb Fb _ _ _ _
        have G9b : FQ [] τ8 τb := F9.tr Fb
        refine Ok.mono (kl_78 (σ0 := τb) (m := m) (C := cB m X) l10 (F := nF m (sI τ8 126)) (fun P p0 hP => (congrArg Int32.toInt (G9b 127 P rfl)).trans (J8 P p0 hP)) (fun P hP => ⟨(congrArg Int32.toInt (G9b 126 P rfl)).trans (rg P hP).1, by have := rg P hP; omega⟩) (K := (what - 10).toNat) (by omega) (by omega) ((what - 10).toNat + 1) 0 0 τb (by omega) (by omega) (fun z => by omega) hBb (FQ.rf _ _)) (fun r τc qc => ?_)
        obtain ⟨rfl, hBc, Fc⟩ := qc
        refine ⟨hBc, G8.tr (FQ.up (G := []) rfl (G9b.tr Fc)), Or.inr ⟨l10, _, f8, ?_⟩⟩
        unfold clV
        rw [if_neg r0, if_pos (by omega)]
    · intro τ9 y9 hB9 F9 f9 _ _ _
      refine ⟨hB9, G8.tr (FQ.up (G := []) rfl F9), Or.inr ⟨l10, _, f8, ?_⟩⟩
      unfold clV
      rw [if_pos (by omega)]
  · intro τ3 y3 hB3 F3 f3 _ _ _
    exact ⟨hB3, G2.tr (FQ.up (G := []) rfl F3), Or.inl ⟨by omega, rfl⟩⟩
