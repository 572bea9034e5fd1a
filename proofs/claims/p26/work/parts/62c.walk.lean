/-! the image's walks, by program -/
section IMG
variable {k D idx : Nat} {M : pm_M} {L st : List Value} {σ0 σ : pm_S} {Q : Option Value → pm_S → Prop} {pc ln y : Nat} {zs : List Nat} {t : Int} {m : Nat}
theorem Ok.ptf {x : Nat} (hM : pm_nth pm_tab k = some M) {off : Nat} (hi : pm_nth M.2.2.2.2.2 idx = some (pc, .putfield off, ln, x, y, [0])) {p : Nat} {w : Int32} (hp : (pm_OS none).2.1 σ p x y (.int w) = some (put σ p y w)) (h : Ok k (D + 1) (idx + 1) L st (put σ p y w) Q) : Ok k (D + 1) idx L (.int w :: .ref p :: st) σ Q := by
  refine Ok.one (by rw [← pm_nth_eq]; exact hM) hi ?_
  unfold pm_go
  dsimp only
  unfold pm_gput
  dsimp only
  rw [hp]
  exact h
theorem Ok.ptb {x : Nat} (hM : pm_nth pm_tab k = some M) {off : Nat} (hi : pm_nth M.2.2.2.2.2 idx = some (pc, .putfield off, ln, x, y, [1])) {p : Nat} {w : Int32} (hw : w = 0 ∨ w = 1) (hp : (pm_OS none).2.1 σ p x y (.int w) = some (put σ p y w)) (h : Ok k (D + 1) (idx + 1) L st (put σ p y w) Q) : Ok k (D + 1) idx L (.int w :: .ref p :: st) σ Q := by
  refine Ok.one (by rw [← pm_nth_eq]; exact hM) hi ?_
  unfold pm_go
  dsimp only
  unfold pm_gput
  dsimp only
  rw [hp]
  exact ⟨fun _ => h, fun q => absurd hw q⟩
theorem im_arr (hM : pm_nth pm_tab k = some M) {off : Nat} (hi : pm_nth M.2.2.2.2.2 idx = some (pc, .invokevirtual off, ln, 242, 1, [12])) {pc2 ln2 x2 y2 : Nat} {zs2 : List Nat} (hi2 : pm_nth M.2.2.2.2.2 (idx + 1) = some (pc2, .iastore, ln2, x2, y2, zs2)) (ht : t = 0 ∨ t = 1) (hb : bdI σ0 t) (hm : m < 1431) {p n j : Nat} (hq : qsI m = (p, j)) (hp : pm_nth pm_lay p = some (.inl (0, n))) (hn : n ≤ 20000) (hj : j < n) (hc : Nat.ble (pm_cs (.int (Int32.ofInt (j : Int)) :: .ref p :: st)) 8 = true) (hD : 6 ≤ D) (hI : imI σ0 t σ m) {w : Int32} (hw : w = σ.1 p j) (h : ∀ τ, imI σ0 t τ (m + 1) → Ok k (D + 1) (idx + 2) L st τ Q) : Ok k (D + 1) idx L (.int w :: .ref 93 :: .int (Int32.ofInt (j : Int)) :: .ref p :: st) σ Q := by
  refine Ok.cv (p := 93) (cj := 12) (rest := .int (Int32.ofInt (j : Int)) :: .ref p :: st) (As := [.int w]) hM hi rfl rfl hc rfl rfl ?_
  have e : w = qsV σ m := by rw [hw]; unfold qsV; rw [hq]
  rw [e]
  refine (m_kept ht hb hm hI).use hD (fun r τ q => ?_)
  obtain ⟨rfl, q⟩ := q
  rw [hq] at q
  refine Ok.ast (n := n) hM hi2 hp hn (by omega) (by omega) ?_
  rw [show ((j : Int)).toNat = j by omega]
  exact h _ q
theorem im_fld (hM : pm_nth pm_tab k = some M) {off : Nat} (hi : pm_nth M.2.2.2.2.2 idx = some (pc, .invokevirtual off, ln, 242, 1, [12])) {off2 pc2 ln2 x2 y2 : Nat} (hi2 : pm_nth M.2.2.2.2.2 (idx + 1) = some (pc2, .putfield off2, ln2, x2, y2, [0])) (ht : t = 0 ∨ t = 1) (hb : bdI σ0 t) (hm : m < 1431) (hq : qsI m = (93, y2)) (hp : ∀ (τ : pm_S) (w : Int32), (pm_OS none).2.1 τ 93 x2 y2 (.int w) = some (put τ 93 y2 w)) (hc : Nat.ble (pm_cs (.ref 93 :: st)) 8 = true) (hD : 6 ≤ D) (hI : imI σ0 t σ m) {w : Int32} (hw : w = σ.1 93 y2) (h : ∀ τ, imI σ0 t τ (m + 1) → Ok k (D + 1) (idx + 2) L st τ Q) : Ok k (D + 1) idx L (.int w :: .ref 93 :: .ref 93 :: st) σ Q := by
  refine Ok.cv (p := 93) (cj := 12) (rest := .ref 93 :: st) (As := [.int w]) hM hi rfl rfl hc rfl rfl ?_
  have e : w = qsV σ m := by rw [hw]; unfold qsV; rw [hq]
  rw [e]
  refine (m_kept ht hb hm hI).use hD (fun r τ q => ?_)
  obtain ⟨rfl, q⟩ := q
  rw [hq] at q
  refine Ok.ptf hM hi2 (hp _ _) ?_
  exact h _ q
end IMG
set_option maxRecDepth 100000 in
theorem qs_i1_0 : ∀ i, i < 10 → qsI (2 + 1 * i + 0) = (94, i) := by decide +kernel
theorem im_i1 {σ0 : pm_S} {t : Int} (ht : t = 0 ∨ t = 1) (hb : bdI σ0 t) {Q : Option Value → pm_S → Prop} (hend : ∀ (σ : pm_S) (v1 : Value) (w : Value), v1.category = 1 → w.category = 1 → imI σ0 t σ 12 → Ok 245 21 48 [.ref 93, v1, w] [] σ Q) : ∀ (N i : Nat) (σ : pm_S) (v1 : Value), v1.category = 1 → i + N = 10 → imI σ0 t σ (2 + 1 * i) → Ok 245 21 33 [.ref 93, v1, .int (Int32.ofInt (i : Int))] [] σ Q := by
  intro N
  induction N with
  | zero =>
    intro i σ v1 hv1 hN hI
    refine sg_i1_h (i : Int) v1 hv1 hI.1 ⟨by omega, trivial⟩ ?_ ?_
    · intro τ y u0 g0 hB1 hF1 f _ _ _
      have hI1 := hI.fr hB1 hF1
      rw [show 2 + 1 * i = 12 by omega] at hI1
      exact hend τ u0 _ g0 rfl hI1
    · intro τ y u0 g0 hB1 hF1 f _ _ c1
      exfalso
      omega
  | succ N ih =>
    intro i σ v1 hv1 hN hI
    refine sg_i1_h (i : Int) v1 hv1 hI.1 ⟨by omega, trivial⟩ ?_ ?_
    · intro τ y u0 g0 hB1 hF1 f _ _ _
      exfalso
      omega
    · intro τ y u0 g0 hB1 hF1 f _ _ c1
      have ix : ((i : Int)).toNat = i := by omega
      refine im_arr (m := 2 + 1 * i + 0) (p := 94) (n := 10) (j := i) rfl rfl rfl ht hb (by omega) (qs_i1_0 i (by omega)) rfl (by decide) (by omega) rfl (by decide) (hI.fr hB1 hF1) (by rw [← c1.1, oI, ix]) ?_
      intro τ0 hI0
      refine sg_i1_e (i : Int) u0 g0 hI0.1 ⟨by omega, trivial⟩ ?_
      intro τx0 y0 a0_0 b0_0 hBq0 hFq0 _ _ _ d0
      have fin := hI0.fr hBq0 hFq0
      rw [show 2 + 1 * i + 0 + 1 = 2 + 1 * (i + 1) by omega] at fin
      exact ih (i + 1) _ a0_0 b0_0 (by omega) fin
set_option maxRecDepth 100000 in
theorem qs_i2_0 : ∀ i, i < 100 → qsI (12 + 1 * i + 0) = (95, i) := by decide +kernel
theorem im_i2 {σ0 : pm_S} {t : Int} (ht : t = 0 ∨ t = 1) (hb : bdI σ0 t) {Q : Option Value → pm_S → Prop} (hend : ∀ (σ : pm_S) (v1 : Value) (w : Value), v1.category = 1 → w.category = 1 → imI σ0 t σ 112 → Ok 245 21 65 [.ref 93, v1, w] [] σ Q) : ∀ (N i : Nat) (σ : pm_S) (v1 : Value), v1.category = 1 → i + N = 100 → imI σ0 t σ (12 + 1 * i) → Ok 245 21 50 [.ref 93, v1, .int (Int32.ofInt (i : Int))] [] σ Q := by
  intro N
  induction N with
  | zero =>
    intro i σ v1 hv1 hN hI
    refine sg_i2_h (i : Int) v1 hv1 hI.1 ⟨by omega, trivial⟩ ?_ ?_
    · intro τ y u0 g0 hB1 hF1 f _ _ _
      have hI1 := hI.fr hB1 hF1
      rw [show 12 + 1 * i = 112 by omega] at hI1
      exact hend τ u0 _ g0 rfl hI1
    · intro τ y u0 g0 hB1 hF1 f _ _ c1
      exfalso
      omega
  | succ N ih =>
    intro i σ v1 hv1 hN hI
    refine sg_i2_h (i : Int) v1 hv1 hI.1 ⟨by omega, trivial⟩ ?_ ?_
    · intro τ y u0 g0 hB1 hF1 f _ _ _
      exfalso
      omega
    · intro τ y u0 g0 hB1 hF1 f _ _ c1
      have ix : ((i : Int)).toNat = i := by omega
      refine im_arr (m := 12 + 1 * i + 0) (p := 95) (n := 100) (j := i) rfl rfl rfl ht hb (by omega) (qs_i2_0 i (by omega)) rfl (by decide) (by omega) rfl (by decide) (hI.fr hB1 hF1) (by rw [← c1.1, oI, ix]) ?_
      intro τ0 hI0
      refine sg_i2_e (i : Int) u0 g0 hI0.1 ⟨by omega, trivial⟩ ?_
      intro τx0 y0 a0_0 b0_0 hBq0 hFq0 _ _ _ d0
      have fin := hI0.fr hBq0 hFq0
      rw [show 12 + 1 * i + 0 + 1 = 12 + 1 * (i + 1) by omega] at fin
      exact ih (i + 1) _ a0_0 b0_0 (by omega) fin
set_option maxRecDepth 100000 in
theorem qs_i3_0 : ∀ i, i < 80 → qsI (112 + 1 * i + 0) = (113, i) := by decide +kernel
theorem im_i3 {σ0 : pm_S} {t : Int} (ht : t = 0 ∨ t = 1) (hb : bdI σ0 t) {Q : Option Value → pm_S → Prop} (hend : ∀ (σ : pm_S) (v1 : Value) (w : Value), v1.category = 1 → w.category = 1 → imI σ0 t σ 192 → Ok 245 21 82 [.ref 93, v1, w] [] σ Q) : ∀ (N i : Nat) (σ : pm_S) (v1 : Value), v1.category = 1 → i + N = 80 → imI σ0 t σ (112 + 1 * i) → Ok 245 21 67 [.ref 93, v1, .int (Int32.ofInt (i : Int))] [] σ Q := by
  intro N
  induction N with
  | zero =>
    intro i σ v1 hv1 hN hI
    refine sg_i3_h (i : Int) v1 hv1 hI.1 ⟨by omega, trivial⟩ ?_ ?_
    · intro τ y u0 g0 hB1 hF1 f _ _ _
      have hI1 := hI.fr hB1 hF1
      rw [show 112 + 1 * i = 192 by omega] at hI1
      exact hend τ u0 _ g0 rfl hI1
    · intro τ y u0 g0 hB1 hF1 f _ _ c1
      exfalso
      omega
  | succ N ih =>
    intro i σ v1 hv1 hN hI
    refine sg_i3_h (i : Int) v1 hv1 hI.1 ⟨by omega, trivial⟩ ?_ ?_
    · intro τ y u0 g0 hB1 hF1 f _ _ _
      exfalso
      omega
    · intro τ y u0 g0 hB1 hF1 f _ _ c1
      have ix : ((i : Int)).toNat = i := by omega
      refine im_arr (m := 112 + 1 * i + 0) (p := 113) (n := 80) (j := i) rfl rfl rfl ht hb (by omega) (qs_i3_0 i (by omega)) rfl (by decide) (by omega) rfl (by decide) (hI.fr hB1 hF1) (by rw [← c1.1, oI, ix]) ?_
      intro τ0 hI0
      refine sg_i3_e (i : Int) u0 g0 hI0.1 ⟨by omega, trivial⟩ ?_
      intro τx0 y0 a0_0 b0_0 hBq0 hFq0 _ _ _ d0
      have fin := hI0.fr hBq0 hFq0
      rw [show 112 + 1 * i + 0 + 1 = 112 + 1 * (i + 1) by omega] at fin
      exact ih (i + 1) _ a0_0 b0_0 (by omega) fin
set_option maxRecDepth 100000 in
theorem qs_i4_0 : ∀ i, i < 10 → qsI (193 + 5 * i + 0) = (96, i) := by decide +kernel
set_option maxRecDepth 100000 in
theorem qs_i4_1 : ∀ i, i < 10 → qsI (193 + 5 * i + 1) = (97, i) := by decide +kernel
set_option maxRecDepth 100000 in
theorem qs_i4_2 : ∀ i, i < 10 → qsI (193 + 5 * i + 2) = (98, i) := by decide +kernel
set_option maxRecDepth 100000 in
theorem qs_i4_3 : ∀ i, i < 10 → qsI (193 + 5 * i + 3) = (99, i) := by decide +kernel
set_option maxRecDepth 100000 in
theorem qs_i4_4 : ∀ i, i < 10 → qsI (193 + 5 * i + 4) = (100, i) := by decide +kernel
theorem im_i4 {σ0 : pm_S} {t : Int} (ht : t = 0 ∨ t = 1) (hb : bdI σ0 t) {Q : Option Value → pm_S → Prop} (hend : ∀ (σ : pm_S) (v1 : Value) (w : Value), v1.category = 1 → w.category = 1 → imI σ0 t σ 243 → Ok 245 21 145 [.ref 93, v1, w] [] σ Q) : ∀ (N i : Nat) (σ : pm_S) (v1 : Value), v1.category = 1 → i + N = 10 → imI σ0 t σ (193 + 5 * i) → Ok 245 21 90 [.ref 93, v1, .int (Int32.ofInt (i : Int))] [] σ Q := by
  intro N
  induction N with
  | zero =>
    intro i σ v1 hv1 hN hI
    refine sg_i4_h (i : Int) v1 hv1 hI.1 ⟨by omega, trivial⟩ ?_ ?_
    · intro τ y u0 g0 hB1 hF1 f _ _ _
      have hI1 := hI.fr hB1 hF1
      rw [show 193 + 5 * i = 243 by omega] at hI1
      exact hend τ u0 _ g0 rfl hI1
    · intro τ y u0 g0 hB1 hF1 f _ _ c1
      exfalso
      omega
  | succ N ih =>
    intro i σ v1 hv1 hN hI
    refine sg_i4_h (i : Int) v1 hv1 hI.1 ⟨by omega, trivial⟩ ?_ ?_
    · intro τ y u0 g0 hB1 hF1 f _ _ _
      exfalso
      omega
    · intro τ y u0 g0 hB1 hF1 f _ _ c1
      have ix : ((i : Int)).toNat = i := by omega
      refine im_arr (m := 193 + 5 * i + 0) (p := 96) (n := 10) (j := i) rfl rfl rfl ht hb (by omega) (qs_i4_0 i (by omega)) rfl (by decide) (by omega) rfl (by decide) (hI.fr hB1 hF1) (by rw [← c1.1, oI, ix]) ?_
      intro τ0 hI0
      refine sg_i4_0 (i : Int) u0 g0 hI0.1 ⟨by omega, trivial⟩ ?_
      intro τx0 y0 a0_0 b0_0 hBq0 hFq0 _ _ _ d0
      refine im_arr (m := 193 + 5 * i + 1) (p := 97) (n := 10) (j := i) rfl rfl rfl ht hb (by omega) (qs_i4_1 i (by omega)) rfl (by decide) (by omega) rfl (by decide) (hI0.fr hBq0 hFq0) (by rw [← d0.1, oI, ix]) ?_
      intro τ1 hI1
      refine sg_i4_1 (i : Int) a0_0 b0_0 hI1.1 ⟨by omega, trivial⟩ ?_
      intro τx1 y1 a1_0 b1_0 hBq1 hFq1 _ _ _ d1
      refine im_arr (m := 193 + 5 * i + 2) (p := 98) (n := 10) (j := i) rfl rfl rfl ht hb (by omega) (qs_i4_2 i (by omega)) rfl (by decide) (by omega) rfl (by decide) (hI1.fr hBq1 hFq1) (by rw [← d1.1, oI, ix]) ?_
      intro τ2 hI2
      refine sg_i4_2 (i : Int) a1_0 b1_0 hI2.1 ⟨by omega, trivial⟩ ?_
      intro τx2 y2 a2_0 b2_0 hBq2 hFq2 _ _ _ d2
      refine im_arr (m := 193 + 5 * i + 3) (p := 99) (n := 10) (j := i) rfl rfl rfl ht hb (by omega) (qs_i4_3 i (by omega)) rfl (by decide) (by omega) rfl (by decide) (hI2.fr hBq2 hFq2) (by rw [← d2.1, oI, ix]) ?_
      intro τ3 hI3
      refine sg_i4_3 (i : Int) a2_0 b2_0 hI3.1 ⟨by omega, trivial⟩ ?_
      intro τx3 y3 a3_0 b3_0 hBq3 hFq3 _ _ _ d3
      refine im_arr (m := 193 + 5 * i + 4) (p := 100) (n := 10) (j := i) rfl rfl rfl ht hb (by omega) (qs_i4_4 i (by omega)) rfl (by decide) (by omega) rfl (by decide) (hI3.fr hBq3 hFq3) (by rw [← d3.1, oI, ix]) ?_
      intro τ4 hI4
      refine sg_i4_e (i : Int) a3_0 b3_0 hI4.1 ⟨by omega, trivial⟩ ?_
      intro τx4 y4 a4_0 b4_0 hBq4 hFq4 _ _ _ d4
      have fin := hI4.fr hBq4 hFq4
      rw [show 193 + 5 * i + 4 + 1 = 193 + 5 * (i + 1) by omega] at fin
      exact ih (i + 1) _ a4_0 b4_0 (by omega) fin
set_option maxRecDepth 100000 in
theorem qs_i5_0 : ∀ i, i < 4 → qsI (246 + 1 * i + 0) = (108, i) := by decide +kernel
theorem im_i5 {σ0 : pm_S} {t : Int} (ht : t = 0 ∨ t = 1) (hb : bdI σ0 t) {Q : Option Value → pm_S → Prop} (hend : ∀ (σ : pm_S) (v1 : Value) (w : Value), v1.category = 1 → w.category = 1 → imI σ0 t σ 250 → Ok 245 21 180 [.ref 93, v1, w] [] σ Q) : ∀ (N i : Nat) (σ : pm_S) (v1 : Value), v1.category = 1 → i + N = 4 → imI σ0 t σ (246 + 1 * i) → Ok 245 21 165 [.ref 93, v1, .int (Int32.ofInt (i : Int))] [] σ Q := by
  intro N
  induction N with
  | zero =>
    intro i σ v1 hv1 hN hI
    refine sg_i5_h (i : Int) v1 hv1 hI.1 ⟨by omega, trivial⟩ ?_ ?_
    · intro τ y u0 g0 hB1 hF1 f _ _ _
      have hI1 := hI.fr hB1 hF1
      rw [show 246 + 1 * i = 250 by omega] at hI1
      exact hend τ u0 _ g0 rfl hI1
    · intro τ y u0 g0 hB1 hF1 f _ _ c1
      exfalso
      omega
  | succ N ih =>
    intro i σ v1 hv1 hN hI
    refine sg_i5_h (i : Int) v1 hv1 hI.1 ⟨by omega, trivial⟩ ?_ ?_
    · intro τ y u0 g0 hB1 hF1 f _ _ _
      exfalso
      omega
    · intro τ y u0 g0 hB1 hF1 f _ _ c1
      have ix : ((i : Int)).toNat = i := by omega
      refine im_arr (m := 246 + 1 * i + 0) (p := 108) (n := 4) (j := i) rfl rfl rfl ht hb (by omega) (qs_i5_0 i (by omega)) rfl (by decide) (by omega) rfl (by decide) (hI.fr hB1 hF1) (by rw [← c1.1, oI, ix]) ?_
      intro τ0 hI0
      refine sg_i5_e (i : Int) u0 g0 hI0.1 ⟨by omega, trivial⟩ ?_
      intro τx0 y0 a0_0 b0_0 hBq0 hFq0 _ _ _ d0
      have fin := hI0.fr hBq0 hFq0
      rw [show 246 + 1 * i + 0 + 1 = 246 + 1 * (i + 1) by omega] at fin
      exact ih (i + 1) _ a0_0 b0_0 (by omega) fin
set_option maxRecDepth 100000 in
theorem qs_d1_0 : ∀ i, i < 30 → qsI (251 + 7 * i + 0) = (101, i) := by decide +kernel
set_option maxRecDepth 100000 in
theorem qs_d1_1 : ∀ i, i < 30 → qsI (251 + 7 * i + 1) = (102, i) := by decide +kernel
set_option maxRecDepth 100000 in
theorem qs_d1_2 : ∀ i, i < 30 → qsI (251 + 7 * i + 2) = (103, i) := by decide +kernel
set_option maxRecDepth 100000 in
theorem qs_d1_3 : ∀ i, i < 30 → qsI (251 + 7 * i + 3) = (104, i) := by decide +kernel
set_option maxRecDepth 100000 in
theorem qs_d1_4 : ∀ i, i < 30 → qsI (251 + 7 * i + 4) = (105, i) := by decide +kernel
set_option maxRecDepth 100000 in
theorem qs_d1_5 : ∀ i, i < 30 → qsI (251 + 7 * i + 5) = (106, i) := by decide +kernel
set_option maxRecDepth 100000 in
theorem qs_d1_6 : ∀ i, i < 30 → qsI (251 + 7 * i + 6) = (107, i) := by decide +kernel
theorem im_d1 {σ0 : pm_S} {t : Int} (ht : t = 0 ∨ t = 1) (hb : bdI σ0 t) {Q : Option Value → pm_S → Prop} (hend : ∀ (σ : pm_S) (w : Value), w.category = 1 → imI σ0 t σ 461 → Ok 243 11 83 [.ref 93, w] [] σ Q) : ∀ (N i : Nat) (σ : pm_S), i + N = 30 → imI σ0 t σ (251 + 7 * i) → Ok 243 11 8 [.ref 93, .int (Int32.ofInt (i : Int))] [] σ Q := by
  intro N
  induction N with
  | zero =>
    intro i σ   hN hI
    refine sg_d1_h (i : Int)   hI.1 ⟨by omega, trivial⟩ ?_ ?_
    · intro τ y   hB1 hF1 f _ _ _
      have hI1 := hI.fr hB1 hF1
      rw [show 251 + 7 * i = 461 by omega] at hI1
      exact hend τ  _  rfl hI1
    · intro τ y   hB1 hF1 f _ _ c1
      exfalso
      omega
  | succ N ih =>
    intro i σ   hN hI
    refine sg_d1_h (i : Int)   hI.1 ⟨by omega, trivial⟩ ?_ ?_
    · intro τ y   hB1 hF1 f _ _ _
      exfalso
      omega
    · intro τ y   hB1 hF1 f _ _ c1
      have ix : ((i : Int)).toNat = i := by omega
      refine im_arr (m := 251 + 7 * i + 0) (p := 101) (n := 30) (j := i) rfl rfl rfl ht hb (by omega) (qs_d1_0 i (by omega)) rfl (by decide) (by omega) rfl (by decide) (hI.fr hB1 hF1) (by rw [← c1.1, oI, ix]) ?_
      intro τ0 hI0
      refine sg_d1_0 (i : Int)   hI0.1 ⟨by omega, trivial⟩ ?_
      intro τx0 y0   hBq0 hFq0 _ _ _ d0
      refine im_arr (m := 251 + 7 * i + 1) (p := 102) (n := 30) (j := i) rfl rfl rfl ht hb (by omega) (qs_d1_1 i (by omega)) rfl (by decide) (by omega) rfl (by decide) (hI0.fr hBq0 hFq0) (by rw [← d0.1, oI, ix]) ?_
      intro τ1 hI1
      refine sg_d1_1 (i : Int)   hI1.1 ⟨by omega, trivial⟩ ?_
      intro τx1 y1   hBq1 hFq1 _ _ _ d1
      refine im_arr (m := 251 + 7 * i + 2) (p := 103) (n := 30) (j := i) rfl rfl rfl ht hb (by omega) (qs_d1_2 i (by omega)) rfl (by decide) (by omega) rfl (by decide) (hI1.fr hBq1 hFq1) (by rw [← d1.1, oI, ix]) ?_
      intro τ2 hI2
      refine sg_d1_2 (i : Int)   hI2.1 ⟨by omega, trivial⟩ ?_
      intro τx2 y2   hBq2 hFq2 _ _ _ d2
      refine im_arr (m := 251 + 7 * i + 3) (p := 104) (n := 30) (j := i) rfl rfl rfl ht hb (by omega) (qs_d1_3 i (by omega)) rfl (by decide) (by omega) rfl (by decide) (hI2.fr hBq2 hFq2) (by rw [← d2.1, oI, ix]) ?_
      intro τ3 hI3
      refine sg_d1_3 (i : Int)   hI3.1 ⟨by omega, trivial⟩ ?_
      intro τx3 y3   hBq3 hFq3 _ _ _ d3
      refine im_arr (m := 251 + 7 * i + 4) (p := 105) (n := 30) (j := i) rfl rfl rfl ht hb (by omega) (qs_d1_4 i (by omega)) rfl (by decide) (by omega) rfl (by decide) (hI3.fr hBq3 hFq3) (by rw [← d3.1, oI, ix]) ?_
      intro τ4 hI4
      refine sg_d1_4 (i : Int)   hI4.1 ⟨by omega, trivial⟩ ?_
      intro τx4 y4   hBq4 hFq4 _ _ _ d4
      refine im_arr (m := 251 + 7 * i + 5) (p := 106) (n := 30) (j := i) rfl rfl rfl ht hb (by omega) (qs_d1_5 i (by omega)) rfl (by decide) (by omega) rfl (by decide) (hI4.fr hBq4 hFq4) (by rw [← d4.1, oI, ix]) ?_
      intro τ5 hI5
      refine sg_d1_5 (i : Int)   hI5.1 ⟨by omega, trivial⟩ ?_
      intro τx5 y5   hBq5 hFq5 _ _ _ d5
      refine im_arr (m := 251 + 7 * i + 6) (p := 107) (n := 30) (j := i) rfl rfl rfl ht hb (by omega) (qs_d1_6 i (by omega)) rfl (by decide) (by omega) rfl (by decide) (hI5.fr hBq5 hFq5) (by rw [← d5.1, oI, ix]) ?_
      intro τ6 hI6
      refine sg_d1_e (i : Int)   hI6.1 ⟨by omega, trivial⟩ ?_
      intro τx6 y6   hBq6 hFq6 _ _ _ d6
      have fin := hI6.fr hBq6 hFq6
      rw [show 251 + 7 * i + 6 + 1 = 251 + 7 * (i + 1) by omega] at fin
      exact ih (i + 1) _   (by omega) fin
set_option maxRecDepth 100000 in
theorem qs_d2_0 : ∀ i, i < 30 → qsI (462 + 4 * i + 0) = (109, i) := by decide +kernel
set_option maxRecDepth 100000 in
theorem qs_d2_1 : ∀ i, i < 30 → qsI (462 + 4 * i + 1) = (110, i) := by decide +kernel
set_option maxRecDepth 100000 in
theorem qs_d2_2 : ∀ i, i < 30 → qsI (462 + 4 * i + 2) = (111, i) := by decide +kernel
set_option maxRecDepth 100000 in
theorem qs_d2_3 : ∀ i, i < 30 → qsI (462 + 4 * i + 3) = (112, i) := by decide +kernel
theorem im_d2 {σ0 : pm_S} {t : Int} (ht : t = 0 ∨ t = 1) (hb : bdI σ0 t) {Q : Option Value → pm_S → Prop} (hend : ∀ (σ : pm_S) (w : Value), w.category = 1 → imI σ0 t σ 582 → Ok 243 11 136 [.ref 93, w] [] σ Q) : ∀ (N i : Nat) (σ : pm_S), i + N = 30 → imI σ0 t σ (462 + 4 * i) → Ok 243 11 91 [.ref 93, .int (Int32.ofInt (i : Int))] [] σ Q := by
  intro N
  induction N with
  | zero =>
    intro i σ   hN hI
    refine sg_d2_h (i : Int)   hI.1 ⟨by omega, trivial⟩ ?_ ?_
    · intro τ y   hB1 hF1 f _ _ _
      have hI1 := hI.fr hB1 hF1
      rw [show 462 + 4 * i = 582 by omega] at hI1
      exact hend τ  _  rfl hI1
    · intro τ y   hB1 hF1 f _ _ c1
      exfalso
      omega
  | succ N ih =>
    intro i σ   hN hI
    refine sg_d2_h (i : Int)   hI.1 ⟨by omega, trivial⟩ ?_ ?_
    · intro τ y   hB1 hF1 f _ _ _
      exfalso
      omega
    · intro τ y   hB1 hF1 f _ _ c1
      have ix : ((i : Int)).toNat = i := by omega
      refine im_arr (m := 462 + 4 * i + 0) (p := 109) (n := 30) (j := i) rfl rfl rfl ht hb (by omega) (qs_d2_0 i (by omega)) rfl (by decide) (by omega) rfl (by decide) (hI.fr hB1 hF1) (by rw [← c1.1, oI, ix]) ?_
      intro τ0 hI0
      refine sg_d2_0 (i : Int)   hI0.1 ⟨by omega, trivial⟩ ?_
      intro τx0 y0   hBq0 hFq0 _ _ _ d0
      refine im_arr (m := 462 + 4 * i + 1) (p := 110) (n := 30) (j := i) rfl rfl rfl ht hb (by omega) (qs_d2_1 i (by omega)) rfl (by decide) (by omega) rfl (by decide) (hI0.fr hBq0 hFq0) (by rw [← d0.1, oI, ix]) ?_
      intro τ1 hI1
      refine sg_d2_1 (i : Int)   hI1.1 ⟨by omega, trivial⟩ ?_
      intro τx1 y1   hBq1 hFq1 _ _ _ d1
      refine im_arr (m := 462 + 4 * i + 2) (p := 111) (n := 30) (j := i) rfl rfl rfl ht hb (by omega) (qs_d2_2 i (by omega)) rfl (by decide) (by omega) rfl (by decide) (hI1.fr hBq1 hFq1) (by rw [← d1.1, oI, ix]) ?_
      intro τ2 hI2
      refine sg_d2_2 (i : Int)   hI2.1 ⟨by omega, trivial⟩ ?_
      intro τx2 y2   hBq2 hFq2 _ _ _ d2
      refine im_arr (m := 462 + 4 * i + 3) (p := 112) (n := 30) (j := i) rfl rfl rfl ht hb (by omega) (qs_d2_3 i (by omega)) rfl (by decide) (by omega) rfl (by decide) (hI2.fr hBq2 hFq2) (by rw [← d2.1, oI, ix]) ?_
      intro τ3 hI3
      refine sg_d2_e (i : Int)   hI3.1 ⟨by omega, trivial⟩ ?_
      intro τx3 y3   hBq3 hFq3 _ _ _ d3
      have fin := hI3.fr hBq3 hFq3
      rw [show 462 + 4 * i + 3 + 1 = 462 + 4 * (i + 1) by omega] at fin
      exact ih (i + 1) _   (by omega) fin
set_option maxRecDepth 100000 in
theorem qs_w1_0 : ∀ i, i < 16 → qsI (583 + 3 * i + 0) = (116, i) := by decide +kernel
set_option maxRecDepth 100000 in
theorem qs_w1_1 : ∀ i, i < 16 → qsI (583 + 3 * i + 1) = (117, i) := by decide +kernel
set_option maxRecDepth 100000 in
theorem qs_w1_2 : ∀ i, i < 16 → qsI (583 + 3 * i + 2) = (118, i) := by decide +kernel
theorem im_w1 {σ0 : pm_S} {t : Int} (ht : t = 0 ∨ t = 1) (hb : bdI σ0 t) {Q : Option Value → pm_S → Prop} (hend : ∀ (σ : pm_S) (w : Value), w.category = 1 → imI σ0 t σ 631 → Ok 244 11 43 [.ref 93, w] [] σ Q) : ∀ (N i : Nat) (σ : pm_S), i + N = 16 → imI σ0 t σ (583 + 3 * i) → Ok 244 11 8 [.ref 93, .int (Int32.ofInt (i : Int))] [] σ Q := by
  intro N
  induction N with
  | zero =>
    intro i σ   hN hI
    refine sg_w1_h (i : Int)   hI.1 ⟨by omega, trivial⟩ ?_ ?_
    · intro τ y   hB1 hF1 f _ _ _
      have hI1 := hI.fr hB1 hF1
      rw [show 583 + 3 * i = 631 by omega] at hI1
      exact hend τ  _  rfl hI1
    · intro τ y   hB1 hF1 f _ _ c1
      exfalso
      omega
  | succ N ih =>
    intro i σ   hN hI
    refine sg_w1_h (i : Int)   hI.1 ⟨by omega, trivial⟩ ?_ ?_
    · intro τ y   hB1 hF1 f _ _ _
      exfalso
      omega
    · intro τ y   hB1 hF1 f _ _ c1
      have ix : ((i : Int)).toNat = i := by omega
      refine im_arr (m := 583 + 3 * i + 0) (p := 116) (n := 32) (j := i) rfl rfl rfl ht hb (by omega) (qs_w1_0 i (by omega)) rfl (by decide) (by omega) rfl (by decide) (hI.fr hB1 hF1) (by rw [← c1.1, oI, ix]) ?_
      intro τ0 hI0
      refine sg_w1_0 (i : Int)   hI0.1 ⟨by omega, trivial⟩ ?_
      intro τx0 y0   hBq0 hFq0 _ _ _ d0
      refine im_arr (m := 583 + 3 * i + 1) (p := 117) (n := 32) (j := i) rfl rfl rfl ht hb (by omega) (qs_w1_1 i (by omega)) rfl (by decide) (by omega) rfl (by decide) (hI0.fr hBq0 hFq0) (by rw [← d0.1, oI, ix]) ?_
      intro τ1 hI1
      refine sg_w1_1 (i : Int)   hI1.1 ⟨by omega, trivial⟩ ?_
      intro τx1 y1   hBq1 hFq1 _ _ _ d1
      refine im_arr (m := 583 + 3 * i + 2) (p := 118) (n := 32) (j := i) rfl rfl rfl ht hb (by omega) (qs_w1_2 i (by omega)) rfl (by decide) (by omega) rfl (by decide) (hI1.fr hBq1 hFq1) (by rw [← d1.1, oI, ix]) ?_
      intro τ2 hI2
      refine sg_w1_e (i : Int)   hI2.1 ⟨by omega, trivial⟩ ?_
      intro τx2 y2   hBq2 hFq2 _ _ _ d2
      have fin := hI2.fr hBq2 hFq2
      rw [show 583 + 3 * i + 2 + 1 = 583 + 3 * (i + 1) by omega] at fin
      exact ih (i + 1) _   (by omega) fin
set_option maxRecDepth 100000 in
theorem qs_w2_0 : ∀ i, i < 400 → qsI (631 + 2 * i + 0) = (119, i) := by decide +kernel
set_option maxRecDepth 100000 in
theorem qs_w2_1 : ∀ i, i < 400 → qsI (631 + 2 * i + 1) = (120, i) := by decide +kernel
theorem im_w2 {σ0 : pm_S} {t : Int} (ht : t = 0 ∨ t = 1) (hb : bdI σ0 t) {Q : Option Value → pm_S → Prop} (hend : ∀ (σ : pm_S) (w : Value), w.category = 1 → imI σ0 t σ 1431 → Ok 244 11 70 [.ref 93, w] [] σ Q) : ∀ (N i : Nat) (σ : pm_S), i + N = 400 → imI σ0 t σ (631 + 2 * i) → Ok 244 11 45 [.ref 93, .int (Int32.ofInt (i : Int))] [] σ Q := by
  intro N
  induction N with
  | zero =>
    intro i σ   hN hI
    refine sg_w2_h (i : Int)   hI.1 ⟨by omega, trivial⟩ ?_ ?_
    · intro τ y   hB1 hF1 f _ _ _
      have hI1 := hI.fr hB1 hF1
      rw [show 631 + 2 * i = 1431 by omega] at hI1
      exact hend τ  _  rfl hI1
    · intro τ y   hB1 hF1 f _ _ c1
      exfalso
      omega
  | succ N ih =>
    intro i σ   hN hI
    refine sg_w2_h (i : Int)   hI.1 ⟨by omega, trivial⟩ ?_ ?_
    · intro τ y   hB1 hF1 f _ _ _
      exfalso
      omega
    · intro τ y   hB1 hF1 f _ _ c1
      have ix : ((i : Int)).toNat = i := by omega
      refine im_arr (m := 631 + 2 * i + 0) (p := 119) (n := 800) (j := i) rfl rfl rfl ht hb (by omega) (qs_w2_0 i (by omega)) rfl (by decide) (by omega) rfl (by decide) (hI.fr hB1 hF1) (by rw [← c1.1, oI, ix]) ?_
      intro τ0 hI0
      refine sg_w2_0 (i : Int)   hI0.1 ⟨by omega, trivial⟩ ?_
      intro τx0 y0   hBq0 hFq0 _ _ _ d0
      refine im_arr (m := 631 + 2 * i + 1) (p := 120) (n := 800) (j := i) rfl rfl rfl ht hb (by omega) (qs_w2_1 i (by omega)) rfl (by decide) (by omega) rfl (by decide) (hI0.fr hBq0 hFq0) (by rw [← d0.1, oI, ix]) ?_
      intro τ1 hI1
      refine sg_w2_e (i : Int)   hI1.1 ⟨by omega, trivial⟩ ?_
      intro τx1 y1   hBq1 hFq1 _ _ _ d1
      have fin := hI1.fr hBq1 hFq1
      rw [show 631 + 2 * i + 1 + 1 = 631 + 2 * (i + 1) by omega] at fin
      exact ih (i + 1) _   (by omega) fin
