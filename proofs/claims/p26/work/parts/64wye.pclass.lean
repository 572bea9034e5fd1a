/-! the class's parser against the grammar: units, sides -/
theorem gd_l : ∀ {c d : List Int} {j : Nat}, j < c.length → (c ++ d).getD j 0 = c.getD j 0
  | [], _, _, h => absurd h (Nat.not_lt_zero _)
  | _ :: _, _, 0, _ => rfl
  | _ :: c, d, j + 1, h => gd_l (c := c) (d := d) (j := j) (Nat.lt_of_succ_lt_succ h)
theorem gd_e : ∀ {c d : List Int} {j : Nat}, (c ++ d).getD (c.length + j) 0 = d.getD j 0
  | [], d, j => by
    show d.getD (0 + j) 0 = _
    rw [Nat.zero_add]
  | x :: c, d, j => by
    have := gd_e (c := c) (d := d) (j := j)
    rw [← this, List.length_cons, show c.length + 1 + j = (c.length + j) + 1 by omega]
    rfl
abbrev FTy : List (Nat × Nat) := [(67, 0), (67, 1), (67, 8), (67, 9), (69, 1), (70, 9999)]
/-- the tokens and their places -/
abbrev pc_B (T : Nat → Int) (P : Nat → Nat) (L : Nat) (σ : pm_S) : Prop := L ≤ 400 ∧ sI σ 67 7 = (L : Int) + 1 ∧ ∀ j, j ≤ L → sI σ 72 j = T j ∧ sI σ 73 j = (P j : Int)
/-- no fault; at the token i; c is told -/
abbrev pc_D (T : Nat → Int) (σ : pm_S) (i : Nat) (c : List Int) : Prop := sI σ 67 0 = 0 ∧ sI σ 67 8 = (i : Int) ∧ sI σ 67 9 = T i ∧ (sI σ 69 1 = (c.length : Int) ∧ sI σ 67 1 = -1) ∧ ∀ j, j < c.length → sI σ 70 j = c.getD j 0
abbrev pc_F (P : Nat → Nat) (σ : pm_S) (k j : Nat) : Prop := sI σ 67 0 = (k : Int) ∧ sI σ 67 1 = (P j : Int)
abbrev pc_R (T : Nat → Int) (P : Nat → Nat) (τ : pm_S) (c : List Int) (r : gyR) : Prop := (r.1 = 0 ∧ pc_D T τ r.2.1 (c ++ r.2.2)) ∨ (r.1 ≠ 0 ∧ pc_F P τ r.1 r.2.1)
abbrev pc_Q (T : Nat → Int) (P : Nat → Nat) (σ : pm_S) (c : List Int) (r : gyR) : Option Value → pm_S → Prop := fun v τ => v = none ∧ an_GB pm_B τ ∧ FQ FTy σ τ ∧ pc_R T P τ c r
theorem pc_B.fq {T : Nat → Int} {P : Nat → Nat} {L : Nat} {σ τ : pm_S} (h : pc_B T P L σ) {G : List (Nat × Nat)} (hG : (an_inF G 67 7 || an_inP G 72 || an_inP G 73) = false) (F : FQ G σ τ) : pc_B T P L τ := by
  rw [Bool.or_eq_false_iff, Bool.or_eq_false_iff] at hG
  refine ⟨h.1, (congrArg Int32.toInt (F 67 7 hG.1.1)).trans h.2.1, fun j hj => ⟨(congrArg Int32.toInt (F 72 j (an_inP_ok hG.1.2 j))).trans (h.2.2 j hj).1, (congrArg Int32.toInt (F 73 j (an_inP_ok hG.2 j))).trans (h.2.2 j hj).2⟩⟩
theorem pc_F.fq {P : Nat → Nat} {σ τ : pm_S} {k j : Nat} (h : pc_F P σ k j) {G : List (Nat × Nat)} (hG : (an_inF G 67 0 || an_inF G 67 1) = false) (F : FQ G σ τ) : pc_F P τ k j := by
  rw [Bool.or_eq_false_iff] at hG
  exact ⟨(congrArg Int32.toInt (F 67 0 hG.1)).trans h.1, (congrArg Int32.toInt (F 67 1 hG.2)).trans h.2⟩
theorem pc_D.fq {T : Nat → Int} {σ τ : pm_S} {i : Nat} {c : List Int} (h : pc_D T σ i c) {G : List (Nat × Nat)} (hG : (an_inF G 67 0 || an_inF G 67 8 || an_inF G 67 9 || an_inF G 69 1 || an_inP G 70 || an_inF G 67 1) = false) (F : FQ G σ τ) : pc_D T τ i c := by
  rw [Bool.or_eq_false_iff, Bool.or_eq_false_iff, Bool.or_eq_false_iff, Bool.or_eq_false_iff, Bool.or_eq_false_iff] at hG
  exact ⟨(congrArg Int32.toInt (F 67 0 hG.1.1.1.1.1)).trans h.1, (congrArg Int32.toInt (F 67 8 hG.1.1.1.1.2)).trans h.2.1, (congrArg Int32.toInt (F 67 9 hG.1.1.1.2)).trans h.2.2.1, ⟨(congrArg Int32.toInt (F 69 1 hG.1.1.2)).trans h.2.2.2.1.1, (congrArg Int32.toInt (F 67 1 hG.2)).trans h.2.2.2.1.2⟩, fun j hj => (congrArg Int32.toInt (F 70 j (an_inP_ok hG.1.2 j))).trans (h.2.2.2.2 j hj)⟩
/-- what is told behind d -/
theorem pc_R.app {T : Nat → Int} {P : Nat → Nat} {τ : pm_S} {c d : List Int} {r : gyR} (h : pc_R T P τ (c ++ d) r) : pc_R T P τ c (r.1, r.2.1, d ++ r.2.2) := by
  rcases h with ⟨a, b⟩ | h
  · rw [List.append_assoc] at b
    exact Or.inl ⟨a, b⟩
  · exact Or.inr h
set_option maxRecDepth 20000 in
theorem x_pad {σ : pm_S} (z : Int) (c : List Int) (hB : an_GB pm_B σ) (hz : (-27) ≤ z ∧ z ≤ 9999) (hm : c.length ≤ 399) (em : sI σ 69 1 = (c.length : Int)) (ec : ∀ j, j < c.length → sI σ 70 j = c.getD j 0) : Sp 14 5 [.ref 69, .int (Int32.ofInt z)] σ (fun v τ => v = none ∧ an_GB pm_B τ ∧ FQ [(69, 1), (70, 9999)] σ τ ∧ sI τ 69 1 = ((c ++ [z]).length : Int) ∧ ∀ j, j < (c ++ [z]).length → sI τ 70 j = (c ++ [z]).getD j 0) := by
  refine Sp.at rfl rfl ?_
  refine py_ad z c.length hB ⟨hz, by omega, trivial⟩ ⟨em, trivial⟩ ?_
  intro τ y hB1 F1 _ _ _ c1
  refine Ok.ast (n := 400) rfl rfl rfl (by decide) (by omega) (by omega) ?_
  have hB2 : an_GB pm_B (put τ 70 ((c.length : Int)).toNat (Int32.ofInt z)) := put_GB hB1 (ai_rng _)
  refine py_ad12 z c.length hB2 ⟨hz, by omega, trivial⟩ ⟨by rw [put_nr (by decide)]; exact c1.1, trivial⟩ ?_
  intro τ3 y3 hB3 F3 _ _ _ c3
  have l1 : (c ++ [z]).length = c.length + 1 := by rw [List.length_append, List.length_singleton]
  refine ⟨rfl, hB3, FQ.tr (FQ.up (G := []) rfl F1) (FQ.tr (FQ.put rfl) (FQ.up (G := [(69, 1)]) rfl F3)), ?_, fun j hj => ?_⟩
  · show (τ3.1 69 1).toInt = _
    rw [c3.1, l1]
    rfl
  · show (τ3.1 70 j).toInt = _
    rw [F3 70 j rfl, put_get, Int.toNat_natCast]
    by_cases e : j = c.length
    · rw [if_pos ⟨rfl, e⟩, ti_of (by omega) (by omega), e]
      exact (gd_e (c := c) (d := [z]) (j := 0)).symm
    · rw [if_neg (fun w => e w.2), F1 70 j rfl, gd_l (by omega)]
      exact ec j (by omega)
section PCL
variable {T : Nat → Int} {P : Nat → Nat} {L : Nat}
set_option maxRecDepth 20000 in
theorem x_pav {σ : pm_S} {i : Nat} (hB : an_GB pm_B σ) (hb : pc_B T P L σ) (hi : i < L) (ei : sI σ 67 8 = (i : Int)) : Sp 29 5 [.ref 67] σ (fun v τ => v = none ∧ an_GB pm_B τ ∧ FQ [(67, 8), (67, 9)] σ τ ∧ sI τ 67 8 = ((i + 1 : Nat) : Int) ∧ sI τ 67 9 = T (i + 1)) := by
  have hL := hb.1
  refine Sp.at rfl rfl ?_
  refine py_av i ((L : Int) + 1) hB ⟨by omega, by omega, trivial⟩ ⟨ei, hb.2.1, trivial⟩ ?_
  intro τ y hB1 F1 _ _ _ c1
  refine Ok.ic rfl rfl (by omega) (by omega) (by omega) (by omega) (fun z => ?_) (fun z => ?_)
  · have z : (L : Int) + 1 ≤ (i : Int) + 1 := z
    exfalso
    omega
  · refine py_av7 i hB1 ⟨by omega, trivial⟩ ⟨(congrArg Int32.toInt (F1 67 8 rfl)).trans ei, trivial⟩ ?_
    intro τ2 y2 hB2 F2 _ _ _ c2
    refine ⟨rfl, hB2, FQ.tr (FQ.up (G := []) rfl F1) F2, ?_, ?_⟩
    · show (τ2.1 67 8).toInt = _
      rw [c2.1]
      omega
    · have e := (hb.2.2 (i + 1) (by omega)).1
      have q : (τ2.1 72 ((i : Int) + 1).toNat).toInt = T (i + 1) := by
        rw [F2 72 _ rfl, F1 72 _ rfl, show ((i : Int) + 1).toNat = i + 1 by omega]
        exact e
      show (τ2.1 67 9).toInt = _
      rw [c2.2.1, ← c2.2.2.1]
      exact q
set_option maxRecDepth 20000 in
theorem x_pfa {σ : pm_S} {i : Nat} (k : Nat) (hB : an_GB pm_B σ) (hb : pc_B T P L σ) (hi : i ≤ L) (hk : 1 ≤ k ∧ k ≤ 3) (e0 : sI σ 67 0 = 0) (ei : sI σ 67 8 = (i : Int)) : Sp 28 5 [.ref 67, .int (Int32.ofInt (k : Int))] σ (fun v τ => v = none ∧ an_GB pm_B τ ∧ FQ [(67, 0), (67, 1)] σ τ ∧ pc_F P τ k i) := by
  have hL := hb.1
  refine Sp.at rfl rfl ?_
  refine py_fail k i hB ⟨by omega, by omega, trivial⟩ ⟨e0, ei, trivial⟩ ?_
  intro τ y hB1 F1 _ _ _ c1
  refine ⟨rfl, hB1, F1, c1.1, ?_⟩
  have e := (hb.2.2 i hi).2
  show (τ.1 67 1).toInt = _
  rw [c1.2.1, ← c1.2.2.2.1, F1 73 _ rfl, Int.toNat_natCast]
  exact e
set_option maxRecDepth 20000 in
theorem x_pun {σ : pm_S} {i : Nat} {c : List Int} (hT : ∀ j, T j = -26 ↔ L ≤ j) (hr : ∀ j, (-27) ≤ T j ∧ T j ≤ 9999) (hB : an_GB pm_B σ) (hb : pc_B T P L σ) (hi : i ≤ L) (hc : c.length ≤ i) (hD : pc_D T σ i c) : Sp 37 7 [.ref 67] σ (pc_Q T P σ c (ps_U T i)) := by
  have hL := hb.1
  have hri := hr i
  obtain ⟨d0, d8, d9, ⟨dm, dn⟩, dc⟩ := hD
  refine Sp.at rfl rfl ?_
  have good : ∀ (τ : pm_S), an_GB pm_B τ → FQ [] σ τ → (0 ≤ T i ∨ ((-15) ≤ T i ∧ T i ≤ -7)) → Ok 37 7 11 [.ref 67] [.int (Int32.ofInt (T i)), .ref 69] τ (pc_Q T P σ c (ps_U T i)) := by
    intro τ hB1 F1 hq
    have iL : i < L := by
      rcases Nat.lt_or_ge i L with x | x
      · exact x
      · have := (hT i).mpr x
        omega
    refine Ok.cv rfl rfl rfl rfl rfl rfl rfl ?_
    refine (x_pad (T i) c hB1 hri (by omega) ((congrArg Int32.toInt (F1 69 1 rfl)).trans dm) (fun j hj => (congrArg Int32.toInt (F1 70 j rfl)).trans (dc j hj))).use (by decide) (fun r τ2 q => ?_)
    obtain ⟨rfl, hB2, F2, m2, c2⟩ := q
    have G2 : FQ [(69, 1), (70, 9999)] σ τ2 := FQ.tr (FQ.up (G := []) rfl F1) F2
    refine py_u12 hB2 ?_
    intro τ3 y3 hB3 F3 _ _ _ _
    have G3 : FQ [(69, 1), (70, 9999)] σ τ3 := FQ.tr G2 (FQ.up (G := []) rfl F3)
    refine Ok.cv rfl rfl rfl rfl rfl rfl rfl ?_
    refine (x_pav (i := i) hB3 (hb.fq rfl G3) iL ((congrArg Int32.toInt (G3 67 8 rfl)).trans d8)).use (by decide) (fun r τ4 q => ?_)
    obtain ⟨rfl, hB4, F4, a8, a9⟩ := q
    refine py_u14 hB4 ?_
    intro τ5 y5 hB5 F5 _ _ _ _
    have e : ps_U T i = (0, i + 1, [T i]) := if_pos hq
    rw [e]
    refine ⟨rfl, hB5, FQ.tr (FQ.up (G := [(69, 1), (70, 9999)]) rfl G3) (FQ.tr (FQ.up (G := [(67, 8), (67, 9)]) rfl F4) (FQ.up (G := []) rfl F5)), Or.inl ⟨rfl, ?_, ?_, ?_, ⟨?_, ?_⟩, fun j hj => ?_⟩⟩
    · show (τ5.1 67 0).toInt = 0
      rw [F5 67 0 rfl, F4 67 0 rfl, G3 67 0 rfl]
      exact d0
    · exact (congrArg Int32.toInt (F5 67 8 rfl)).trans a8
    · exact (congrArg Int32.toInt (F5 67 9 rfl)).trans a9
    · exact (congrArg Int32.toInt (((F5 69 1 rfl).trans (F4 69 1 rfl)).trans (F3 69 1 rfl))).trans m2
    · exact (congrArg Int32.toInt (((F5 67 1 rfl).trans (F4 67 1 rfl)).trans (G3 67 1 rfl))).trans dn
    · exact (congrArg Int32.toInt (((F5 70 j rfl).trans (F4 70 j rfl)).trans (F3 70 j rfl))).trans (c2 j hj)
  have bad : ∀ (τ : pm_S), an_GB pm_B τ → FQ [] σ τ → ¬ (0 ≤ T i ∨ ((-15) ≤ T i ∧ T i ≤ -7)) → Ok 37 7 17 [.ref 67] [.int (Int32.ofInt 1), .ref 67] τ (pc_Q T P σ c (ps_U T i)) := by
    intro τ hB1 F1 hq
    refine Ok.cv rfl rfl rfl rfl rfl rfl rfl ?_
    refine (x_pfa (i := i) 1 hB1 (hb.fq rfl F1) hi (by decide) ((congrArg Int32.toInt (F1 67 0 rfl)).trans d0) ((congrArg Int32.toInt (F1 67 8 rfl)).trans d8)).use (by decide) (fun r τ2 q => ?_)
    obtain ⟨rfl, hB2, F2, q2⟩ := q
    refine py_u18 hB2 ?_
    intro τ3 y3 hB3 F3 _ _ _ _
    have e : ps_U T i = (1, i, []) := if_neg hq
    rw [e]
    exact ⟨rfl, hB3, FQ.tr (FQ.up (G := []) rfl F1) (FQ.tr (FQ.up (G := [(67, 0), (67, 1)]) rfl F2) (FQ.up (G := []) rfl F3)), Or.inr ⟨show (1 : Nat) ≠ 0 by decide, q2.fq (G := []) rfl F3⟩⟩
  refine py_u0 (T i) hB ⟨hri, trivial⟩ ⟨d9, trivial⟩ ?_ ?_ ?_ ?_
  · intro τ y hB1 F1 f _ _ _
    have f1 := f.1
    exact good τ hB1 F1 (Or.inl f1.1)
  · intro τ y hB1 F1 f _ _ _
    have f1 := f.1
    exact bad τ hB1 F1 (by omega)
  · intro τ y hB1 F1 f _ _ _
    have f1 := f.1
    exact bad τ hB1 F1 (by omega)
  · intro τ y hB1 F1 f _ _ _
    exact good τ hB1 F1 (Or.inr f.1)
set_option maxRecDepth 20000 in
theorem x_pex {σ : pm_S} {i : Nat} {c : List Int} (w : Int) (hT : ∀ j, T j = -26 ↔ L ≤ j) (hr : ∀ j, (-27) ≤ T j ∧ T j ≤ 9999) (hB : an_GB pm_B σ) (hb : pc_B T P L σ) (hi : i ≤ L) (hw : (-25) ≤ w ∧ w ≤ -1) (hD : pc_D T σ i c) : Sp 30 7 [.ref 67, .int (Int32.ofInt w)] σ (pc_Q T P σ c (if T i = w then (0, i + 1, []) else (1, i, []))) := by
  have hri := hr i
  refine Sp.at rfl rfl ?_
  refine py_e0 w (T i) hB ⟨by omega, hri, trivial⟩ ⟨hD.2.2.1, trivial⟩ ?_
  intro τ y hB1 F1 _ _ _ _
  have D1 := hD.fq (G := []) rfl F1
  refine Ok.ic rfl rfl (by omega) (by omega) (by omega) (by omega) (fun z => ?_) (fun z => ?_)
  · have z : T i ≠ w := z
    rw [if_neg z]
    refine py_e7 w hB1 ⟨by omega, trivial⟩ ?_
    intro τ2 y2 hB2 F2 _ _ _ _
    have D2 := D1.fq (G := []) rfl F2
    refine Ok.cv rfl rfl rfl rfl rfl rfl rfl ?_
    refine (x_pfa (i := i) 1 hB2 ((hb.fq (G := []) rfl F1).fq (G := []) rfl F2) hi (by decide) D2.1 D2.2.1).use (by decide) (fun r τ3 q => ?_)
    obtain ⟨rfl, hB3, F3, q3⟩ := q
    refine py_e10 w hB3 ⟨by omega, trivial⟩ ?_
    intro τ4 y4 hB4 F4 _ _ _ _
    exact ⟨rfl, hB4, FQ.tr (FQ.up (G := []) rfl (FQ.tr F1 F2)) (FQ.tr (FQ.up (G := [(67, 0), (67, 1)]) rfl F3) (FQ.up (G := []) rfl F4)), Or.inr ⟨show (1 : Nat) ≠ 0 by decide, q3.fq (G := []) rfl F4⟩⟩
  · have z : T i = w := z
    rw [if_pos z]
    have iL : i < L := by
      rcases Nat.lt_or_ge i L with x | x
      · exact x
      · have := (hT i).mpr x
        omega
    refine py_e4 w hB1 ⟨by omega, trivial⟩ ?_
    intro τ2 y2 hB2 F2 _ _ _ _
    have D2 := D1.fq (G := []) rfl F2
    refine Ok.cv rfl rfl rfl rfl rfl rfl rfl ?_
    refine (x_pav (i := i) hB2 ((hb.fq (G := []) rfl F1).fq (G := []) rfl F2) iL D2.2.1).use (by decide) (fun r τ3 q => ?_)
    obtain ⟨rfl, hB3, F3, a8, a9⟩ := q
    refine py_e6 w hB3 ⟨by omega, trivial⟩ ?_
    intro τ4 y4 hB4 F4 _ _ _ _
    refine ⟨rfl, hB4, FQ.tr (FQ.up (G := []) rfl (FQ.tr F1 F2)) (FQ.tr (FQ.up (G := [(67, 8), (67, 9)]) rfl F3) (FQ.up (G := []) rfl F4)), Or.inl ⟨rfl, ?_⟩⟩
    rw [show c ++ ((0, i + 1, []) : gyR).2.2 = c from List.append_nil c]
    refine ⟨?_, ?_, ?_, ⟨?_, ?_⟩, fun j hj => ?_⟩
    · exact (congrArg Int32.toInt ((F4 67 0 rfl).trans (F3 67 0 rfl))).trans D2.1
    · exact (congrArg Int32.toInt (F4 67 8 rfl)).trans a8
    · exact (congrArg Int32.toInt (F4 67 9 rfl)).trans a9
    · exact (congrArg Int32.toInt ((F4 69 1 rfl).trans (F3 69 1 rfl))).trans D2.2.2.2.1.1
    · exact (congrArg Int32.toInt ((F4 67 1 rfl).trans (F3 67 1 rfl))).trans D2.2.2.2.1.2
    · exact (congrArg Int32.toInt ((F4 70 j rfl).trans (F3 70 j rfl))).trans (D2.2.2.2.2 j hj)
set_option maxRecDepth 20000 in
theorem x_pdv {σ : pm_S} {i : Nat} {c : List Int} (hr : ∀ j, (-27) ≤ T j ∧ T j ≤ 9999) (hB : an_GB pm_B σ) (hb : pc_B T P L σ) (hi : i ≤ L) (hD : pc_D T σ i c) : Sp 36 7 [.ref 67] σ (fun v τ => v = none ∧ an_GB pm_B τ ∧ FQ [(67, 0), (67, 1)] σ τ ∧ ((1 ≤ T i ∧ pc_D T τ i c) ∨ (T i < 0 ∧ pc_F P τ 1 i) ∨ (T i = 0 ∧ pc_F P τ 2 i))) := by
  refine Sp.at rfl rfl ?_
  refine py_d0 (T i) hB ⟨hr i, trivial⟩ ⟨hD.2.2.1, trivial⟩ ?_ ?_ ?_
  · intro τ y hB1 F1 f _ _ _
    have f1 := f.1
    exact ⟨rfl, hB1, FQ.up (G := []) rfl F1, Or.inl ⟨f1.1, hD.fq (G := []) rfl F1⟩⟩
  · intro τ y hB1 F1 f _ _ _
    have f1 := f.1
    have D1 := hD.fq (G := []) rfl F1
    refine Ok.cv rfl rfl rfl rfl rfl rfl rfl ?_
    refine (x_pfa (i := i) 2 hB1 (hb.fq (G := []) rfl F1) hi (by decide) D1.1 D1.2.1).use (by decide) (fun r τ3 q => ?_)
    obtain ⟨rfl, hB3, F3, q3⟩ := q
    refine py_d13 hB3 ?_
    intro τ4 y4 hB4 F4 _ _ _ _
    exact ⟨rfl, hB4, FQ.tr (FQ.up (G := []) rfl F1) (FQ.tr F3 (FQ.up (G := []) rfl F4)), Or.inr (Or.inr ⟨by omega, q3.fq (G := []) rfl F4⟩)⟩
  · intro τ y hB1 F1 f _ _ _
    have f1 := f.1
    have D1 := hD.fq (G := []) rfl F1
    refine Ok.cv rfl rfl rfl rfl rfl rfl rfl ?_
    refine (x_pfa (i := i) 1 hB1 (hb.fq (G := []) rfl F1) hi (by decide) D1.1 D1.2.1).use (by decide) (fun r τ3 q => ?_)
    obtain ⟨rfl, hB3, F3, q3⟩ := q
    refine py_d6 hB3 ?_
    intro τ4 y4 hB4 F4 _ _ _ _
    exact ⟨rfl, hB4, FQ.tr (FQ.up (G := []) rfl F1) (FQ.tr F3 (FQ.up (G := []) rfl F4)), Or.inr (Or.inl ⟨by omega, q3.fq (G := []) rfl F4⟩)⟩
set_option maxRecDepth 20000 in
theorem x_psl (hT : ∀ j, T j = -26 ↔ L ≤ j) (hr : ∀ j, (-27) ≤ T j ∧ T j ≤ 9999) {Q : Option Value → pm_S → Prop} : ∀ (k : Nat) (h : Int) (i n : Nat) (c : List Int) (τ : pm_S) (v3 v4 : Value), i ≤ L → L - i < k → n ≤ i → n ≤ 399 → c.length + ps_n h ≤ i → (h = -27 ∨ h = -17 ∨ h = -18) → v3.category = 1 → v4.category = 1 → an_GB pm_B τ → pc_B T P L τ → pc_D T τ i c → (∀ τ' : pm_S, an_GB pm_B τ' → FQ FTy τ τ' → pc_R T P τ' c (ps_S T k h i) → Q none τ') → Ok 35 9 6 [.ref 67, .int (Int32.ofInt h), .int (Int32.ofInt (n : Int)), v3, v4] [] τ Q := by
  intro k
  induction k with
  | zero => intro h i n c τ v3 v4 _ hk; exact absurd hk (Nat.not_lt_zero _)
  | succ k ih =>
    intro h i n c τ v3 v4 hi hk hn hn2 hc hh k3 k4 hB hb hD hQ
    have hL := hb.1
    have hri := hr i
    have fin : ∀ (τ1 : pm_S), an_GB pm_B τ1 → FQ [] τ τ1 → ¬ ((-20) ≤ T i ∧ T i ≤ -17) → h = -27 → Q none τ1 := fun τ1 hB1 F1 c1 e => by
      refine hQ τ1 hB1 (FQ.up (G := []) rfl F1) ?_
      unfold ps_S
      rw [if_neg c1]
      refine Or.inl ⟨rfl, ?_⟩
      have e0 : ps_h h = [] := if_pos e
      show pc_D T τ1 i (c ++ ps_h h)
      rw [e0, List.append_nil]
      exact hD.fq (G := []) rfl F1
    have fin2 : ∀ (τ1 : pm_S) (u3 u4 : Value), u3.category = 1 → u4.category = 1 → an_GB pm_B τ1 → FQ [] τ τ1 → ¬ ((-20) ≤ T i ∧ T i ≤ -17) → h ≠ -27 → Ok 35 9 71 [.ref 67, .int (Int32.ofInt h), .int (Int32.ofInt (n : Int)), u3, u4] [.int (Int32.ofInt h), .ref 69] τ1 Q := by
      intro τ1 u3 u4 n3 n4 hB1 F1 c1 e
      have n1 : ps_n h = 1 := if_neg e
      have D1 := hD.fq (G := []) rfl F1
      refine Ok.cv rfl rfl rfl rfl rfl rfl rfl ?_
      refine (x_pad h c hB1 (by omega) (by omega) D1.2.2.2.1.1 D1.2.2.2.2).use (by decide) (fun r τ2 q => ?_)
      obtain ⟨rfl, hB2, F2, m2, c2⟩ := q
      refine py_s72 _ _ _ _ rfl rfl n3 n4 hB2 ?_
      intro τ3 y3 hB3 F3 _ _ _ _
      refine hQ τ3 hB3 (FQ.tr (FQ.up (G := []) rfl F1) (FQ.tr (FQ.up (G := [(69, 1), (70, 9999)]) rfl F2) (FQ.up (G := []) rfl F3))) ?_
      unfold ps_S
      rw [if_neg c1]
      refine Or.inl ⟨rfl, ?_⟩
      have e0 : ps_h h = [h] := if_neg e
      show pc_D T τ3 i (c ++ ps_h h)
      rw [e0]
      refine ⟨(congrArg Int32.toInt ((F3 67 0 rfl).trans (F2 67 0 rfl))).trans D1.1, (congrArg Int32.toInt ((F3 67 8 rfl).trans (F2 67 8 rfl))).trans D1.2.1, (congrArg Int32.toInt ((F3 67 9 rfl).trans (F2 67 9 rfl))).trans D1.2.2.1, ⟨(congrArg Int32.toInt (F3 69 1 rfl)).trans m2, (congrArg Int32.toInt ((F3 67 1 rfl).trans (F2 67 1 rfl))).trans D1.2.2.2.1.2⟩, fun j hj => (congrArg Int32.toInt (F3 70 j rfl)).trans (c2 j hj)⟩
    -- behind the sign: c2 is told, h2 waits
    have op : ∀ (τ1 : pm_S) (h2 : Int) (c2 : List Int), an_GB pm_B τ1 → FQ FTy τ τ1 → pc_D T τ1 i c2 → ((-20) ≤ T i ∧ T i ≤ -17) → (h2 = -27 ∨ h2 = -17 ∨ h2 = -18) → c2.length + ps_n h2 ≤ i + 1 → c2.length ≤ i → (¬ (T i = -17 ∨ T i = -18) → c2.length + ps_n h2 ≤ i) → (∀ τ' : pm_S, an_GB pm_B τ' → FQ FTy τ τ' → pc_R T P τ' c2 (if T i = -20 ∧ T (i + 1) < 0 then (1, i + 1, []) else if T i = -20 ∧ T (i + 1) = 0 then (2, i + 1, []) else if (ps_U T (i + 1)).1 = 0 then (if T i = -17 ∨ T i = -18 then ((ps_S T k h2 (i + 2)).1, (ps_S T k h2 (i + 2)).2.1, (ps_U T (i + 1)).2.2 ++ (ps_S T k h2 (i + 2)).2.2) else ((ps_S T k h2 (i + 2)).1, (ps_S T k h2 (i + 2)).2.1, (ps_U T (i + 1)).2.2 ++ (T i :: (ps_S T k h2 (i + 2)).2.2))) else ps_U T (i + 1)) → Q none τ') → Ok 35 9 49 [.ref 67, .int (Int32.ofInt h2), .int (Int32.ofInt (n : Int)), .int (Int32.ofInt (T i)), .int (Int32.ofInt (if T i = -17 ∨ T i = -18 then 1 else 0))] [.ref 67] τ1 Q := by
      intro τ1 h2 c2 hB1 F1 D1 hop hh2 hc2 hc3 hc4 hQ2
      have iL : i < L := by
        rcases Nat.lt_or_ge i L with x | x
        · exact x
        · have := (hT i).mpr x
          omega
      have sb : (if T i = -17 ∨ T i = -18 then (1 : Int) else 0) = 1 ∧ (T i = -17 ∨ T i = -18) ∨ (if T i = -17 ∨ T i = -18 then (1 : Int) else 0) = 0 ∧ ¬ (T i = -17 ∨ T i = -18) := by
        by_cases x : T i = -17 ∨ T i = -18
        · rw [if_pos x]
          exact Or.inl ⟨rfl, x⟩
        · rw [if_neg x]
          exact Or.inr ⟨rfl, x⟩
      generalize hsm : (if T i = -17 ∨ T i = -18 then (1 : Int) else 0) = sm at sb ⊢
      have hsm2 : 0 ≤ sm ∧ sm ≤ 1 := by omega
      refine Ok.cv rfl rfl rfl rfl rfl rfl rfl ?_
      refine (x_pav (i := i) hB1 (hb.fq rfl F1) iL D1.2.1).use (by decide) (fun r τ2 q => ?_)
      obtain ⟨rfl, hB2, F2, a8, a9⟩ := q
      have G2 : FQ FTy τ τ2 := FQ.tr F1 (FQ.up (G := [(67, 8), (67, 9)]) rfl F2)
      have D2 : pc_D T τ2 (i + 1) c2 := ⟨(congrArg Int32.toInt (F2 67 0 rfl)).trans D1.1, a8, a9, ⟨(congrArg Int32.toInt (F2 69 1 rfl)).trans D1.2.2.2.1.1, (congrArg Int32.toInt (F2 67 1 rfl)).trans D1.2.2.2.1.2⟩, fun j hj => (congrArg Int32.toInt (F2 70 j rfl)).trans (D1.2.2.2.2 j hj)⟩
      -- the unit
      have unit : ∀ (τ3 : pm_S), an_GB pm_B τ3 → FQ FTy τ τ3 → pc_D T τ3 (i + 1) c2 → ¬ (T i = -20 ∧ T (i + 1) < 0) → ¬ (T i = -20 ∧ T (i + 1) = 0) → Ok 35 9 56 [.ref 67, .int (Int32.ofInt h2), .int (Int32.ofInt (n : Int)), .int (Int32.ofInt (T i)), .int (Int32.ofInt sm)] [.ref 67] τ3 Q := by
        intro τ3 hB3 G3 D3 q1 q2
        rw [if_neg q1, if_neg q2] at hQ2
        refine Ok.cv rfl rfl rfl rfl rfl rfl rfl ?_
        refine (x_pun (i := i + 1) (c := c2) hT hr hB3 (hb.fq rfl G3) (by omega) (by omega) D3).use (by decide) (fun r τ4 q => ?_)
        obtain ⟨rfl, hB4, F4, q⟩ := q
        have G4 : FQ FTy τ τ4 := FQ.tr G3 F4
        rcases q with ⟨z, D4⟩ | ⟨z, D4⟩
        · rw [if_pos z] at hQ2
          have uu : (ps_U T (i + 1)).2.1 = i + 2 ∧ (ps_U T (i + 1)).2.2 = [T (i + 1)] ∧ i + 1 < L := by
            rcases psU_c (T := T) (i + 1) with ⟨e, q⟩ | ⟨e, q⟩
            · rw [e]
              refine ⟨rfl, rfl, ?_⟩
              rcases Nat.lt_or_ge (i + 1) L with x | x
              · exact x
              · have := (hT (i + 1)).mpr x
                omega
            · rw [e] at z
              cases z
          rw [uu.1, uu.2.1] at D4
          have n0 : ps_n h2 ≤ 1 := by
            unfold ps_n
            split <;> omega
          have lu : (c2 ++ [T (i + 1)]).length = c2.length + 1 := by rw [List.length_append, List.length_singleton]
          refine py_s57 h2 n (T i) sm hB4 ⟨by omega, by omega, by omega, hsm2, trivial⟩ ?_ ?_
          · intro τ5 y5 hB5 F5 f5 _ _ _
            have s1 := f5.2.2.2.1
            have hs : T i = -17 ∨ T i = -18 := by omega
            rw [if_pos hs] at hQ2
            refine ih h2 (i + 2) (n + 1) (c2 ++ [T (i + 1)]) τ5 _ _ (by omega) (by omega) (by omega) (by omega) (by omega) hh2 rfl rfl hB5 (hb.fq rfl (FQ.tr G4 (FQ.up (G := []) rfl F5))) (D4.fq (G := []) rfl F5) (fun τ' hB' F' hR => hQ2 τ' hB' (FQ.tr G4 (FQ.tr (FQ.up (G := []) rfl F5) F')) ?_)
            rw [uu.2.1]
            exact hR.app
          · intro τ5 y5 hB5 F5 f5 _ _ _
            have s1 := f5.2.2.2.1
            have hs : ¬ (T i = -17 ∨ T i = -18) := by omega
            have hc5 := hc4 hs
            rw [if_neg hs] at hQ2
            have D5 := D4.fq (G := []) rfl F5
            refine Ok.cv rfl rfl rfl rfl rfl rfl rfl ?_
            refine (x_pad (T i) (c2 ++ [T (i + 1)]) hB5 hri (by omega) D5.2.2.2.1.1 D5.2.2.2.2).use (by decide) (fun r τ6 q => ?_)
            obtain ⟨rfl, hB6, F6, m6, c6⟩ := q
            have G6 : FQ FTy τ τ6 := FQ.tr G4 (FQ.tr (FQ.up (G := []) rfl F5) (FQ.up (G := [(69, 1), (70, 9999)]) rfl F6))
            have D6 : pc_D T τ6 (i + 2) (c2 ++ [T (i + 1)] ++ [T i]) := ⟨(congrArg Int32.toInt (F6 67 0 rfl)).trans D5.1, (congrArg Int32.toInt (F6 67 8 rfl)).trans D5.2.1, (congrArg Int32.toInt (F6 67 9 rfl)).trans D5.2.2.1, ⟨m6, (congrArg Int32.toInt (F6 67 1 rfl)).trans D5.2.2.2.1.2⟩, c6⟩
            have lu2 : (c2 ++ [T (i + 1)] ++ [T i]).length = c2.length + 2 := by rw [List.length_append, lu, List.length_singleton]
            refine py_s63 h2 n (T i) sm hB6 ⟨by omega, by omega, by omega, hsm2, trivial⟩ ?_
            intro τ7 y7 hB7 F7 _ _ _ _
            refine ih h2 (i + 2) (n + 1) (c2 ++ [T (i + 1)] ++ [T i]) τ7 _ _ (by omega) (by omega) (by omega) (by omega) (by omega) hh2 rfl rfl hB7 (hb.fq rfl (FQ.tr G6 (FQ.up (G := []) rfl F7))) (D6.fq (G := []) rfl F7) (fun τ' hB' F' hR => hQ2 τ' hB' (FQ.tr G6 (FQ.tr (FQ.up (G := []) rfl F7) F')) ?_)
            rw [uu.2.1]
            have hR2 := hR.app.app
            exact hR2
        · rw [if_neg z] at hQ2
          have zk : (ps_U T (i + 1)).1 = 1 := by
            rcases psU_c (T := T) (i + 1) with ⟨e, q⟩ | ⟨e, q⟩
            · rw [e] at z
              exact absurd rfl z
            · rw [e]
          have e0 : sI τ4 67 0 = 1 := by rw [D4.1, zk]; rfl
          refine py_sf57 h2 n (T i) sm 1 hB4 ⟨by omega, by omega, by omega, hsm2, by decide, trivial⟩ ⟨e0, trivial⟩ ?_
          intro τ5 y5 hB5 F5 _ _ _ _
          refine hQ2 τ5 hB5 (FQ.tr G4 (FQ.up (G := [(67, 8), (67, 9), (69, 1), (70, 9999)]) rfl F5)) (Or.inr ⟨z, D4.fq (G := [(67, 8), (67, 9), (69, 1), (70, 9999)]) rfl F5⟩)
      refine py_s50 h2 n (T i) sm hB2 ⟨by omega, by omega, by omega, hsm2, trivial⟩ ?_ ?_
      · intro τ3 y3 hB3 F3 f3 rl _ _
        have f2 := f3.2.2.1
        have r1 : T i ≠ -20 := by first | exact rl.1 | omega
        exact unit τ3 hB3 (FQ.tr G2 (FQ.up (G := []) rfl F3)) (D2.fq (G := []) rfl F3) (fun z => r1 z.1) (fun z => r1 z.1)
      · intro τ3 y3 hB3 F3 f3 _ _ _
        have f2 := f3.2.2.1
        have e20 : T i = -20 := by omega
        have G3 : FQ FTy τ τ3 := FQ.tr G2 (FQ.up (G := []) rfl F3)
        refine Ok.cv rfl rfl rfl rfl rfl rfl rfl ?_
        refine (x_pdv (i := i + 1) (c := c2) hr hB3 (hb.fq rfl G3) (by omega) (D2.fq (G := []) rfl F3)).use (by decide) (fun r τ4 q => ?_)
        obtain ⟨rfl, hB4, F4, q⟩ := q
        have G4 : FQ FTy τ τ4 := FQ.tr G3 (FQ.up (G := [(67, 0), (67, 1)]) rfl F4)
        have bad : ∀ k0 : Nat, (1 ≤ k0 ∧ k0 ≤ 3) → pc_F P τ4 k0 (i + 1) → (∀ τ' : pm_S, an_GB pm_B τ' → FQ FTy τ τ' → pc_R T P τ' c2 (k0, i + 1, []) → Q none τ') → Ok 35 9 55 [.ref 67, .int (Int32.ofInt h2), .int (Int32.ofInt (n : Int)), .int (Int32.ofInt (T i)), .int (Int32.ofInt sm)] [] τ4 Q := by
          intro k0 hk0 q4 hQ3
          refine py_sf55 h2 n (T i) sm k0 hB4 ⟨by omega, by omega, by omega, hsm2, by omega, trivial⟩ ⟨q4.1, trivial⟩ ?_
          intro τ5 y5 hB5 F5 _ _ _ _
          exact hQ3 τ5 hB5 (FQ.tr G4 (FQ.up (G := [(67, 8), (67, 9), (69, 1), (70, 9999)]) rfl F5)) (Or.inr ⟨by show k0 ≠ 0; omega, q4.fq (G := [(67, 8), (67, 9), (69, 1), (70, 9999)]) rfl F5⟩)
        rcases q with ⟨q1, q2⟩ | ⟨q1, q2⟩ | ⟨q1, q2⟩
        · refine py_s55 h2 n (T i) sm hB4 ⟨by omega, by omega, by omega, hsm2, trivial⟩ ?_
          intro τ5 y5 hB5 F5 _ _ _ _
          exact unit τ5 hB5 (FQ.tr G4 (FQ.up (G := []) rfl F5)) (q2.fq (G := []) rfl F5) (fun z => by omega) (fun z => by omega)
        · rw [if_pos ⟨e20, q1⟩] at hQ2
          exact bad 1 (by decide) q2 hQ2
        · rw [if_neg (fun z => by omega), if_pos ⟨e20, q1⟩] at hQ2
          exact bad 2 (by decide) q2 hQ2
    -- what waits is told ahead of a + or -
    have add : ∀ (τ1 : pm_S), an_GB pm_B τ1 → FQ [] τ τ1 → (T i = -17 ∨ T i = -18) → h ≠ -27 → Ok 35 9 41 [.ref 67, .int (Int32.ofInt h), .int (Int32.ofInt (n : Int)), .int (Int32.ofInt (T i)), .int (Int32.ofInt 1)] [.int (Int32.ofInt h), .ref 69] τ1 Q := by
      intro τ1 hB1 F1 c1 e
      have n1 : ps_n h = 1 := if_neg e
      have n2 : ps_n (T i) = 1 := if_neg (by omega)
      have D1 := hD.fq (G := []) rfl F1
      refine Ok.cv rfl rfl rfl rfl rfl rfl rfl ?_
      refine (x_pad h c hB1 (by omega) (by omega) D1.2.2.2.1.1 D1.2.2.2.2).use (by decide) (fun r τ2 q => ?_)
      obtain ⟨rfl, hB2, F2, m2, c2⟩ := q
      have l2 : (c ++ [h]).length = c.length + 1 := by rw [List.length_append, List.length_singleton]
      refine py_s42 h n (T i) hB2 ⟨by omega, by omega, by omega, trivial⟩ ?_
      intro τ3 y3 hB3 F3 _ _ _ _
      have G3 : FQ FTy τ τ3 := FQ.tr (FQ.up (G := []) rfl F1) (FQ.tr (FQ.up (G := [(69, 1), (70, 9999)]) rfl F2) (FQ.up (G := []) rfl F3))
      have D3 : pc_D T τ3 i (c ++ [h]) := ⟨(congrArg Int32.toInt ((F3 67 0 rfl).trans (F2 67 0 rfl))).trans D1.1, (congrArg Int32.toInt ((F3 67 8 rfl).trans (F2 67 8 rfl))).trans D1.2.1, (congrArg Int32.toInt ((F3 67 9 rfl).trans (F2 67 9 rfl))).trans D1.2.2.1, ⟨(congrArg Int32.toInt (F3 69 1 rfl)).trans m2, (congrArg Int32.toInt ((F3 67 1 rfl).trans (F2 67 1 rfl))).trans D1.2.2.2.1.2⟩, fun j hj => (congrArg Int32.toInt (F3 70 j rfl)).trans (c2 j hj)⟩
      have o3 := op τ3 (T i) (c ++ [h]) hB3 G3 D3 (by omega) (by omega) (by omega) (by omega) (fun z => by omega) (fun τ' hB' F' hR => hQ τ' hB' F' ?_)
      · rw [if_pos c1] at o3
        exact o3
      · rw [if_neg (fun z => by omega), if_neg (fun z => by omega), if_pos c1] at hR
        have e0 : ps_h h = [h] := if_neg e
        unfold ps_S
        rw [if_pos (by omega), if_pos c1, e0]
        rcases psU_c (T := T) (i + 1) with ⟨eu, q⟩ | ⟨eu, q⟩
        · rw [eu] at hR ⊢
          rw [if_pos rfl] at hR ⊢
          exact hR.app
        · rw [eu] at hR ⊢
          rw [if_neg (show ¬ (1 : Nat) = 0 by decide)] at hR ⊢
          rcases hR with ⟨z, _⟩ | z
          · cases z
          · exact Or.inr z
    have n27 : ps_n (-27) = 0 := if_pos rfl
    refine py_s6 h n (T i) v3 v4 k3 k4 hB ⟨by omega, by omega, hri, trivial⟩ ⟨hD.1, hD.2.2.1, trivial⟩ ?_ ?_ ?_ ?_ ?_ ?_ ?_ ?_ ?_
    · intro τ1 y hB1 F1 f _ _ _
      have f1 := f.1
      have f3 := f.2.2.1
      exact fin τ1 hB1 F1 (by omega) (by omega)
    · intro τ1 y u3 u4 n3 n4 hB1 F1 f _ _ _
      have f1 := f.1
      have f3 := f.2.2.1
      exact fin2 τ1 u3 u4 n3 n4 hB1 F1 (by omega) (by omega)
    · intro τ1 y hB1 F1 f _ _ _
      have f1 := f.1
      have f3 := f.2.2.1
      exact fin τ1 hB1 F1 (by omega) (by omega)
    · intro τ1 y u3 u4 n3 n4 hB1 F1 f _ _ _
      have f1 := f.1
      have f3 := f.2.2.1
      exact fin2 τ1 u3 u4 n3 n4 hB1 F1 (by omega) (by omega)
    · intro τ1 y hB1 F1 f _ _ _
      have f1 := f.1
      have f3 := f.2.2.1
      have eh : h = -27 := by omega
      have ei : T i = -17 := by omega
      have n1 : ps_n (T i) = 1 := if_neg (by omega)
      have nh : ps_n h = 0 := if_pos eh
      have o3 := op τ1 (T i) c hB1 (FQ.up (G := []) rfl F1) (hD.fq (G := []) rfl F1) (by omega) (by omega) (by omega) (by omega) (fun z => by omega) (fun τ' hB' F' hR => hQ τ' hB' F' ?_)
      · rw [if_pos (Or.inl ei)] at o3
        rw [ei] at o3 ⊢
        exact o3
      · rw [if_neg (fun z => by omega), if_neg (fun z => by omega), if_pos (Or.inl ei)] at hR
        have e0 : ps_h h = [] := if_pos eh
        unfold ps_S
        rw [if_pos (by omega), if_pos (Or.inl ei), e0]
        rcases psU_c (T := T) (i + 1) with ⟨eu, q⟩ | ⟨eu, q⟩
        · rw [eu] at hR ⊢
          rw [if_pos rfl] at hR ⊢
          exact hR
        · rw [eu] at hR ⊢
          rw [if_neg (show ¬ (1 : Nat) = 0 by decide)] at hR ⊢
          exact hR
    · intro τ1 y hB1 F1 f _ _ _
      have f1 := f.1
      have f3 := f.2.2.1
      exact add τ1 hB1 F1 (by omega) (by omega)
    · intro τ1 y hB1 F1 f _ _ _
      have f1 := f.1
      have f3 := f.2.2.1
      have ns : ¬ (T i = -17 ∨ T i = -18) := by omega
      have o3 := op τ1 h c hB1 (FQ.up (G := []) rfl F1) (hD.fq (G := []) rfl F1) (by omega) hh (by omega) (by omega) (fun z => by omega) (fun τ' hB' F' hR => hQ τ' hB' F' ?_)
      · rw [if_neg ns] at o3
        exact o3
      · unfold ps_S
        rw [if_pos (by omega), if_neg ns]
        rw [if_neg ns] at hR
        rcases psU_c (T := T) (i + 1) with ⟨eu, q⟩ | ⟨eu, q⟩
        · rw [eu] at hR ⊢
          exact hR
        · rw [eu] at hR ⊢
          exact hR
    · intro τ1 y hB1 F1 f _ _ _
      have f1 := f.1
      have f3 := f.2.2.1
      have eh : h = -27 := by omega
      have ei : T i = -18 := by omega
      have n1 : ps_n (T i) = 1 := if_neg (by omega)
      have nh : ps_n h = 0 := if_pos eh
      have o3 := op τ1 (T i) c hB1 (FQ.up (G := []) rfl F1) (hD.fq (G := []) rfl F1) (by omega) (by omega) (by omega) (by omega) (fun z => by omega) (fun τ' hB' F' hR => hQ τ' hB' F' ?_)
      · rw [if_pos (Or.inr ei)] at o3
        rw [ei] at o3 ⊢
        exact o3
      · rw [if_neg (fun z => by omega), if_neg (fun z => by omega), if_pos (Or.inr ei)] at hR
        have e0 : ps_h h = [] := if_pos eh
        unfold ps_S
        rw [if_pos (by omega), if_pos (Or.inr ei), e0]
        rcases psU_c (T := T) (i + 1) with ⟨eu, q⟩ | ⟨eu, q⟩
        · rw [eu] at hR ⊢
          rw [if_pos rfl] at hR ⊢
          exact hR
        · rw [eu] at hR ⊢
          rw [if_neg (show ¬ (1 : Nat) = 0 by decide)] at hR ⊢
          exact hR
    · intro τ1 y hB1 F1 f _ _ _
      have f1 := f.1
      have f3 := f.2.2.1
      exact add τ1 hB1 F1 (by omega) (by omega)
set_option maxRecDepth 20000 in
theorem x_psi {σ : pm_S} {i : Nat} {c : List Int} (hT : ∀ j, T j = -26 ↔ L ≤ j) (hr : ∀ j, (-27) ≤ T j ∧ T j ≤ 9999) (hB : an_GB pm_B σ) (hb : pc_B T P L σ) (hi : i ≤ L) (hc : c.length ≤ i) (hD : pc_D T σ i c) : Sp 35 9 [.ref 67] σ (pc_Q T P σ c (ps_E T 500 i)) := by
  have hL := hb.1
  refine Sp.at rfl rfl ?_
  refine py_s0 _ _ _ _ rfl rfl rfl rfl hB ?_
  intro τ0 y0 v2 v3 v4 k2 k3 k4 hB0 F0 _ _ _ _
  refine Ok.cv rfl rfl rfl rfl rfl rfl rfl ?_
  refine (x_pun (i := i) (c := c) hT hr hB0 (hb.fq (G := []) rfl F0) hi hc (hD.fq (G := []) rfl F0)).use (by decide) (fun r τ q => ?_)
  obtain ⟨rfl, hB1, F1, q⟩ := q
  have G1 : FQ FTy σ τ := FQ.tr (FQ.up (G := []) rfl F0) F1
  rcases psU_c (T := T) i with ⟨e, u⟩ | ⟨e, u⟩
  · rw [e] at q
    rcases q with ⟨_, D1⟩ | ⟨z, _⟩
    · have iL : i < L := by
        rcases Nat.lt_or_ge i L with x | x
        · exact x
        · have := (hT i).mpr x
          omega
      refine py_s4 v2 v3 v4 k2 k3 k4 hB1 ?_
      intro τ2 y2 w3 w4 n3 n4 hB2 F2 _ _ _ _
      have l1 : (c ++ [T i]).length = c.length + 1 := by rw [List.length_append, List.length_singleton]
      have n27 : ps_n (-27) = 0 := if_pos rfl
      refine x_psl (T := T) (P := P) (L := L) hT hr 500 (-27) (i + 1) 0 (c ++ [T i]) τ2 w3 w4 (by omega) (by omega) (by omega) (by omega) (by omega) (Or.inl rfl) n3 n4 hB2 (hb.fq rfl (FQ.tr G1 (FQ.up (G := []) rfl F2))) (D1.fq (G := []) rfl F2) (fun τ' hB' F' hR => ⟨rfl, hB', FQ.tr G1 (FQ.tr (FQ.up (G := []) rfl F2) F'), ?_⟩)
      unfold ps_E
      rw [e, if_pos rfl]
      exact hR.app
    · exact absurd rfl z
  · rw [e] at q
    rcases q with ⟨z, _⟩ | ⟨z, D1⟩
    · cases z
    · refine py_sf4 1 (-27) v2 v3 v4 k2 k3 k4 hB1 ⟨by decide, by decide, trivial⟩ ⟨D1.1, trivial⟩ ?_
      intro τ2 y2 hB2 F2 _ _ _ _
      refine ⟨rfl, hB2, FQ.tr G1 (FQ.up (G := [(67, 8), (67, 9), (69, 1), (70, 9999)]) rfl F2), ?_⟩
      unfold ps_E
      rw [e, if_neg (show ¬ (1 : Nat) = 0 by decide)]
      exact Or.inr ⟨show (1 : Nat) ≠ 0 by decide, D1.fq (G := [(67, 8), (67, 9), (69, 1), (70, 9999)]) rfl F2⟩
end PCL
