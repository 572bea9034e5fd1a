/-! the class's parser against the grammar: lines -/
abbrev FTl : List (Nat × Nat) := [(67, 0), (67, 1), (67, 8), (67, 9), (69, 0), (69, 1), (70, 9999)]
/-- the m-th line, that begins at i -/
def ps_1 (T : Nat → Int) (m i : Nat) : gyR := if T i = -1 ∨ T i = -2 then (if 16 ≤ m then (3, i, []) else ps_L T i) else (1, i, [])
section PSL1
variable {T : Nat → Int} {L : Nat}
theorem psA_ok (hT : ∀ j, T j = -26 ↔ L ≤ j) (hL : L ≤ 400) {i : Nat} (hi : i ≤ L) : (ps_A T i).1 ≤ 3 ∧ (ps_A T i).2.1 ≤ L ∧ ((ps_A T i).1 = 0 → i < (ps_A T i).2.1 ∧ i + (ps_A T i).2.2.length ≤ (ps_A T i).2.1) :=
  psK_ok (f := 1500) (o := 0) hT (show L < 500 by omega) hi (by omega)
theorem psL_1 {i : Nat} (e : T (i + 1) = -3) (z : (ps_A T (i + 2)).1 = 0) (q : T (ps_A T (i + 2)).2.1 = -16) : ps_L T i = (0, (ps_A T (i + 2)).2.1 + 1, (ps_A T (i + 2)).2.2 ++ [T i]) := by
  unfold ps_L ps_B
  rw [if_pos e, if_pos z, if_pos q]
theorem psL_2 {i : Nat} (e : T (i + 1) = -3) (z : (ps_A T (i + 2)).1 = 0) (q : ¬ T (ps_A T (i + 2)).2.1 = -16) : ps_L T i = (1, (ps_A T (i + 2)).2.1, []) := by
  unfold ps_L ps_B
  rw [if_pos e, if_pos z, if_neg q]
theorem psL_3 {i : Nat} (e : T (i + 1) = -3) (z : ¬ (ps_A T (i + 2)).1 = 0) : ps_L T i = ps_A T (i + 2) := by
  unfold ps_L ps_B
  rw [if_pos e, if_neg z]
theorem psL_4 {i : Nat} (e : ¬ T (i + 1) = -3) (q : T (i + 1) = -16) : ps_L T i = (0, i + 2, [1, T i]) := by
  unfold ps_L ps_B
  rw [if_neg e]
  dsimp only
  rw [if_pos rfl, if_pos q]
  rfl
theorem psL_5 {i : Nat} (e : ¬ T (i + 1) = -3) (q : ¬ T (i + 1) = -16) : ps_L T i = (1, i + 1, []) := by
  unfold ps_L ps_B
  rw [if_neg e]
  dsimp only
  rw [if_pos rfl, if_neg q]
theorem psL_ok (hT : ∀ j, T j = -26 ↔ L ≤ j) (hL : L ≤ 400) {i : Nat} (hi : i < L) : (ps_L T i).1 ≤ 3 ∧ (ps_L T i).2.1 ≤ L ∧ ((ps_L T i).1 = 0 → i < (ps_L T i).2.1 ∧ i + (ps_L T i).2.2.length ≤ (ps_L T i).2.1) := by
  have lt : ∀ j (v : Int), T j = v → v ≠ -26 → j < L := fun j v e ne => by
    rcases Nat.lt_or_ge j L with x | x
    · exact x
    · have := (hT j).mpr x
      omega
  by_cases e : T (i + 1) = -3
  · have i1 := lt _ _ e (by decide)
    have a := psA_ok hT hL (show i + 2 ≤ L by omega)
    by_cases z : (ps_A T (i + 2)).1 = 0
    · have a2 := a.2.2 z
      by_cases q : T (ps_A T (i + 2)).2.1 = -16
      · have j1 := lt _ _ q (by decide)
        rw [psL_1 e z q]
        refine ⟨by show 0 ≤ 3; decide, by show (ps_A T (i + 2)).2.1 + 1 ≤ L; omega, fun _ => ?_⟩
        show i < (ps_A T (i + 2)).2.1 + 1 ∧ i + ((ps_A T (i + 2)).2.2 ++ [T i]).length ≤ (ps_A T (i + 2)).2.1 + 1
        rw [List.length_append, List.length_singleton]
        omega
      · rw [psL_2 e z q]
        exact ⟨by show 1 ≤ 3; decide, a.2.1, fun z2 => absurd (show (1 : Nat) = 0 from z2) (by decide)⟩
    · rw [psL_3 e z]
      exact ⟨a.1, a.2.1, fun z2 => absurd z2 z⟩
  · by_cases q : T (i + 1) = -16
    · have i1 := lt _ _ q (by decide)
      rw [psL_4 e q]
      refine ⟨by show 0 ≤ 3; decide, by show i + 2 ≤ L; omega, fun _ => ?_⟩
      show i < i + 2 ∧ i + 2 ≤ i + 2
      omega
    · rw [psL_5 e q]
      exact ⟨by show 1 ≤ 3; decide, by show i + 1 ≤ L; omega, fun z2 => absurd (show (1 : Nat) = 0 from z2) (by decide)⟩
theorem ps1_ok (hT : ∀ j, T j = -26 ↔ L ≤ j) (hL : L ≤ 400) {m i : Nat} (hi : i < L) : (ps_1 T m i).1 ≤ 3 ∧ (ps_1 T m i).2.1 ≤ L ∧ ((ps_1 T m i).1 = 0 → i < (ps_1 T m i).2.1 ∧ i + (ps_1 T m i).2.2.length ≤ (ps_1 T m i).2.1 ∧ m < 16 ∧ (T i = -1 ∨ T i = -2)) := by
  unfold ps_1
  split
  · rename_i c
    split
    · exact ⟨by show 3 ≤ 3; decide, by show i ≤ L; omega, fun z => absurd (show (3 : Nat) = 0 from z) (by decide)⟩
    · rename_i d
      have a := psL_ok hT hL hi
      exact ⟨a.1, a.2.1, fun z => ⟨(a.2.2 z).1, (a.2.2 z).2, by omega, c⟩⟩
  · exact ⟨by show 1 ≤ 3; decide, by show i ≤ L; omega, fun z => absurd (show (1 : Nat) = 0 from z) (by decide)⟩
end PSL1
section PCL1
variable {T : Nat → Int} {P : Nat → Nat} {L : Nat}
/-- a line's word -/
theorem x_pav2 {σ : pm_S} {i m : Nat} {c : List Int} (z : Int) (hB : an_GB pm_B σ) (hz : (-2) ≤ z ∧ z ≤ -1) (hm : c.length ≤ 399) (hD : pc_D T σ i c) (em : sI σ 69 0 = (m : Int)) (hm2 : m ≤ 15) : Sp 15 7 [.ref 69, .int (Int32.ofInt z)] σ (fun v τ => v = none ∧ an_GB pm_B τ ∧ FQ FTl σ τ ∧ pc_D T τ i (c ++ [z]) ∧ sI τ 69 0 = (m : Int) + 1) := by
  refine Sp.at rfl rfl ?_
  refine py_v0 z hB ⟨hz, trivial⟩ ?_
  intro τ1 y1 hB1 F1 _ _ _ _
  refine Ok.cv rfl rfl rfl rfl rfl rfl rfl ?_
  refine (x_add (i := i) (c := c) z hB1 (by omega) hm (hD.fq (G := []) rfl F1)).use (by decide) (fun r τ2 q => ?_)
  obtain ⟨rfl, hB2, F2, D2⟩ := q
  refine py_v3 z m hB2 ⟨hz, by omega, trivial⟩ ⟨(congrArg Int32.toInt ((F2 69 0 rfl).trans (F1 69 0 rfl))).trans em, trivial⟩ ?_
  intro τ3 y3 hB3 F3 _ _ _ c3
  exact ⟨rfl, hB3, FQ.tr (FQ.up (G := []) rfl F1) (FQ.tr (FQ.up (G := FTy) rfl F2) (FQ.up (G := [(69, 0)]) rfl F3)), D2.fq (G := [(69, 0)]) rfl F3, c3.1⟩
/-- the line's answer -/
abbrev pcL1 (T : Nat → Int) (P : Nat → Nat) (m : Nat) (τ : pm_S) (c : List Int) (r : gyR) : Prop := (r.1 = 0 ∧ pc_D T τ r.2.1 (c ++ r.2.2) ∧ sI τ 69 0 = (m : Int) + 1) ∨ (r.1 ≠ 0 ∧ pc_F P τ r.1 r.2.1)
set_option maxRecDepth 20000 in
theorem x_pln {σ : pm_S} {m i : Nat} {c : List Int} (hT : ∀ j, T j = -26 ↔ L ≤ j) (hr : ∀ j, (-27) ≤ T j ∧ T j ≤ 9999) (hi : i < L) (hc : c.length ≤ i) (hm : m ≤ 16) (hB : an_GB pm_B σ) (hb : pc_B T P L σ) (hD : pc_D T σ i c) (em : sI σ 69 0 = (m : Int)) : Sp 31 126 [.ref 67] σ (fun v τ => v = none ∧ an_GB pm_B τ ∧ FQ FTl σ τ ∧ pcL1 T P m τ c (ps_1 T m i)) := by
  have hL := hb.1
  have hri := hr i
  have hri1 := hr (i + 1)
  refine Sp.at rfl rfl ?_
  -- with the code c2 behind, the sign at j
  have tail : ∀ (τ1 : pm_S) (j : Nat) (c2 : List Int), an_GB pm_B τ1 → FQ FTy σ τ1 → pc_D T τ1 j (c ++ c2) → j ≤ L → c.length + c2.length ≤ j → m ≤ 15 → (T i = -1 ∨ T i = -2) → (∀ τ' : pm_S, an_GB pm_B τ' → FQ FTl σ τ' → (T j = -16 → pc_D T τ' (j + 1) (c ++ (c2 ++ [T i])) ∧ sI τ' 69 0 = (m : Int) + 1) → (¬ T j = -16 → pc_F P τ' 1 j) → pcL1 T P m τ' c (ps_1 T m i)) → Ok 31 126 40 [.ref 67, .int (Int32.ofInt (T i))] [.int (Int32.ofInt (-16)), .ref 67] τ1 (fun v τ => v = none ∧ an_GB pm_B τ ∧ FQ FTl σ τ ∧ pcL1 T P m τ c (ps_1 T m i)) := by
    intro τ1 j c2 hB1 G1 D1 hj hc2 hm2 hv hQ
    have l1 : (c ++ c2).length = c.length + c2.length := List.length_append
    refine Ok.cv rfl rfl rfl rfl rfl rfl rfl ?_
    refine (x_pex (i := j) (c := c ++ c2) (-16) hT hr hB1 (hb.fq rfl G1) hj (by decide) D1).use (by decide) (fun r τ2 q => ?_)
    obtain ⟨rfl, hB2, F2, q⟩ := q
    have G2 : FQ FTl σ τ2 := FQ.up (G := FTy) rfl (FQ.tr G1 F2)
    by_cases e : T j = -16
    · have jL : j < L := pl_lt hT (by omega)
      rw [if_pos e] at q
      rcases q with ⟨_, D2⟩ | ⟨z, _⟩
      · have D2 : pc_D T τ2 (j + 1) (c ++ c2 ++ []) := D2
        rw [List.append_nil] at D2
        refine py_l41 (T i) hB2 ⟨by omega, trivial⟩ ?_
        intro τ3 y3 hB3 F3 _ _ _ _
        refine Ok.cv rfl rfl rfl rfl rfl rfl rfl ?_
        refine (x_pav2 (i := j + 1) (m := m) (c := c ++ c2) (T i) hB3 (by omega) (by omega) (D2.fq (G := []) rfl F3) ((congrArg Int32.toInt ((F3 69 0 rfl).trans ((F2 69 0 rfl).trans (G1 69 0 rfl)))).trans em) hm2).use (by decide) (fun r τ4 q => ?_)
        obtain ⟨rfl, hB4, F4, D4, m4⟩ := q
        refine py_l45 (T i) hB4 ⟨by omega, trivial⟩ ?_
        intro τ5 y5 hB5 F5 _ _ _ _
        have G5 : FQ FTl σ τ5 := FQ.tr G2 (FQ.tr (FQ.up (G := []) rfl F3) (FQ.tr F4 (FQ.up (G := []) rfl F5)))
        refine ⟨rfl, hB5, G5, hQ τ5 hB5 G5 (fun _ => ⟨?_, (congrArg Int32.toInt (F5 69 0 rfl)).trans m4⟩) (fun z => absurd e z)⟩
        have D5 := D4.fq (G := []) rfl F5
        rw [List.append_assoc] at D5
        exact D5
      · exact absurd rfl z
    · rw [if_neg e] at q
      rcases q with ⟨z, _⟩ | ⟨_, D2⟩
      · cases z
      · refine py_lf41 (T i) 1 m hB2 ⟨by omega, by decide, by omega, trivial⟩ ⟨D2.1, (congrArg Int32.toInt ((F2 69 0 rfl).trans (G1 69 0 rfl))).trans em, trivial⟩ ?_
        intro τ3 y3 hB3 F3 _ _ _ _
        have G3 : FQ FTl σ τ3 := FQ.tr G2 (FQ.up (G := [(67, 8), (67, 9), (69, 1), (70, 9999), (69, 0)]) rfl F3)
        exact ⟨rfl, hB3, G3, hQ τ3 hB3 G3 (fun z => absurd z e) (fun _ => D2.fq (G := [(67, 8), (67, 9), (69, 1), (70, 9999), (69, 0)]) rfl F3)⟩
  have body : ∀ (τ1 : pm_S), an_GB pm_B τ1 → FQ [] σ τ1 → (T i = -1 ∨ T i = -2) → m ≤ 15 → Ok 31 126 23 [.ref 67, .int (Int32.ofInt (T i))] [.ref 67] τ1 (fun v τ => v = none ∧ an_GB pm_B τ ∧ FQ FTl σ τ ∧ pcL1 T P m τ c (ps_1 T m i)) := by
    intro τ1 hB1 F1 hv hm2
    have e1 : ps_1 T m i = ps_L T i := by
      unfold ps_1
      rw [if_pos hv, if_neg (by omega)]
    refine Ok.cv rfl rfl rfl rfl rfl rfl rfl ?_
    refine (x_adv (i := i) (c := c) hB1 (hb.fq (G := []) rfl F1) hi (hD.fq (G := []) rfl F1)).use (by decide) (fun r τ2 q => ?_)
    obtain ⟨rfl, hB2, F2, D2⟩ := q
    have G2 : FQ FTy σ τ2 := FQ.tr (FQ.up (G := []) rfl F1) F2
    refine py_l24 (T i) (T (i + 1)) hB2 ⟨by omega, hri1, trivial⟩ ⟨D2.2.2.1, trivial⟩ ?_ ?_
    · intro τ3 y3 hB3 F3 g rl _ _
      have e3 : ¬ T (i + 1) = -3 := rl.1
      have G3 : FQ FTy σ τ3 := FQ.tr G2 (FQ.up (G := []) rfl F3)
      refine Ok.cv rfl rfl rfl rfl rfl rfl rfl ?_
      refine (x_add (i := i + 1) (c := c) 1 hB3 (by decide) (by omega) (D2.fq (G := []) rfl F3)).use (by decide) (fun r τ4 q => ?_)
      obtain ⟨rfl, hB4, F4, D4⟩ := q
      refine py_l38 (T i) hB4 ⟨by omega, trivial⟩ ?_
      intro τ5 y5 hB5 F5 _ _ _ _
      refine tail τ5 (i + 1) [1] hB5 (FQ.tr G3 (FQ.tr F4 (FQ.up (G := []) rfl F5))) (D4.fq (G := []) rfl F5) (by omega) (by rw [List.length_singleton]; omega) hm2 hv (fun τ' hB' F' a b => ?_)
      rw [e1]
      by_cases q : T (i + 1) = -16
      · rw [psL_4 e3 q]
        exact Or.inl ⟨rfl, a q⟩
      · rw [psL_5 e3 q]
        exact Or.inr ⟨show (1 : Nat) ≠ 0 by decide, b q⟩
    · intro τ3 y3 hB3 F3 g _ _ _
      have g2 := g.2.1
      have e3 : T (i + 1) = -3 := by omega
      have i1 : i + 1 < L := pl_lt hT (by omega)
      have G3 : FQ FTy σ τ3 := FQ.tr G2 (FQ.up (G := []) rfl F3)
      refine Ok.cv rfl rfl rfl rfl rfl rfl rfl ?_
      refine (x_adv (i := i + 1) (c := c) hB3 (hb.fq rfl G3) i1 (D2.fq (G := []) rfl F3)).use (by decide) (fun r τ4 q => ?_)
      obtain ⟨rfl, hB4, F4, D4⟩ := q
      refine py_l30 (T i) hB4 ⟨by omega, trivial⟩ ?_
      intro τ5 y5 hB5 F5 _ _ _ _
      have G5 : FQ FTy σ τ5 := FQ.tr G3 (FQ.tr F4 (FQ.up (G := []) rfl F5))
      refine Ok.cv rfl rfl rfl rfl rfl rfl rfl ?_
      refine (x_pan0 (i := i + 2) (c := c) hT hr (by omega) (by omega) hB5 (hb.fq rfl G5) (D4.fq (G := []) rfl F5)).use (by decide) (fun r τ6 q => ?_)
      obtain ⟨rfl, hB6, F6, q⟩ := q
      have G6 : FQ FTy σ τ6 := FQ.tr G5 F6
      have ok := psA_ok hT hL (show i + 2 ≤ L by omega)
      rcases q with ⟨z, D6⟩ | ⟨z, D6⟩
      · have ok2 := ok.2.2 z
        refine py_l33 (T i) hB6 ⟨by omega, trivial⟩ ?_
        intro τ7 y7 hB7 F7 _ _ _ _
        refine tail τ7 (ps_A T (i + 2)).2.1 (ps_A T (i + 2)).2.2 hB7 (FQ.tr G6 (FQ.up (G := []) rfl F7)) (D6.fq (G := []) rfl F7) ok.2.1 (by omega) hm2 hv (fun τ' hB' F' a b => ?_)
        rw [e1]
        by_cases q : T (ps_A T (i + 2)).2.1 = -16
        · rw [psL_1 e3 z q]
          exact Or.inl ⟨rfl, a q⟩
        · rw [psL_2 e3 z q]
          exact Or.inr ⟨show (1 : Nat) ≠ 0 by decide, b q⟩
      · refine py_lf33 (T i) (ps_A T (i + 2)).1 m hB6 ⟨by omega, by omega, by omega, trivial⟩ ⟨D6.1, (congrArg Int32.toInt (G6 69 0 rfl)).trans em, trivial⟩ ?_
        intro τ7 y7 hB7 F7 _ _ _ _
        rw [e1, psL_3 e3 z]
        exact ⟨rfl, hB7, FQ.tr (FQ.up (G := FTy) rfl G6) (FQ.up (G := [(67, 8), (67, 9), (69, 1), (70, 9999), (69, 0)]) rfl F7), Or.inr ⟨z, D6.fq (G := [(67, 8), (67, 9), (69, 1), (70, 9999), (69, 0)]) rfl F7⟩⟩
  have full : ∀ (τ1 : pm_S), an_GB pm_B τ1 → FQ [] σ τ1 → (T i = -1 ∨ T i = -2) → 16 ≤ m → Ok 31 126 20 [.ref 67, .int (Int32.ofInt (T i))] [.int (Int32.ofInt 3), .ref 67] τ1 (fun v τ => v = none ∧ an_GB pm_B τ ∧ FQ FTl σ τ ∧ pcL1 T P m τ c (ps_1 T m i)) := by
    intro τ1 hB1 F1 hv hm2
    have e1 : ps_1 T m i = (3, i, []) := by
      unfold ps_1
      rw [if_pos hv, if_pos hm2]
    refine Ok.cv rfl rfl rfl rfl rfl rfl rfl ?_
    refine (x_fal (i := i) (c := c) 3 hB1 (hb.fq (G := []) rfl F1) (by omega) (by decide) (hD.fq (G := []) rfl F1)).use (by decide) (fun r τ2 q => ?_)
    obtain ⟨rfl, hB2, F2, q2⟩ := q
    refine py_l21 _ rfl hB2 ?_
    intro τ3 y3 hB3 F3 _ _ _ _
    rw [e1]
    exact ⟨rfl, hB3, FQ.tr (FQ.up (G := []) rfl F1) (FQ.tr (FQ.up (G := FTy) rfl F2) (FQ.up (G := []) rfl F3)), Or.inr ⟨show (3 : Nat) ≠ 0 by decide, q2.fq (G := []) rfl F3⟩⟩
  refine py_l0 (T i) m _ rfl hB ⟨hri, by omega, trivial⟩ ⟨hD.2.2.1, em, trivial⟩ ?_ ?_ ?_ ?_ ?_
  · intro τ1 y1 hB1 F1 g _ _ _
    have g1 := g.1
    have g2 := g.2.1
    exact body τ1 hB1 F1 (Or.inl (by omega)) (by omega)
  · intro τ1 y1 hB1 F1 g _ _ _
    have g1 := g.1
    have g2 := g.2.1
    exact full τ1 hB1 F1 (Or.inl (by omega)) (by omega)
  · intro τ1 y1 hB1 F1 g _ _ _
    have g1 := g.1
    have g2 := g.2.1
    exact body τ1 hB1 F1 (Or.inr (by omega)) (by omega)
  · intro τ1 y1 hB1 F1 g _ _ _
    have g1 := g.1
    have g2 := g.2.1
    exact full τ1 hB1 F1 (Or.inr (by omega)) (by omega)
  · intro τ1 y1 hB1 F1 g rl _ _
    have r1 := rl.1
    have r2 := rl.2.1
    have e1 : ps_1 T m i = (1, i, []) := by
      unfold ps_1
      rw [if_neg (by omega)]
    refine Ok.cv rfl rfl rfl rfl rfl rfl rfl ?_
    refine (x_fal (i := i) (c := c) 1 hB1 (hb.fq (G := []) rfl F1) (by omega) (by decide) (hD.fq (G := []) rfl F1)).use (by decide) (fun r τ2 q => ?_)
    obtain ⟨rfl, hB2, F2, q2⟩ := q
    refine py_l12 _ rfl hB2 ?_
    intro τ3 y3 hB3 F3 _ _ _ _
    rw [e1]
    exact ⟨rfl, hB3, FQ.tr (FQ.up (G := []) rfl F1) (FQ.tr (FQ.up (G := FTy) rfl F2) (FQ.up (G := []) rfl F3)), Or.inr ⟨show (1 : Nat) ≠ 0 by decide, q2.fq (G := []) rfl F3⟩⟩
end PCL1
