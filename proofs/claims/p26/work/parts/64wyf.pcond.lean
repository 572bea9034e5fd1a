/-! the class's parser against the grammar: conditions -/
abbrev FXy : List (Nat × Nat) := [(67, 8), (67, 9), (69, 1), (70, 9999)]
/-- a condition and what follows it -/
def ps_K (T : Nat → Int) (k f o i : Nat) : gyR := if (ps_G T k f 0 o 0 i).1 = 0 then ((ps_G T k f 1 o 0 (ps_G T k f 0 o 0 i).2.1).1, (ps_G T k f 1 o 0 (ps_G T k f 0 o 0 i).2.1).2.1, (ps_G T k f 0 o 0 i).2.2 ++ (ps_G T k f 1 o 0 (ps_G T k f 0 o 0 i).2.1).2.2) else ps_G T k f 0 o 0 i
section PSK
variable {T : Nat → Int} {k f o w i : Nat}
theorem psK_0 (z : (ps_G T k f 0 o 0 i).1 = 0) : ps_K T k f o i = ((ps_G T k f 1 o 0 (ps_G T k f 0 o 0 i).2.1).1, (ps_G T k f 1 o 0 (ps_G T k f 0 o 0 i).2.1).2.1, (ps_G T k f 0 o 0 i).2.2 ++ (ps_G T k f 1 o 0 (ps_G T k f 0 o 0 i).2.1).2.2) := if_pos z
theorem psK_1 (z : ¬ (ps_G T k f 0 o 0 i).1 = 0) : ps_K T k f o i = ps_G T k f 0 o 0 i := if_neg z
theorem psG_n8 (c : T i = -6) (d : 8 ≤ o) : ps_G T k (f + 1) 0 o w i = (3, i, []) := by
  rw [ps_G, if_pos c, if_pos d]
theorem psG_n1 (c : T i = -6) (d : ¬ 8 ≤ o) (z : (ps_G T k f 0 (o + 1) 0 (i + 1)).1 = 0) : ps_G T k (f + 1) 0 o w i = (0, (ps_G T k f 0 (o + 1) 0 (i + 1)).2.1, (ps_G T k f 0 (o + 1) 0 (i + 1)).2.2 ++ [-6]) := by
  rw [ps_G, if_pos c, if_neg d, if_pos z]
theorem psG_n2 (c : T i = -6) (d : ¬ 8 ≤ o) (z : ¬ (ps_G T k f 0 (o + 1) 0 (i + 1)).1 = 0) : ps_G T k (f + 1) 0 o w i = ps_G T k f 0 (o + 1) 0 (i + 1) := by
  rw [ps_G, if_pos c, if_neg d, if_neg z]
theorem psG_b8 (c : T i = -21) (d : 8 ≤ o) : ps_G T k (f + 1) 0 o w i = (3, i, []) := by
  rw [ps_G, if_neg (show ¬ T i = -6 by omega), if_pos c, if_pos d]
theorem psG_b1 (c : T i = -21) (d : ¬ 8 ≤ o) (zk : (ps_K T k f (o + 1) (i + 1)).1 = 0) (q : T (ps_K T k f (o + 1) (i + 1)).2.1 = -22) : ps_G T k (f + 1) 0 o w i = (0, (ps_K T k f (o + 1) (i + 1)).2.1 + 1, (ps_K T k f (o + 1) (i + 1)).2.2) := by
  by_cases z : (ps_G T k f 0 (o + 1) 0 (i + 1)).1 = 0
  · rw [psK_0 z] at zk q ⊢
    dsimp only at zk q ⊢
    rw [ps_G, if_neg (show ¬ T i = -6 by omega), if_pos c, if_neg d, if_pos z, if_pos zk, if_pos q]
  · rw [psK_1 z] at zk
    exact absurd zk z
theorem psG_b2 (c : T i = -21) (d : ¬ 8 ≤ o) (zk : (ps_K T k f (o + 1) (i + 1)).1 = 0) (q : ¬ T (ps_K T k f (o + 1) (i + 1)).2.1 = -22) : ps_G T k (f + 1) 0 o w i = (1, (ps_K T k f (o + 1) (i + 1)).2.1, []) := by
  by_cases z : (ps_G T k f 0 (o + 1) 0 (i + 1)).1 = 0
  · rw [psK_0 z] at zk q ⊢
    dsimp only at zk q ⊢
    rw [ps_G, if_neg (show ¬ T i = -6 by omega), if_pos c, if_neg d, if_pos z, if_pos zk, if_neg q]
  · rw [psK_1 z] at zk
    exact absurd zk z
theorem psG_b3 (c : T i = -21) (d : ¬ 8 ≤ o) (zk : ¬ (ps_K T k f (o + 1) (i + 1)).1 = 0) : (ps_G T k (f + 1) 0 o w i).1 = (ps_K T k f (o + 1) (i + 1)).1 ∧ (ps_G T k (f + 1) 0 o w i).2.1 = (ps_K T k f (o + 1) (i + 1)).2.1 := by
  by_cases z : (ps_G T k f 0 (o + 1) 0 (i + 1)).1 = 0
  · rw [psK_0 z] at zk ⊢
    dsimp only at zk ⊢
    rw [ps_G, if_neg (show ¬ T i = -6 by omega), if_pos c, if_neg d, if_pos z, if_neg zk]
    exact ⟨rfl, rfl⟩
  · rw [psK_1 z, ps_G, if_neg (show ¬ T i = -6 by omega), if_pos c, if_neg d, if_neg z]
    exact ⟨rfl, rfl⟩
theorem psG_m (c : ¬ T i = -6) (d : ¬ T i = -21) : ps_G T k (f + 1) 0 o w i = ps_M T k i := by
  rw [ps_G, if_neg c, if_neg d]
theorem psG_or (c : T i = -4) (z : (ps_G T k f 0 o 0 (i + 1)).1 = 0) : ps_G T k (f + 1) 1 o w i = ((ps_G T k f 1 o 1 (ps_G T k f 0 o 0 (i + 1)).2.1).1, (ps_G T k f 1 o 1 (ps_G T k f 0 o 0 (i + 1)).2.1).2.1, (if w = 1 then [-4] else []) ++ ((ps_G T k f 0 o 0 (i + 1)).2.2 ++ (ps_G T k f 1 o 1 (ps_G T k f 0 o 0 (i + 1)).2.1).2.2)) := by
  rw [ps_G, if_pos c, if_pos z]
theorem psG_or2 (c : T i = -4) (z : ¬ (ps_G T k f 0 o 0 (i + 1)).1 = 0) : ps_G T k (f + 1) 1 o w i = ps_G T k f 0 o 0 (i + 1) := by
  rw [ps_G, if_pos c, if_neg z]
theorem psG_an (c : T i = -5) (z : (ps_G T k f 0 o 0 (i + 1)).1 = 0) : ps_G T k (f + 1) 1 o w i = ((ps_G T k f 1 o w (ps_G T k f 0 o 0 (i + 1)).2.1).1, (ps_G T k f 1 o w (ps_G T k f 0 o 0 (i + 1)).2.1).2.1, (ps_G T k f 0 o 0 (i + 1)).2.2 ++ (-5 :: (ps_G T k f 1 o w (ps_G T k f 0 o 0 (i + 1)).2.1).2.2)) := by
  rw [ps_G, if_neg (show ¬ T i = -4 by omega), if_pos c, if_pos z]
theorem psG_an2 (c : T i = -5) (z : ¬ (ps_G T k f 0 o 0 (i + 1)).1 = 0) : ps_G T k (f + 1) 1 o w i = ps_G T k f 0 o 0 (i + 1) := by
  rw [ps_G, if_neg (show ¬ T i = -4 by omega), if_pos c, if_neg z]
theorem psG_e (c : ¬ T i = -4) (d : ¬ T i = -5) : ps_G T k (f + 1) 1 o w i = (0, i, if w = 1 then [-4] else []) := by
  rw [ps_G, if_neg c, if_neg d]
theorem psM_1 (z : (ps_E T k i).1 = 0) (c : (-25) ≤ T (ps_E T k i).2.1 ∧ T (ps_E T k i).2.1 ≤ -23) (z2 : (ps_E T k ((ps_E T k i).2.1 + 1)).1 = 0) : ps_M T k i = (0, (ps_E T k ((ps_E T k i).2.1 + 1)).2.1, (ps_E T k i).2.2 ++ ((ps_E T k ((ps_E T k i).2.1 + 1)).2.2 ++ [T (ps_E T k i).2.1])) := by
  unfold ps_M
  rw [if_pos z, if_pos c, if_pos z2]
theorem psM_2 (z : (ps_E T k i).1 = 0) (c : (-25) ≤ T (ps_E T k i).2.1 ∧ T (ps_E T k i).2.1 ≤ -23) (z2 : ¬ (ps_E T k ((ps_E T k i).2.1 + 1)).1 = 0) : ps_M T k i = ((ps_E T k ((ps_E T k i).2.1 + 1)).1, (ps_E T k ((ps_E T k i).2.1 + 1)).2.1, []) := by
  unfold ps_M
  rw [if_pos z, if_pos c, if_neg z2]
theorem psM_3 (z : (ps_E T k i).1 = 0) (c : ¬ ((-25) ≤ T (ps_E T k i).2.1 ∧ T (ps_E T k i).2.1 ≤ -23)) : ps_M T k i = (1, (ps_E T k i).2.1, []) := by
  unfold ps_M
  rw [if_pos z, if_neg c]
theorem psM_4 (z : ¬ (ps_E T k i).1 = 0) : ps_M T k i = ps_E T k i := by
  unfold ps_M
  rw [if_neg z]
theorem psK_ok {L : Nat} (hT : ∀ j, T j = -26 ↔ L ≤ j) (hk : L < k) (hi : i ≤ L) (hf : 2 * (L - i) + 2 < f) : (ps_K T k f o i).1 ≤ 3 ∧ (ps_K T k f o i).2.1 ≤ L ∧ ((ps_K T k f o i).1 = 0 → i < (ps_K T k f o i).2.1 ∧ i + (ps_K T k f o i).2.2.length ≤ (ps_K T k f o i).2.1) := by
  have a := (psG_ok hT hk f o 0 i hi).1 hf
  by_cases z : (ps_G T k f 0 o 0 i).1 = 0
  · have a2 := a.2.2 z
    have b := (psG_ok hT hk f o 0 (ps_G T k f 0 o 0 i).2.1 a.2.1).2 (by omega)
    rw [psK_0 z]
    refine ⟨b.1, b.2.1, fun z2 => ?_⟩
    have b2 := b.2.2 z2
    have b3 := b2.2.1
    rw [if_neg (show ¬ (0 : Nat) = 1 by decide)] at b3
    show i < (ps_G T k f 1 o 0 (ps_G T k f 0 o 0 i).2.1).2.1 ∧ i + ((ps_G T k f 0 o 0 i).2.2 ++ (ps_G T k f 1 o 0 (ps_G T k f 0 o 0 i).2.1).2.2).length ≤ (ps_G T k f 1 o 0 (ps_G T k f 0 o 0 i).2.1).2.1
    rw [List.length_append]
    omega
  · rw [psK_1 z]
    exact a
end PSK
section PCG
variable {T : Nat → Int} {P : Nat → Nat} {L : Nat}
theorem pc_R.fq {σ τ : pm_S} {c : List Int} {r : gyR} (h : pc_R T P σ c r) (F : FQ [] σ τ) : pc_R T P τ c r := by
  rcases h with ⟨z, q⟩ | ⟨z, q⟩
  · exact Or.inl ⟨z, q.fq (G := []) rfl F⟩
  · exact Or.inr ⟨z, q.fq (G := []) rfl F⟩
theorem pl_lt (hT : ∀ j, T j = -26 ↔ L ≤ j) {i : Nat} (h : T i ≠ -26) : i < L := by
  rcases Nat.lt_or_ge i L with x | x
  · exact x
  · exact absurd ((hT i).mpr x) h
theorem x_adv {σ : pm_S} {i : Nat} {c : List Int} (hB : an_GB pm_B σ) (hb : pc_B T P L σ) (hi : i < L) (hD : pc_D T σ i c) : Sp 29 5 [.ref 67] σ (fun v τ => v = none ∧ an_GB pm_B τ ∧ FQ FTy σ τ ∧ pc_D T τ (i + 1) c) :=
  (x_pav hB hb hi hD.2.1).use (Nat.le_refl _) (fun r τ q => ⟨q.1, q.2.1, FQ.up (G := [(67, 8), (67, 9)]) rfl q.2.2.1, (congrArg Int32.toInt (q.2.2.1 67 0 rfl)).trans hD.1, q.2.2.2.1, q.2.2.2.2, ⟨(congrArg Int32.toInt (q.2.2.1 69 1 rfl)).trans hD.2.2.2.1.1, (congrArg Int32.toInt (q.2.2.1 67 1 rfl)).trans hD.2.2.2.1.2⟩, fun j hj => (congrArg Int32.toInt (q.2.2.1 70 j rfl)).trans (hD.2.2.2.2 j hj)⟩)
theorem x_add {σ : pm_S} {i : Nat} {c : List Int} (z : Int) (hB : an_GB pm_B σ) (hz : (-27) ≤ z ∧ z ≤ 9999) (hm : c.length ≤ 399) (hD : pc_D T σ i c) : Sp 14 5 [.ref 69, .int (Int32.ofInt z)] σ (fun v τ => v = none ∧ an_GB pm_B τ ∧ FQ FTy σ τ ∧ pc_D T τ i (c ++ [z])) :=
  (x_pad z c hB hz hm hD.2.2.2.1.1 hD.2.2.2.2).use (Nat.le_refl _) (fun r τ q => ⟨q.1, q.2.1, FQ.up (G := [(69, 1), (70, 9999)]) rfl q.2.2.1, (congrArg Int32.toInt (q.2.2.1 67 0 rfl)).trans hD.1, (congrArg Int32.toInt (q.2.2.1 67 8 rfl)).trans hD.2.1, (congrArg Int32.toInt (q.2.2.1 67 9 rfl)).trans hD.2.2.1, ⟨q.2.2.2.1, (congrArg Int32.toInt (q.2.2.1 67 1 rfl)).trans hD.2.2.2.1.2⟩, q.2.2.2.2⟩)
theorem x_fal {σ : pm_S} {i : Nat} {c : List Int} (k : Nat) (hB : an_GB pm_B σ) (hb : pc_B T P L σ) (hi : i ≤ L) (hk : 1 ≤ k ∧ k ≤ 3) (hD : pc_D T σ i c) : Sp 28 5 [.ref 67, .int (Int32.ofInt (k : Int))] σ (fun v τ => v = none ∧ an_GB pm_B τ ∧ FQ FTy σ τ ∧ pc_F P τ k i) :=
  (x_pfa k hB hb hi hk hD.1 hD.2.1).use (Nat.le_refl _) (fun r τ q => ⟨q.1, q.2.1, FQ.up (G := [(67, 0), (67, 1)]) rfl q.2.2.1, q.2.2.2⟩)
def pGC (T : Nat → Int) (P : Nat → Nat) (L f : Nat) : Prop := ∀ (o i : Nat) (c : List Int) (σ : pm_S), o ≤ 8 → i ≤ L → 2 * (L - i) + 2 < f → c.length ≤ i → an_GB pm_B σ → pc_B T P L σ → pc_D T σ i c → Sp 33 (10 * (9 - o) + 20) [.ref 67, .int (Int32.ofInt (o : Int))] σ (pc_Q T P σ c (ps_G T 500 f 0 o 0 i))
def pGA (T : Nat → Int) (P : Nat → Nat) (L f : Nat) : Prop := ∀ (o w i n : Nat) (c : List Int) (τ : pm_S) (v4 : Value) (Q : Option Value → pm_S → Prop), o ≤ 8 → w ≤ 1 → i ≤ L → 2 * (L - i) + 3 < f → n < i → c.length + w ≤ i → v4.category = 1 → an_GB pm_B τ → pc_B T P L τ → pc_D T τ i c → (∀ τ' : pm_S, an_GB pm_B τ' → FQ FTy τ τ' → pc_R T P τ' c (ps_G T 500 f 1 o w i) → Q none τ') → Ok 32 (10 * (9 - o) + 25) 7 [.ref 67, .int (Int32.ofInt (o : Int)), .int (Int32.ofInt (w : Int)), .int (Int32.ofInt (n : Int)), v4] [] τ Q
set_option maxRecDepth 20000 in
theorem x_pan {f : Nat} (hT : ∀ j, T j = -26 ↔ L ≤ j) (hC : pGC T P L f) (hA : pGA T P L f) (o i : Nat) (c : List Int) (σ : pm_S) (ho : o ≤ 8) (hi : i ≤ L) (hf : 2 * (L - i) + 2 < f) (hc : c.length ≤ i) (hB : an_GB pm_B σ) (hb : pc_B T P L σ) (hD : pc_D T σ i c) : Sp 32 (10 * (9 - o) + 25) [.ref 67, .int (Int32.ofInt (o : Int))] σ (pc_Q T P σ c (ps_K T 500 f o i)) := by
  have hL := hb.1
  refine Sp.at rfl rfl ?_
  refine py_a0 _ o _ _ _ rfl rfl rfl hB ⟨by omega, trivial⟩ ?_
  intro τ0 y0 v3 v4 k3 k4 hB0 F0 _ _ _ _
  refine Ok.cv rfl rfl rfl rfl rfl rfl rfl ?_
  refine (hC o i c τ0 ho hi hf hc hB0 (hb.fq (G := []) rfl F0) (hD.fq (G := []) rfl F0)).use (by omega) (fun r τ q => ?_)
  obtain ⟨rfl, hB1, F1, q⟩ := q
  have G1 : FQ FTy σ τ := FQ.tr (FQ.up (G := []) rfl F0) F1
  have ok := (psG_ok hT (show L < 500 by omega) f o 0 i hi).1 hf
  rcases q with ⟨z, D1⟩ | ⟨z, D1⟩
  · have ok2 := ok.2.2 z
    refine py_a5 _ o v3 v4 k3 k4 hB1 ⟨by omega, trivial⟩ ?_
    intro τ2 y2 u4 n4 hB2 F2 _ _ _ _
    refine hA o 0 (ps_G T 500 f 0 o 0 i).2.1 0 (c ++ (ps_G T 500 f 0 o 0 i).2.2) τ2 u4 _ ho (by decide) ok.2.1 (by omega) (by omega) (by rw [List.length_append]; omega) n4 hB2 (hb.fq rfl (FQ.tr G1 (FQ.up (G := []) rfl F2))) (D1.fq (G := []) rfl F2) (fun τ' hB' F' hR => ⟨rfl, hB', FQ.tr G1 (FQ.tr (FQ.up (G := []) rfl F2) F'), ?_⟩)
    rw [psK_0 z]
    exact hR.app
  · refine py_af5 _ o (ps_G T 500 f 0 o 0 i).1 v3 v4 k3 k4 hB1 ⟨by omega, by omega, trivial⟩ ⟨D1.1, trivial⟩ ?_
    intro τ2 y2 hB2 F2 _ _ _ _
    refine ⟨rfl, hB2, FQ.tr G1 (FQ.up (G := FXy) rfl F2), ?_⟩
    rw [psK_1 z]
    exact Or.inr ⟨z, D1.fq (G := FXy) rfl F2⟩
set_option maxRecDepth 20000 in
theorem x_po {f : Nat} (hT : ∀ j, T j = -26 ↔ L ≤ j) (hr : ∀ j, (-27) ≤ T j ∧ T j ≤ 9999) (hC : pGC T P L f) (hA : pGA T P L f) (o i : Nat) (c : List Int) (σ : pm_S) (ho : o ≤ 8) (hi : i ≤ L) (hf : 2 * (L - i) + 2 < f + 1) (hc : c.length ≤ i) (hB : an_GB pm_B σ) (hb : pc_B T P L σ) (hD : pc_D T σ i c) (hop : T i = -6 ∨ T i = -21) : Sp 34 (10 * (9 - o) + 18) [.ref 67, .int (Int32.ofInt (o : Int))] σ (pc_Q T P σ c (ps_G T 500 (f + 1) 0 o 0 i)) := by
  have hL := hb.1
  have iL : i < L := pl_lt hT (by omega)
  refine Sp.at rfl rfl ?_
  refine py_o0 _ o (T i) hB ⟨by omega, by omega, trivial⟩ ⟨hD.2.2.1, trivial⟩ ?_ ?_ ?_
  · intro τ0 y0 hB0 F0 f0 _ _ _
    have f1 := f0.1
    have f2 := f0.2.1
    have c1 : T i = -21 := by omega
    have d1 : ¬ 8 ≤ o := by omega
    refine Ok.cv rfl rfl rfl rfl rfl rfl rfl ?_
    refine (x_adv (i := i) (c := c) hB0 (hb.fq (G := []) rfl F0) iL (hD.fq (G := []) rfl F0)).use (by omega) (fun r τ q => ?_)
    obtain ⟨rfl, hB1, F1, D1⟩ := q
    have G1 : FQ FTy σ τ := FQ.tr (FQ.up (G := []) rfl F0) F1
    refine py_o25 _ o hB1 ⟨by omega, trivial⟩ ?_
    intro τ2 y2 hB2 F2 _ _ _ _
    have G2 : FQ FTy σ τ2 := FQ.tr G1 (FQ.up (G := []) rfl F2)
    refine Ok.cv rfl rfl rfl rfl rfl rfl rfl ?_
    refine (x_pan hT hC hA (o + 1) (i + 1) c τ2 (by omega) (by omega) (by omega) (by omega) hB2 (hb.fq rfl G2) (D1.fq (G := []) rfl F2)).use (by omega) (fun r τ3 q => ?_)
    obtain ⟨rfl, hB3, F3, q⟩ := q
    have G3 : FQ FTy σ τ3 := FQ.tr G2 F3
    have kk := psK_ok (o := o + 1) hT (show L < 500 by omega) (show i + 1 ≤ L by omega) (show 2 * (L - (i + 1)) + 2 < f by omega)
    rcases q with ⟨z, D3⟩ | ⟨z, D3⟩
    · refine py_o30 _ o hB3 ⟨by omega, trivial⟩ ?_
      intro τ4 y4 hB4 F4 _ _ _ _
      have G4 : FQ FTy σ τ4 := FQ.tr G3 (FQ.up (G := []) rfl F4)
      refine Ok.cv rfl rfl rfl rfl rfl rfl rfl ?_
      refine (x_pex (i := (ps_K T 500 f (o + 1) (i + 1)).2.1) (c := c ++ (ps_K T 500 f (o + 1) (i + 1)).2.2) (-22) hT hr hB4 (hb.fq rfl G4) kk.2.1 (by decide) (D3.fq (G := []) rfl F4)).use (by omega) (fun r τ5 q => ?_)
      obtain ⟨rfl, hB5, F5, q⟩ := q
      refine py_o33 _ o hB5 ⟨by omega, trivial⟩ ?_
      intro τ6 y6 hB6 F6 _ _ _ _
      refine ⟨rfl, hB6, FQ.tr G4 (FQ.tr F5 (FQ.up (G := []) rfl F6)), ?_⟩
      by_cases e : T (ps_K T 500 f (o + 1) (i + 1)).2.1 = -22
      · rw [if_pos e] at q
        rw [psG_b1 c1 d1 z e]
        rcases q with ⟨_, q⟩ | ⟨z2, _⟩
        · have q2 : pc_D T τ6 ((ps_K T 500 f (o + 1) (i + 1)).2.1 + 1) (c ++ (ps_K T 500 f (o + 1) (i + 1)).2.2 ++ []) := q.fq (G := []) rfl F6
          rw [List.append_nil] at q2
          exact Or.inl ⟨rfl, q2⟩
        · exact absurd rfl z2
      · rw [if_neg e] at q
        rw [psG_b2 c1 d1 z e]
        rcases q with ⟨z2, _⟩ | ⟨_, q⟩
        · cases z2
        · exact Or.inr ⟨show (1 : Nat) ≠ 0 by decide, q.fq (G := []) rfl F6⟩
    · refine py_of30 _ o (ps_K T 500 f (o + 1) (i + 1)).1 hB3 ⟨by omega, by omega, trivial⟩ ⟨D3.1, trivial⟩ ?_
      intro τ4 y4 hB4 F4 _ _ _ _
      have e := psG_b3 (w := 0) c1 d1 z
      refine ⟨rfl, hB4, FQ.tr G3 (FQ.up (G := FXy) rfl F4), Or.inr ⟨by rw [e.1]; exact z, ?_⟩⟩
      rw [e.1, e.2]
      exact D3.fq (G := FXy) rfl F4
  · intro τ0 y0 hB0 F0 f0 _ _ _
    have f1 := f0.1
    have f2 := f0.2.1
    have c1 : T i = -6 := by omega
    have d1 : ¬ 8 ≤ o := by omega
    refine Ok.cv rfl rfl rfl rfl rfl rfl rfl ?_
    refine (x_adv (i := i) (c := c) hB0 (hb.fq (G := []) rfl F0) iL (hD.fq (G := []) rfl F0)).use (by omega) (fun r τ q => ?_)
    obtain ⟨rfl, hB1, F1, D1⟩ := q
    have G1 : FQ FTy σ τ := FQ.tr (FQ.up (G := []) rfl F0) F1
    refine py_o13 _ o hB1 ⟨by omega, trivial⟩ ?_
    intro τ2 y2 hB2 F2 _ _ _ _
    have G2 : FQ FTy σ τ2 := FQ.tr G1 (FQ.up (G := []) rfl F2)
    refine Ok.cv rfl rfl rfl rfl rfl rfl rfl ?_
    refine (hC (o + 1) (i + 1) c τ2 (by omega) (by omega) (by omega) (by omega) hB2 (hb.fq rfl G2) (D1.fq (G := []) rfl F2)).use (by omega) (fun r τ3 q => ?_)
    obtain ⟨rfl, hB3, F3, q⟩ := q
    have G3 : FQ FTy σ τ3 := FQ.tr G2 F3
    have kk := (psG_ok hT (show L < 500 by omega) f (o + 1) 0 (i + 1) (by omega)).1 (by omega)
    rcases q with ⟨z, D3⟩ | ⟨z, D3⟩
    · have k2 := kk.2.2 z
      refine py_o18 _ o hB3 ⟨by omega, trivial⟩ ?_
      intro τ4 y4 hB4 F4 _ _ _ _
      have G4 : FQ FTy σ τ4 := FQ.tr G3 (FQ.up (G := []) rfl F4)
      refine Ok.cv rfl rfl rfl rfl rfl rfl rfl ?_
      refine (x_add (i := (ps_G T 500 f 0 (o + 1) 0 (i + 1)).2.1) (c := c ++ (ps_G T 500 f 0 (o + 1) 0 (i + 1)).2.2) (-6) hB4 (by decide) (by rw [List.length_append]; omega) (D3.fq (G := []) rfl F4)).use (by omega) (fun r τ5 q => ?_)
      obtain ⟨rfl, hB5, F5, D5⟩ := q
      refine py_o22 _ o hB5 ⟨by omega, trivial⟩ ?_
      intro τ6 y6 hB6 F6 _ _ _ _
      refine ⟨rfl, hB6, FQ.tr G4 (FQ.tr F5 (FQ.up (G := []) rfl F6)), ?_⟩
      rw [psG_n1 c1 d1 z]
      have D6 := D5.fq (G := []) rfl F6
      rw [List.append_assoc] at D6
      exact Or.inl ⟨rfl, D6⟩
    · refine py_of18 _ o (ps_G T 500 f 0 (o + 1) 0 (i + 1)).1 hB3 ⟨by omega, by omega, trivial⟩ ⟨D3.1, trivial⟩ ?_
      intro τ4 y4 hB4 F4 _ _ _ _
      rw [psG_n2 c1 d1 z]
      exact ⟨rfl, hB4, FQ.tr G3 (FQ.up (G := FXy) rfl F4), Or.inr ⟨z, D3.fq (G := FXy) rfl F4⟩⟩
  · intro τ0 y0 hB0 F0 f0 _ _ _
    have f1 := f0.1
    have d1 : 8 ≤ o := by omega
    refine Ok.cv rfl rfl rfl rfl rfl rfl rfl ?_
    refine (x_fal (i := i) (c := c) 3 hB0 (hb.fq (G := []) rfl F0) hi (by decide) (hD.fq (G := []) rfl F0)).use (by omega) (fun r τ q => ?_)
    obtain ⟨rfl, hB1, F1, q1⟩ := q
    refine py_o6 _ o hB1 ⟨by omega, trivial⟩ ?_
    intro τ2 y2 hB2 F2 _ _ _ _
    have e : ps_G T 500 (f + 1) 0 o 0 i = (3, i, []) := by
      rcases hop with h | h
      · exact psG_n8 h d1
      · exact psG_b8 h d1
    rw [e]
    exact ⟨rfl, hB2, FQ.tr (FQ.up (G := []) rfl F0) (FQ.tr F1 (FQ.up (G := []) rfl F2)), Or.inr ⟨show (3 : Nat) ≠ 0 by decide, q1.fq (G := []) rfl F2⟩⟩
set_option maxRecDepth 20000 in
theorem x_pc {f : Nat} (hT : ∀ j, T j = -26 ↔ L ≤ j) (hr : ∀ j, (-27) ≤ T j ∧ T j ≤ 9999) (hC : pGC T P L f) (hA : pGA T P L f) : pGC T P L (f + 1) := by
  intro o i c σ ho hi hf hc hB hb hD
  have hL := hb.1
  have hri := hr i
  refine Sp.at rfl rfl ?_
  have opened : ∀ (τ0 : pm_S) (v2 : Value), v2.category = 1 → an_GB pm_B τ0 → FQ [] σ τ0 → (T i = -6 ∨ T i = -21) → Ok 33 (10 * (9 - o) + 20) 10 [.ref 67, .int (Int32.ofInt (o : Int)), v2] [.int (Int32.ofInt (o : Int)), .ref 67] τ0 (pc_Q T P σ c (ps_G T 500 (f + 1) 0 o 0 i)) := by
    intro τ0 v2 k2 hB0 F0 c1
    refine Ok.cv rfl rfl rfl rfl rfl rfl rfl ?_
    refine (x_po hT hr hC hA o i c τ0 ho hi hf hc hB0 (hb.fq (G := []) rfl F0) (hD.fq (G := []) rfl F0) c1).use (by omega) (fun r τ q => ?_)
    obtain ⟨rfl, hB1, F1, q⟩ := q
    refine py_c11 _ o v2 k2 hB1 ⟨by omega, trivial⟩ ?_
    intro τ2 y2 hB2 F2 _ _ _ _
    exact ⟨rfl, hB2, FQ.tr (FQ.up (G := []) rfl F0) (FQ.tr F1 (FQ.up (G := []) rfl F2)), q.fq F2⟩
  refine py_c0 _ o (T i) _ rfl hB ⟨by omega, hri, trivial⟩ ⟨hD.2.2.1, trivial⟩ ?_ ?_ ?_
  · intro τ0 y0 v2 k2 hB0 F0 f0 _ _ _
    have f2 := f0.2.1
    exact opened τ0 v2 k2 hB0 F0 (Or.inl (by omega))
  · intro τ0 y0 v2 k2 hB0 F0 f0 rl _ _
    rw [psG_m rl.2.1 rl.1]
    refine Ok.cv rfl rfl rfl rfl rfl rfl rfl ?_
    refine (x_psi (i := i) (c := c) hT hr hB0 (hb.fq (G := []) rfl F0) hi hc (hD.fq (G := []) rfl F0)).use (by omega) (fun r τ q => ?_)
    obtain ⟨rfl, hB1, F1, q⟩ := q
    have G1 : FQ FTy σ τ := FQ.tr (FQ.up (G := []) rfl F0) F1
    have ok := psE_ok hT (k := 500) hi (show L < 500 by omega)
    rcases q with ⟨z, D1⟩ | ⟨z, D1⟩
    · have ok2 := ok.2.2 z
      have l1 : (c ++ (ps_E T 500 i).2.2).length = c.length + (ps_E T 500 i).2.2.length := List.length_append
      have hrj := hr (ps_E T 500 i).2.1
      have sgn : ∀ (τ2 : pm_S), an_GB pm_B τ2 → FQ [] τ τ2 → ((-25) ≤ T (ps_E T 500 i).2.1 ∧ T (ps_E T 500 i).2.1 ≤ -23) → Ok 33 (10 * (9 - o) + 20) 31 [.ref 67, .int (Int32.ofInt (o : Int)), .int (Int32.ofInt (T (ps_E T 500 i).2.1))] [.ref 67] τ2 (pc_Q T P σ c (ps_M T 500 i)) := by
        intro τ2 hB2 F2 cs
        have JL : (ps_E T 500 i).2.1 < L := pl_lt hT (by omega)
        have G2 : FQ FTy σ τ2 := FQ.tr G1 (FQ.up (G := []) rfl F2)
        refine Ok.cv rfl rfl rfl rfl rfl rfl rfl ?_
        refine (x_adv (i := (ps_E T 500 i).2.1) (c := c ++ (ps_E T 500 i).2.2) hB2 (hb.fq rfl G2) JL (D1.fq (G := []) rfl F2)).use (by omega) (fun r τ3 q => ?_)
        obtain ⟨rfl, hB3, F3, D3⟩ := q
        have G3 : FQ FTy σ τ3 := FQ.tr G2 F3
        refine py_c32 _ o (T (ps_E T 500 i).2.1) hB3 ⟨by omega, cs, trivial⟩ ?_
        intro τ4 y4 hB4 F4 _ _ _ _
        have G4 : FQ FTy σ τ4 := FQ.tr G3 (FQ.up (G := []) rfl F4)
        refine Ok.cv rfl rfl rfl rfl rfl rfl rfl ?_
        refine (x_psi (i := (ps_E T 500 i).2.1 + 1) (c := c ++ (ps_E T 500 i).2.2) hT hr hB4 (hb.fq rfl G4) (by omega) (by omega) (D3.fq (G := []) rfl F4)).use (by omega) (fun r τ5 q => ?_)
        obtain ⟨rfl, hB5, F5, q⟩ := q
        have G5 : FQ FTy σ τ5 := FQ.tr G4 F5
        have ok5 := psE_ok hT (k := 500) (show (ps_E T 500 i).2.1 + 1 ≤ L by omega) (show L < 500 by omega)
        rcases q with ⟨z2, D5⟩ | ⟨z2, D5⟩
        · have ok6 := ok5.2.2 z2
          have l2 : (c ++ (ps_E T 500 i).2.2 ++ (ps_E T 500 ((ps_E T 500 i).2.1 + 1)).2.2).length = c.length + (ps_E T 500 i).2.2.length + (ps_E T 500 ((ps_E T 500 i).2.1 + 1)).2.2.length := by rw [List.length_append, l1]
          refine py_c34 _ o (T (ps_E T 500 i).2.1) hB5 ⟨by omega, cs, trivial⟩ ?_
          intro τ6 y6 hB6 F6 _ _ _ _
          refine Ok.cv rfl rfl rfl rfl rfl rfl rfl ?_
          refine (x_add (i := (ps_E T 500 ((ps_E T 500 i).2.1 + 1)).2.1) (c := c ++ (ps_E T 500 i).2.2 ++ (ps_E T 500 ((ps_E T 500 i).2.1 + 1)).2.2) (T (ps_E T 500 i).2.1) hB6 hrj (by omega) (D5.fq (G := []) rfl F6)).use (by omega) (fun r τ7 q => ?_)
          obtain ⟨rfl, hB7, F7, D7⟩ := q
          refine py_c38 _ o (T (ps_E T 500 i).2.1) hB7 ⟨by omega, cs, trivial⟩ ?_
          intro τ8 y8 hB8 F8 _ _ _ _
          refine ⟨rfl, hB8, FQ.tr G5 (FQ.tr (FQ.up (G := []) rfl F6) (FQ.tr F7 (FQ.up (G := []) rfl F8))), ?_⟩
          rw [psM_1 z cs z2]
          have D8 := D7.fq (G := []) rfl F8
          rw [List.append_assoc, List.append_assoc] at D8
          exact Or.inl ⟨rfl, D8⟩
        · refine py_cf34 _ o (T (ps_E T 500 i).2.1) (ps_E T 500 ((ps_E T 500 i).2.1 + 1)).1 hB5 ⟨by omega, cs, by omega, trivial⟩ ⟨D5.1, trivial⟩ ?_
          intro τ6 y6 hB6 F6 _ _ _ _
          rw [psM_2 z cs z2]
          exact ⟨rfl, hB6, FQ.tr G5 (FQ.up (G := FXy) rfl F6), Or.inr ⟨z2, D5.fq (G := FXy) rfl F6⟩⟩
      refine py_c14 _ o (T (ps_E T 500 i).2.1) v2 k2 hB1 ⟨by omega, hrj, trivial⟩ ⟨D1.2.2.1, trivial⟩ ?_ ?_ ?_ ?_
      · intro τ2 y2 hB2 F2 g _ _ _
        have g2 := g.2.1
        exact sgn τ2 hB2 F2 (by omega)
      · intro τ2 y2 hB2 F2 g _ _ _
        have g2 := g.2.1
        exact sgn τ2 hB2 F2 (by omega)
      · intro τ2 y2 hB2 F2 g _ _ _
        have g2 := g.2.1
        exact sgn τ2 hB2 F2 (by omega)
      · intro τ2 y2 hB2 F2 g rl2 _ _
        have r1 := rl2.1
        have r2 := rl2.2.1
        have r3 := rl2.2.2.1
        have G2 : FQ FTy σ τ2 := FQ.tr G1 (FQ.up (G := []) rfl F2)
        refine Ok.cv rfl rfl rfl rfl rfl rfl rfl ?_
        refine (x_fal (i := (ps_E T 500 i).2.1) (c := c ++ (ps_E T 500 i).2.2) 1 hB2 (hb.fq rfl G2) ok.2.1 (by decide) (D1.fq (G := []) rfl F2)).use (by omega) (fun r τ3 q => ?_)
        obtain ⟨rfl, hB3, F3, q3⟩ := q
        refine py_c29 _ o (T (ps_E T 500 i).2.1) hB3 ⟨by omega, hrj, trivial⟩ ?_
        intro τ4 y4 hB4 F4 _ _ _ _
        rw [psM_3 z (by omega)]
        exact ⟨rfl, hB4, FQ.tr G2 (FQ.tr F3 (FQ.up (G := []) rfl F4)), Or.inr ⟨show (1 : Nat) ≠ 0 by decide, q3.fq (G := []) rfl F4⟩⟩
    · refine py_cf14 _ o (ps_E T 500 i).1 v2 k2 hB1 ⟨by omega, by omega, trivial⟩ ⟨D1.1, trivial⟩ ?_
      intro τ2 y2 hB2 F2 _ _ _ _
      rw [psM_4 z]
      exact ⟨rfl, hB2, FQ.tr G1 (FQ.up (G := FXy) rfl F2), Or.inr ⟨z, D1.fq (G := FXy) rfl F2⟩⟩
  · intro τ0 y0 v2 k2 hB0 F0 f0 _ _ _
    have f2 := f0.2.1
    exact opened τ0 v2 k2 hB0 F0 (Or.inr (by omega))
set_option maxRecDepth 20000 in
theorem x_pa {f : Nat} (hT : ∀ j, T j = -26 ↔ L ≤ j) (hr : ∀ j, (-27) ≤ T j ∧ T j ≤ 9999) (hC : pGC T P L f) (hA : pGA T P L f) : pGA T P L (f + 1) := by
  intro o w i n c τ v4 Q ho hw hi hf hn hc k4 hB hb hD hQ
  have hL := hb.1
  have hri := hr i
  have step : ∀ (τ1 : pm_S) (w2 a : Nat) (e c2 : List Int), an_GB pm_B τ1 → FQ FTy τ τ1 → pc_D T τ1 i c2 → i < L → w2 ≤ 1 → (a = 1 ∧ e = [-5] ∨ a = 0 ∧ e = []) → c2.length + w2 ≤ i + 1 → c2.length ≤ i → (a = 1 → c2.length + w2 ≤ i) → (∀ τ' : pm_S, an_GB pm_B τ' → FQ FTy τ τ' → pc_R T P τ' c2 (if (ps_G T 500 f 0 o 0 (i + 1)).1 = 0 then ((ps_G T 500 f 1 o w2 (ps_G T 500 f 0 o 0 (i + 1)).2.1).1, (ps_G T 500 f 1 o w2 (ps_G T 500 f 0 o 0 (i + 1)).2.1).2.1, (ps_G T 500 f 0 o 0 (i + 1)).2.2 ++ (e ++ (ps_G T 500 f 1 o w2 (ps_G T 500 f 0 o 0 (i + 1)).2.1).2.2)) else ps_G T 500 f 0 o 0 (i + 1)) → Q none τ') → Ok 32 (10 * (9 - o) + 25) 46 [.ref 67, .int (Int32.ofInt (o : Int)), .int (Int32.ofInt (w2 : Int)), .int (Int32.ofInt (n : Int)), .int (Int32.ofInt (a : Int))] [.ref 67] τ1 Q := by
    intro τ1 w2 a e c2 hB1 G1 D1 iL hw2 ha hc2 hc3 hc6 hQ2
    have ha1 : a ≤ 1 := by omega
    refine Ok.cv rfl rfl rfl rfl rfl rfl rfl ?_
    refine (x_adv (i := i) (c := c2) hB1 (hb.fq rfl G1) iL D1).use (by omega) (fun r τ2 q => ?_)
    obtain ⟨rfl, hB2, F2, D2⟩ := q
    refine py_a47 _ o w2 n a hB2 ⟨by omega, by omega, by omega, by omega, trivial⟩ ?_
    intro τ3 y3 hB3 F3 _ _ _ _
    have G3 : FQ FTy τ τ3 := FQ.tr G1 (FQ.tr F2 (FQ.up (G := []) rfl F3))
    refine Ok.cv rfl rfl rfl rfl rfl rfl rfl ?_
    refine (hC o (i + 1) c2 τ3 ho (by omega) (by omega) (by omega) hB3 (hb.fq rfl G3) (D2.fq (G := []) rfl F3)).use (by omega) (fun r τ4 q => ?_)
    obtain ⟨rfl, hB4, F4, q⟩ := q
    have G4 : FQ FTy τ τ4 := FQ.tr G3 F4
    have ok := (psG_ok hT (show L < 500 by omega) f o 0 (i + 1) (by omega)).1 (by omega)
    rcases q with ⟨z, D4⟩ | ⟨z, D4⟩
    · have ok2 := ok.2.2 z
      rw [if_pos z] at hQ2
      have l1 : (c2 ++ (ps_G T 500 f 0 o 0 (i + 1)).2.2).length = c2.length + (ps_G T 500 f 0 o 0 (i + 1)).2.2.length := List.length_append
      refine py_a50 _ o w2 n a hB4 ⟨by omega, by omega, by omega, by omega, trivial⟩ ?_ ?_
      · intro τ5 y5 hB5 F5 g _ _ _
        have g4 := g.2.2.2.1
        have he : e = [] := by
          rcases ha with x | x
          · omega
          · exact x.2
        have G5 : FQ FTy τ τ5 := FQ.tr G4 (FQ.up (G := []) rfl F5)
        refine hA o w2 (ps_G T 500 f 0 o 0 (i + 1)).2.1 (n + 1) (c2 ++ (ps_G T 500 f 0 o 0 (i + 1)).2.2) τ5 _ Q ho hw2 ok.2.1 (by omega) (by omega) (by omega) rfl hB5 (hb.fq rfl G5) (D4.fq (G := []) rfl F5) (fun τ' hB' F' hR => hQ2 τ' hB' (FQ.tr G5 F') ?_)
        rw [he]
        exact hR.app
      · intro τ5 y5 hB5 F5 g _ _ _
        have g4 := g.2.2.2.1
        have hc7 := hc6 (by omega)
        have he : e = [-5] := by
          rcases ha with x | x
          · exact x.2
          · omega
        have G5 : FQ FTy τ τ5 := FQ.tr G4 (FQ.up (G := []) rfl F5)
        refine Ok.cv rfl rfl rfl rfl rfl rfl rfl ?_
        refine (x_add (i := (ps_G T 500 f 0 o 0 (i + 1)).2.1) (c := c2 ++ (ps_G T 500 f 0 o 0 (i + 1)).2.2) (-5) hB5 (by decide) (by omega) (D4.fq (G := []) rfl F5)).use (by omega) (fun r τ6 q => ?_)
        obtain ⟨rfl, hB6, F6, D6⟩ := q
        refine py_a56 _ o w2 n a hB6 ⟨by omega, by omega, by omega, by omega, trivial⟩ ?_
        intro τ7 y7 hB7 F7 _ _ _ _
        have G7 : FQ FTy τ τ7 := FQ.tr G5 (FQ.tr F6 (FQ.up (G := []) rfl F7))
        have l2 : (c2 ++ (ps_G T 500 f 0 o 0 (i + 1)).2.2 ++ [(-5 : Int)]).length = c2.length + (ps_G T 500 f 0 o 0 (i + 1)).2.2.length + 1 := by rw [List.length_append, l1, List.length_singleton]
        refine hA o w2 (ps_G T 500 f 0 o 0 (i + 1)).2.1 (n + 1) (c2 ++ (ps_G T 500 f 0 o 0 (i + 1)).2.2 ++ [-5]) τ7 _ Q ho hw2 ok.2.1 (by omega) (by omega) (by omega) rfl hB7 (hb.fq rfl G7) (D6.fq (G := []) rfl F7) (fun τ' hB' F' hR => hQ2 τ' hB' (FQ.tr G7 F') ?_)
        rw [he]
        exact hR.app.app
    · rw [if_neg z] at hQ2
      refine py_af50 _ o w2 n a (ps_G T 500 f 0 o 0 (i + 1)).1 hB4 ⟨by omega, by omega, by omega, by omega, by omega, trivial⟩ ⟨D4.1, trivial⟩ ?_
      intro τ5 y5 hB5 F5 _ _ _ _
      exact hQ2 τ5 hB5 (FQ.tr G4 (FQ.up (G := FXy) rfl F5)) (Or.inr ⟨z, D4.fq (G := FXy) rfl F5⟩)
  refine py_a7 _ o w n (T i) v4 k4 hB ⟨by omega, by omega, by omega, hri, trivial⟩ ⟨hD.1, hD.2.2.1, trivial⟩ ?_ ?_ ?_ ?_ ?_ ?_
  · intro τ1 y1 hB1 F1 g _ _ _
    have g2 := g.2.1
    have g4 := g.2.2.2.1
    have c1 : T i = -4 := by omega
    have w0 : w = 0 := by omega
    refine step τ1 1 0 [] c hB1 (FQ.up (G := []) rfl F1) (hD.fq (G := []) rfl F1) (pl_lt hT (by omega)) (by decide) (Or.inr ⟨rfl, rfl⟩) (by omega) (by omega) (fun z => by omega) (fun τ' hB' F' hR => hQ τ' hB' F' ?_)
    by_cases z : (ps_G T 500 f 0 o 0 (i + 1)).1 = 0
    · rw [if_pos z] at hR
      rw [psG_or c1 z, if_neg (show ¬ w = 1 by omega)]
      exact hR
    · rw [if_neg z] at hR
      rw [psG_or2 c1 z]
      exact hR
  · intro τ1 y1 hB1 F1 g _ _ _
    have g2 := g.2.1
    have g4 := g.2.2.2.1
    have c1 : T i = -4 := by omega
    have w1 : w = 1 := by omega
    subst w1
    have l1 : (c ++ [(-4 : Int)]).length = c.length + 1 := by rw [List.length_append, List.length_singleton]
    refine Ok.cv rfl rfl rfl rfl rfl rfl rfl ?_
    refine (x_add (i := i) (c := c) (-4) hB1 (by decide) (by omega) (hD.fq (G := []) rfl F1)).use (by omega) (fun r τ2 q => ?_)
    obtain ⟨rfl, hB2, F2, D2⟩ := q
    refine py_a37 _ o n hB2 ⟨by omega, by omega, trivial⟩ ?_
    intro τ3 y3 hB3 F3 _ _ _ _
    have G3 : FQ FTy τ τ3 := FQ.tr (FQ.up (G := []) rfl F1) (FQ.tr F2 (FQ.up (G := []) rfl F3))
    refine step τ3 1 0 [] (c ++ [-4]) hB3 G3 (D2.fq (G := []) rfl F3) (pl_lt hT (by omega)) (by decide) (Or.inr ⟨rfl, rfl⟩) (by omega) (by omega) (fun z => by omega) (fun τ' hB' F' hR => hQ τ' hB' F' ?_)
    by_cases z : (ps_G T 500 f 0 o 0 (i + 1)).1 = 0
    · rw [if_pos z] at hR
      rw [psG_or c1 z, if_pos rfl]
      exact hR.app
    · rw [if_neg z] at hR
      rw [psG_or2 c1 z]
      rcases hR with ⟨z2, _⟩ | hR
      · exact absurd z2 z
      · exact Or.inr hR
  · intro τ1 y1 hB1 F1 g rl _ _
    have g2 := g.2.1
    refine hQ τ1 hB1 (FQ.up (G := []) rfl F1) ?_
    rw [psG_e rl.2.1 rl.1, if_neg (show ¬ w = 1 by omega)]
    have D1 := hD.fq (G := []) rfl F1
    refine Or.inl ⟨rfl, ?_⟩
    show pc_D T τ1 i (c ++ [])
    rw [List.append_nil]
    exact D1
  · intro τ1 y1 u4 n4 hB1 F1 g rl _ _
    have g2 := g.2.1
    have w1 : w = 1 := by omega
    refine Ok.cv rfl rfl rfl rfl rfl rfl rfl ?_
    refine (x_add (i := i) (c := c) (-4) hB1 (by decide) (by omega) (hD.fq (G := []) rfl F1)).use (by omega) (fun r τ2 q => ?_)
    obtain ⟨rfl, hB2, F2, D2⟩ := q
    refine py_a64 _ _ _ _ _ rfl rfl rfl n4 hB2 ?_
    intro τ3 y3 hB3 F3 _ _ _ _
    refine hQ τ3 hB3 (FQ.tr (FQ.up (G := []) rfl F1) (FQ.tr F2 (FQ.up (G := []) rfl F3))) ?_
    rw [psG_e rl.2.1 rl.1, if_pos w1]
    exact Or.inl ⟨rfl, D2.fq (G := []) rfl F3⟩
  · intro τ1 y1 hB1 F1 g _ _ _
    have g2 := g.2.1
    have g4 := g.2.2.2.1
    have c1 : T i = -5 := by omega
    have w0 : w = 0 := by omega
    subst w0
    refine step τ1 0 1 [-5] c hB1 (FQ.up (G := []) rfl F1) (hD.fq (G := []) rfl F1) (pl_lt hT (by omega)) (by decide) (Or.inl ⟨rfl, rfl⟩) (by omega) (by omega) (fun z => by omega) (fun τ' hB' F' hR => hQ τ' hB' F' ?_)
    by_cases z : (ps_G T 500 f 0 o 0 (i + 1)).1 = 0
    · rw [if_pos z] at hR
      rw [psG_an c1 z]
      exact hR
    · rw [if_neg z] at hR
      rw [psG_an2 c1 z]
      exact hR
  · intro τ1 y1 hB1 F1 g _ _ _
    have g2 := g.2.1
    have g4 := g.2.2.2.1
    have c1 : T i = -5 := by omega
    have w1 : w = 1 := by omega
    subst w1
    refine step τ1 1 1 [-5] c hB1 (FQ.up (G := []) rfl F1) (hD.fq (G := []) rfl F1) (pl_lt hT (by omega)) (by decide) (Or.inl ⟨rfl, rfl⟩) (by omega) (by omega) (fun z => by omega) (fun τ' hB' F' hR => hQ τ' hB' F' ?_)
    by_cases z : (ps_G T 500 f 0 o 0 (i + 1)).1 = 0
    · rw [if_pos z] at hR
      rw [psG_an c1 z]
      exact hR
    · rw [if_neg z] at hR
      rw [psG_an2 c1 z]
      exact hR
theorem x_pGA (hT : ∀ j, T j = -26 ↔ L ≤ j) (hr : ∀ j, (-27) ≤ T j ∧ T j ≤ 9999) : ∀ f, pGC T P L f ∧ pGA T P L f
  | 0 => ⟨fun o i c σ _ _ hf => absurd hf (Nat.not_lt_zero _), fun o w i n c τ v4 Q _ _ _ hf => absurd hf (Nat.not_lt_zero _)⟩
  | f + 1 => ⟨x_pc hT hr (x_pGA hT hr f).1 (x_pGA hT hr f).2, x_pa hT hr (x_pGA hT hr f).1 (x_pGA hT hr f).2⟩
/-- a whole condition -/
theorem x_pan0 {σ : pm_S} {i : Nat} {c : List Int} (hT : ∀ j, T j = -26 ↔ L ≤ j) (hr : ∀ j, (-27) ≤ T j ∧ T j ≤ 9999) (hi : i ≤ L) (hc : c.length ≤ i) (hB : an_GB pm_B σ) (hb : pc_B T P L σ) (hD : pc_D T σ i c) : Sp 32 115 [.ref 67, .int (Int32.ofInt 0)] σ (pc_Q T P σ c (ps_A T i)) := by
  have hL := hb.1
  exact x_pan hT (x_pGA hT hr 1500).1 (x_pGA hT hr 1500).2 0 i c σ (by decide) hi (by omega) hc hB hb hD
end PCG
