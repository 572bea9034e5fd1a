theorem wR_shift {o a o' a' : Nat → Int32} {k k' : Nat} : ∀ (n : Nat), (∀ j, j < n → o' (k' + j) = o (k + j) ∧ a' (k' + j) = a (k + j)) → wR o' a' k' n = wR o a k n := by
  intro n
  induction n with
  | zero => intro _; rfl
  | succ n ih =>
    intro h
    show (wR o' a' k' n).bind _ = (wR o a k n).bind _
    rw [ih (fun j h1 => h j (by omega)), (h n (by omega)).1, (h n (by omega)).2]
def cpL (σ1 σ : pm_S) (l : Nat) : Prop := an_GB pm_B σ ∧ FQ [(116, 9999), (117, 9999), (118, 9999)] σ1 σ ∧ (∀ j : Nat, 16 ≤ j → σ.1 117 j = σ1.1 117 j ∧ σ.1 118 j = σ1.1 118 j) ∧ (∀ i : Nat, i < l → σ.1 117 i = σ1.1 117 (16 + i) ∧ σ.1 118 i = σ1.1 118 (16 + i))
def cpO (σ1 σ : pm_S) (l : Nat) : Prop := an_GB pm_B σ ∧ FQ [(119, 9999), (120, 9999)] σ1 σ ∧ (∀ j : Nat, 400 ≤ j → σ.1 119 j = σ1.1 119 j ∧ σ.1 120 j = σ1.1 120 j) ∧ (∀ i : Nat, i < l → σ.1 119 i = σ1.1 119 (400 + i) ∧ σ.1 120 i = σ1.1 120 (400 + i))
theorem x_41 {σ1 : pm_S} {k : Nat} (hk : k ≤ 16) {Qz : Option Value → pm_S → Prop} (hend : ∀ (σ : pm_S) (v : Value), v.category = 1 → cpL σ1 σ k → Ok 195 111 76 [.ref 93, .int (Int32.ofInt (k : Int)), v] [] σ Qz) : ∀ (N l : Nat) (σ : pm_S), l + N = k → cpL σ1 σ l → Ok 195 111 41 [.ref 93, .int (Int32.ofInt (k : Int)), .int (Int32.ofInt (l : Int))] [] σ Qz := by
  intro N
  induction N with
  | zero =>
    intro l σ hl hC
    refine sg_tx41 k l hC.1 ⟨by omega, by omega, trivial⟩ ?_
    intro τ y hB1 hF1 _ _ _ _
    have hC1 : cpL σ1 τ l := by
      refine ⟨hB1, hC.2.1.tr (FQ.up (G := []) rfl hF1), ?_⟩
      rw [FQ.e1 hF1]
      exact hC.2.2
    refine Ok.ic rfl rfl (by omega) (by omega) (by omega) (by omega) (fun h => ?_) (fun h => ?_)
    · exact hend τ _ rfl (by rw [show k = l by omega]; exact hC1)
    · exfalso
      have h : (l : Int) < k := h
      omega
  | succ N ih =>
    intro l σ hl hC
    refine sg_tx41 k l hC.1 ⟨by omega, by omega, trivial⟩ ?_
    intro τ y hB1 hF1 _ _ _ _
    refine Ok.ic rfl rfl (by omega) (by omega) (by omega) (by omega) (fun h => ?_) (fun h => ?_)
    · exfalso
      have h : (k : Int) ≤ l := h
      omega
    · refine sg_tx44 k l hB1 ⟨by omega, by omega, trivial⟩ ?_
      intro τ2 y hB2 hF2 _ _ _ _
      refine Ok.ast (n := 32) rfl rfl rfl (by decide) (by omega) (by omega) ?_
      have hB3 : an_GB pm_B (put τ2 116 ((l : Int)).toNat (Int32.ofInt (y 2))) := put_GB hB2 (ai_rng _)
      refine sg_tx54 k l hB3 ⟨by omega, by omega, trivial⟩ ?_
      intro τ4 y4 hB4 hF4 f4 _ _ c4
      refine Ok.ast (n := 32) rfl rfl rfl (by decide) (by omega) (by omega) ?_
      have r4 : (Int32.ofInt (y4 2)).toInt = y4 2 := ti_of (by omega) (by omega)
      have hB5 : an_GB pm_B (put τ4 117 ((l : Int)).toNat (Int32.ofInt (y4 2))) := put_GB hB4 (by
        show (0 : Int) ≤ (Int32.ofInt (y4 2)).toInt ∧ (Int32.ofInt (y4 2)).toInt ≤ 400
        omega)
      refine sg_tx64 k l hB5 ⟨by omega, by omega, trivial⟩ ?_
      intro τ6 y6 hB6 hF6 f6 _ _ c6
      refine Ok.ast (n := 32) rfl rfl rfl (by decide) (by omega) (by omega) ?_
      have r6 : (Int32.ofInt (y6 2)).toInt = y6 2 := ti_of (by omega) (by omega)
      have hB7 : an_GB pm_B (put τ6 118 ((l : Int)).toNat (Int32.ofInt (y6 2))) := put_GB hB6 (by
        show (0 : Int) ≤ (Int32.ofInt (y6 2)).toInt ∧ (Int32.ofInt (y6 2)).toInt ≤ 400
        omega)
      refine sg_tx74 k l hB7 ⟨by omega, by omega, trivial⟩ ?_
      intro τ8 y8 hB8 hF8 _ _ _ _
      have ix : ((l : Int)).toNat = l := by omega
      have ix2 : ((l : Int) + 16).toNat = 16 + l := by omega
      have g117 : ∀ j, τ8.1 117 j = if j = l then σ.1 117 (16 + l) else σ.1 117 j := by
        intro j
        have base : ∀ j, τ4.1 117 j = σ.1 117 j := fun j => by rw [hF4 117 j rfl, put_nr (by decide), hF2 117 j rfl, hF1 117 j rfl]
        rw [hF8 117 j rfl, put_nr (by decide), hF6 117 j rfl, put_get, ix]
        by_cases e : j = l
        · rw [if_pos ⟨rfl, e⟩, if_pos e, ← c4.1, oI, ix2, base]
        · rw [if_neg (fun z => e z.2), if_neg e, base]
      have g118 : ∀ j, τ8.1 118 j = if j = l then σ.1 118 (16 + l) else σ.1 118 j := by
        intro j
        have base : ∀ j, τ6.1 118 j = σ.1 118 j := fun j => by rw [hF6 118 j rfl, put_nr (by decide), hF4 118 j rfl, put_nr (by decide), hF2 118 j rfl, hF1 118 j rfl]
        rw [hF8 118 j rfl, put_get, ix]
        by_cases e : j = l
        · rw [if_pos ⟨rfl, e⟩, if_pos e, ← c6.1, oI, ix2, base]
        · rw [if_neg (fun z => e z.2), if_neg e, base]
      refine ih (l + 1) τ8 (by omega) ⟨hB8, ?_, fun j hj => ?_, fun i hi => ?_⟩
      · refine hC.2.1.tr ?_
        exact FQ.tr (FQ.tr (FQ.tr (FQ.tr (FQ.tr (FQ.tr (FQ.tr (FQ.up (G := []) rfl hF1) (FQ.up (G := []) rfl hF2)) (FQ.put rfl)) (FQ.up (G := []) rfl hF4)) (FQ.put rfl)) (FQ.up (G := []) rfl hF6)) (FQ.put rfl)) (FQ.up (G := []) rfl hF8)
      · rw [g117, g118, if_neg (by omega), if_neg (by omega)]
        exact hC.2.2.1 j hj
      · rw [g117, g118]
        by_cases e : i = l
        · rw [if_pos e, if_pos e, e]
          exact hC.2.2.1 (16 + l) (by omega)
        · rw [if_neg e, if_neg e]
          exact hC.2.2.2 i (by omega)
theorem x_78 {σ1 : pm_S} {k c : Nat} (hk : k ≤ 16) (hc : c ≤ 400) (h42 : cI σ1 42 = (c : Int)) {Qz : Option Value → pm_S → Prop} (hend : ∀ (σ : pm_S) (v : Value), v.category = 1 → cpO σ1 σ c → Ok 195 111 104 [.ref 93, .int (Int32.ofInt (k : Int)), v] [] σ Qz) : ∀ (N l : Nat) (σ : pm_S), l + N = c → cpO σ1 σ l → Ok 195 111 78 [.ref 93, .int (Int32.ofInt (k : Int)), .int (Int32.ofInt (l : Int))] [] σ Qz := by
  intro N
  induction N with
  | zero =>
    intro l σ hl hC
    have e42 : cI σ 42 = c := (hC.2.1.c 42 rfl).trans h42
    refine sg_tx78 k l (cI σ 42) hC.1 ⟨by omega, by omega, by omega, trivial⟩ ⟨rfl, trivial⟩ ?_
    intro τ y hB1 hF1 _ _ _ _
    have hC1 : cpO σ1 τ l := by
      refine ⟨hB1, hC.2.1.tr (FQ.up (G := []) rfl hF1), ?_⟩
      rw [FQ.e1 hF1]
      exact hC.2.2
    refine Ok.ic rfl rfl (by omega) (by omega) (by omega) (by omega) (fun h => ?_) (fun h => ?_)
    · exact hend τ _ rfl (by rw [show c = l by omega]; exact hC1)
    · exfalso
      have h : (l : Int) < cI σ 42 := h
      omega
  | succ N ih =>
    intro l σ hl hC
    have e42 : cI σ 42 = c := (hC.2.1.c 42 rfl).trans h42
    refine sg_tx78 k l (cI σ 42) hC.1 ⟨by omega, by omega, by omega, trivial⟩ ⟨rfl, trivial⟩ ?_
    intro τ y hB1 hF1 _ _ _ _
    refine Ok.ic rfl rfl (by omega) (by omega) (by omega) (by omega) (fun h => ?_) (fun h => ?_)
    · exfalso
      have h : cI σ 42 ≤ (l : Int) := h
      omega
    · refine sg_tx82 k l hB1 ⟨by omega, by omega, trivial⟩ ?_
      intro τ4 y4 hB4 hF4 f4 _ _ c4
      refine Ok.ast (n := 800) rfl rfl rfl (by decide) (by omega) (by omega) ?_
      have r4 : (Int32.ofInt (y4 2)).toInt = y4 2 := ti_of (by omega) (by omega)
      have hB5 : an_GB pm_B (put τ4 119 ((l : Int)).toNat (Int32.ofInt (y4 2))) := put_GB hB4 (by
        show (0 : Int) ≤ (Int32.ofInt (y4 2)).toInt ∧ (Int32.ofInt (y4 2)).toInt ≤ 11
        omega)
      refine sg_tx92 k l hB5 ⟨by omega, by omega, trivial⟩ ?_
      intro τ6 y6 hB6 hF6 f6 _ _ c6
      refine Ok.ast (n := 800) rfl rfl rfl (by decide) (by omega) (by omega) ?_
      have hB7 : an_GB pm_B (put τ6 120 ((l : Int)).toNat (Int32.ofInt (y6 2))) := put_GB hB6 (ai_rng _)
      refine sg_tx102 k l hB7 ⟨by omega, by omega, trivial⟩ ?_
      intro τ8 y8 hB8 hF8 _ _ _ _
      have ix : ((l : Int)).toNat = l := by omega
      have ix2 : ((l : Int) + 400).toNat = 400 + l := by omega
      have g119 : ∀ j, τ8.1 119 j = if j = l then σ.1 119 (400 + l) else σ.1 119 j := by
        intro j
        have base : ∀ j, τ4.1 119 j = σ.1 119 j := fun j => by rw [hF4 119 j rfl, hF1 119 j rfl]
        rw [hF8 119 j rfl, put_nr (by decide), hF6 119 j rfl, put_get, ix]
        by_cases e : j = l
        · rw [if_pos ⟨rfl, e⟩, if_pos e, ← c4.1, oI, ix2, base]
        · rw [if_neg (fun z => e z.2), if_neg e, base]
      have g120 : ∀ j, τ8.1 120 j = if j = l then σ.1 120 (400 + l) else σ.1 120 j := by
        intro j
        have base : ∀ j, τ6.1 120 j = σ.1 120 j := fun j => by rw [hF6 120 j rfl, put_nr (by decide), hF4 120 j rfl, hF1 120 j rfl]
        rw [hF8 120 j rfl, put_get, ix]
        by_cases e : j = l
        · rw [if_pos ⟨rfl, e⟩, if_pos e, ← c6.1, oI, ix2, base]
        · rw [if_neg (fun z => e z.2), if_neg e, base]
      refine ih (l + 1) τ8 (by omega) ⟨hB8, ?_, fun j hj => ?_, fun i hi => ?_⟩
      · refine hC.2.1.tr ?_
        exact FQ.tr (FQ.tr (FQ.tr (FQ.tr (FQ.tr (FQ.up (G := []) rfl hF1) (FQ.up (G := []) rfl hF4)) (FQ.put rfl)) (FQ.up (G := []) rfl hF6)) (FQ.put rfl)) (FQ.up (G := []) rfl hF8)
      · rw [g119, g120, if_neg (by omega), if_neg (by omega)]
        exact hC.2.2.1 j hj
      · rw [g119, g120]
        by_cases e : i = l
        · rw [if_pos e, if_pos e, e]
          exact hC.2.2.1 (400 + l) (by omega)
        · rw [if_neg e, if_neg e]
          exact hC.2.2.2 i (by omega)
abbrev FTX : List (Nat × Nat) := [(93, 31), (93, 32), (93, 33), (93, 34), (93, 42), (93, 46), (93, 47), (119, 9999), (120, 9999), (93, 43), (93, 45), (121, 9999), (116, 9999), (117, 9999), (118, 9999), (93, 0), (93, 48), (93, 49), (93, 30), (93, 36)]
abbrev qText (σ : pm_S) : Option Value → pm_S → Prop := fun r τ => (∃ v : Int32, r = some (.int v)) ∧ an_GB pm_B τ ∧ FQ FTX σ τ ∧ (lwW σ → lwW τ)
theorem lwW_of {σ τ : pm_S} (hB : an_GB pm_B σ) (h36 : cI τ 36 = cI σ 36) (hL : lwP σ τ) (h : lwW σ) : lwW τ := by
  intro i hi
  rw [h36] at hi
  have g36 : 0 ≤ cI σ 36 ∧ cI σ 36 ≤ 16 := hB 93 36 (by decide)
  obtain ⟨f, n, e1, e2, e3, s, e4⟩ := h i hi
  have hr := hL.2 i (by omega)
  refine ⟨f, n, by rw [hr.2.1]; exact e1, by rw [hr.2.2]; exact e2, e3, s, ?_⟩
  rw [wR_congr n (fun j h1 h2 => hL.1 j (by omega))]
  exact e4
theorem m_text {σ : pm_S} (hB : an_GB pm_B σ) : Sp 195 111 [.ref 93] σ (qText σ) := by
  refine Sp.at rfl rfl ?_
  refine sg_tx0 _ _ rfl rfl hB ?_
  intro τ y v1 v2 hv1 hv2 hB1 hF1 _ _ _ c1
  refine Ok.cv rfl rfl rfl rfl rfl rfl rfl ?_
  refine (m_reads hB1).use (by decide) (fun r2 τ2 q2 => ?_)
  obtain ⟨rfl, hB2, hR2, -, hF2⟩ := q2
  refine sg_tx20 v1 v2 hv1 hv2 hB2 ?_
  intro τ3 y3 w1 w2 hw1 hw2 hB3 hF3 _ _ _ _
  have g3 := gB hB3
  have z42 : cI τ3 42 = 0 := ((hF3.c 42 rfl).trans (hF2.c 42 rfl)).trans c1.1
  have z43 : cI τ3 43 = 0 := ((hF3.c 43 rfl).trans (hF2.c 43 rfl)).trans c1.2.1
  refine Ok.cv rfl rfl rfl rfl rfl rfl rfl ?_
  refine (m_readText hB3 (Rd.fr [] rfl rfl rfl rfl hF3 hR2) (by omega) z43).use (by decide) (fun r4 τ4 q4 => ?_)
  obtain ⟨hB4, hF4, hL4, q4⟩ := q4
  have hF14 : FQ FTX σ τ4 := FQ.tr (FQ.tr (FQ.tr (FQ.up (G := [(93, 0), (93, 48), (93, 49), (93, 31), (93, 42), (93, 43)]) rfl hF1) (FQ.up (G := FR) rfl hF2)) (FQ.up (G := []) rfl hF3)) (hF4.up rfl)
  have same : ∀ p, p = 116 ∨ p = 117 ∨ p = 118 ∨ p = 119 ∨ p = 120 → τ3.1 p = σ.1 p := by
    intro p hp
    funext j
    rcases hp with rfl | rfl | rfl | rfl | rfl
    · rw [hF3 116 j rfl, hF2 116 j rfl, hF1 116 j rfl]
    · rw [hF3 117 j rfl, hF2 117 j rfl, hF1 117 j rfl]
    · rw [hF3 118 j rfl, hF2 118 j rfl, hF1 118 j rfl]
    · rw [hF3 119 j rfl, hF2 119 j rfl, hF1 119 j rfl]
    · rw [hF3 120 j rfl, hF2 120 j rfl, hF1 120 j rfl]
  have hL : lwP σ τ4 := by
    refine ⟨fun j hj => ?_, fun j hj => ?_⟩
    · have := hL4.1 j hj
      rw [same 119 (by omega), same 120 (by omega)] at this
      exact this
    · have := hL4.2 j hj
      rw [same 116 (by omega), same 117 (by omega), same 118 (by omega)] at this
      exact this
  have h36 : cI τ4 36 = cI σ 36 := (((hF4.c 36 rfl).trans (hF3.c 36 rfl)).trans (hF2.c 36 rfl)).trans (hF1.c 36 rfl)
  rcases q4 with rfl | ⟨k, hk, rfl, hD4⟩
  · refine sg_tx22 (-1) w1 w2 hw1 hw2 hB4 ⟨by omega, trivial⟩ ?_ ?_
    · intro τ5 y _ _ f; exfalso; omega
    · intro τ5 y hB5 hF5 _ _ _ _
      refine ⟨⟨_, rfl⟩, hB5, hF14.tr (FQ.up (G := [(93, 30), (93, 48), (93, 49)]) rfl hF5), fun hW => ?_⟩
      refine lwW_of hB ((hF5.c 36 rfl).trans h36) ⟨fun j hj => ?_, fun j hj => ?_⟩ hW
      · rw [hF5 119 j rfl, hF5 120 j rfl]; exact hL.1 j hj
      · rw [hF5 116 j rfl, hF5 117 j rfl, hF5 118 j rfl]; exact hL.2 j hj
  · refine sg_tx22 k w1 w2 hw1 hw2 hB4 ⟨by omega, trivial⟩ ?_ ?_
    · intro τ5 y hB5 hF5 _ _ _ _
      have g5 := gB hB5
      refine x_41 hk ?_ k 0 τ5 (by omega) ⟨hB5, FQ.rf _ _, fun j _ => ⟨rfl, rfl⟩, fun i hi => absurd hi (by omega)⟩
      intro τ6 v6 hv6 hC6
      have e42 : cI τ6 42 = cI τ5 42 := hC6.2.1.c 42 rfl
      refine sg_tx76 k v6 hv6 hC6.1 ⟨by omega, trivial⟩ ?_
      intro τ7 y7 hB7 hF7 _ _ _ _
      have e42' : cI τ7 42 = cI τ5 42 := (hF7.c 42 rfl).trans e42
      refine x_78 (c := (cI τ7 42).toNat) hk (by omega) (by omega) ?_ (cI τ7 42).toNat 0 τ7 (by omega) ⟨hB7, FQ.rf _ _, fun j _ => ⟨rfl, rfl⟩, fun i hi => absurd hi (by omega)⟩
      intro τ8 v8 hv8 hC8
      refine sg_tx104 k v8 hv8 hC8.1 ⟨by omega, trivial⟩ ?_
      intro τ9 y9 hB9 hF9 _ _ _ c9
      refine ⟨⟨_, rfl⟩, hB9, FQ.tr (FQ.tr (FQ.tr (FQ.tr (FQ.tr hF14 (FQ.up (G := [(93, 30), (93, 48), (93, 49)]) rfl hF5)) (hC6.2.1.up rfl)) (FQ.up (G := []) rfl hF7)) (hC8.2.1.up rfl)) (FQ.up (G := [(93, 36)]) rfl hF9), fun _ => ?_⟩
      intro i hi
      have hi' : i < k := by
        have : cI τ9 36 = (k : Int) := c9.1
        omega
      obtain ⟨f, n, e1, e2, e3, s, e4⟩ := hD4 i hi'
      have h6 := hC6.2.2.2 i hi'
      have e42n : cI τ5 42 = cI τ4 42 := hF5.c 42 rfl
      refine ⟨f, n, ?_, ?_, by omega, s, ?_⟩
      · rw [hF9 117 i rfl, hC8.2.1 117 i rfl, hF7 117 i rfl, h6.1, hF5 117 _ rfl]; exact e1
      · rw [hF9 118 i rfl, hC8.2.1 118 i rfl, hF7 118 i rfl, h6.2, hF5 118 _ rfl]; exact e2
      · rw [wR_shift (k := 400 + f) (o := τ4.1 119) (a := τ4.1 120) n (fun j hj => ?_)]
        · exact e4
        · have h8 := hC8.2.2.2 (f + j) (by omega)
          rw [hF9 119 _ rfl, hF9 120 _ rfl, h8.1, h8.2, hF7 119 _ rfl, hF7 120 _ rfl, hC6.2.1 119 _ rfl, hC6.2.1 120 _ rfl, hF5 119 _ rfl, hF5 120 _ rfl, show 400 + (f + j) = 400 + f + j by omega]
          exact ⟨rfl, rfl⟩
    · intro τ5 y _ _ f; exfalso; omega
