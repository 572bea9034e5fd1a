/-! the class's tokens: what they come to -/
theorem Ok.cvr {k D idx : Nat} {M : pm_M} {L st : List Value} {σ : pm_S} {Q : Option Value → pm_S → Prop} {pc ln x y : Nat} {zs : List Nat} (hM : pm_nth pm_tab k = some M) {off : Nat} (hi : pm_nth M.2.2.2.2.2 idx = some (pc, .invokevirtual off, ln, x, y, zs)) {r : Nat} {As rest : List Value} (hx : Nat.ble x 255 = true) (hp : pm_pop y [] st = some (As, .retAddr r :: rest)) (hc : Nat.ble (pm_cs rest) 8 = true) (hr : Nat.ble r 1 = true) (hz : zs = [15]) (h : Sp x D (.retAddr r :: As) σ (fun r τ => Ok k (D + 1) (idx + 1) L (pm_rv r rest) τ Q)) : Ok k (D + 1) idx L st σ Q := by
  refine Ok.one (by rw [← pm_nth_eq]; exact hM) hi ?_
  unfold pm_go
  dsimp only
  unfold pm_gcV
  rw [hx]
  dsimp only
  rw [hp]
  dsimp only
  rw [hc]
  dsimp only
  rw [hr, hz]
  exact h
abbrev ch_S (j : Nat) : an_S := (250, 6, [(3, 0, 0, 0), (1, 0, (j : Int), (j : Int))], [], (1, wt (j + 1), wt (j + 1)), [], [])
theorem ch_ok : ∀ j, j < 79 → an_chk pm_B [] [] [] (ch_S j) 200 = true := by decide +kernel
theorem wt_r : ∀ j, j < 80 → 0 ≤ wt j ∧ wt j ≤ 255 := by decide +kernel
theorem x_ch {σ : pm_S} (j : Nat) (hj : j < 79) (hB : an_GB pm_B σ) : Sp 250 6 [.retAddr 0, .int (Int32.ofInt (j : Int))] σ (fun r τ => r = some (.int (Int32.ofInt (wt (j + 1)))) ∧ an_GB pm_B τ ∧ FQ [] σ τ) :=
  ((an_sum (T := []) (S := []) (H := []) (e := ch_S j) (f := 200) (fun _ h => absurd h List.not_mem_nil) (ch_ok j hj)) σ [.retAddr 0, .int (Int32.ofInt (j : Int))] hB ⟨rfl, sgI (Int.le_refl _) (Int.le_refl _) (by omega) (by omega), trivial⟩ (fun _ h => absurd h List.not_mem_nil)).mono (fun r τ q => by
    obtain ⟨w, e, a, b⟩ := q.2.1
    have e2 : w.toInt = wt (j + 1) := Int.le_antisymm b a
    refine ⟨?_, q.1, q.2.2.1⟩
    rw [e, ← e2, oI])
theorem ts_L_i (c : Int) : ts_L c = true ↔ ((97 ≤ c ∧ c ≤ 122) ∨ (65 ≤ c ∧ c ≤ 90)) := by
  unfold ts_L
  simp only [Bool.or_eq_true, Bool.and_eq_true, decide_eq_true_eq]
theorem ts_D_i (c : Int) : ts_D c = true ↔ (48 ≤ c ∧ c ≤ 57) := by
  unfold ts_D
  simp only [Bool.and_eq_true, decide_eq_true_eq]
theorem ts_W_i (c : Int) : ts_W c = true ↔ (c = 32 ∨ c = 10) := by
  unfold ts_W
  simp only [Bool.or_eq_true, decide_eq_true_eq]
/-- the tape -/
abbrev pt_B (tp : Nat → Int) (n : Nat) (σ : pm_S) : Prop := n ≤ 400 ∧ sI σ 67 2 = (n : Int) ∧ (∀ j, j < n → sI σ 68 j = tp j) ∧ ∀ j, j < n → 0 ≤ tp j ∧ tp j ≤ 255
theorem pt_B.fq {tp : Nat → Int} {n : Nat} {σ τ : pm_S} (h : pt_B tp n σ) {G : List (Nat × Nat)} (hG : (an_inF G 67 2 || an_inP G 68) = false) (F : FQ G σ τ) : pt_B tp n τ := by
  rw [Bool.or_eq_false_iff] at hG
  exact ⟨h.1, (congrArg Int32.toInt (F 67 2 hG.1)).trans h.2.1, fun j hj => (congrArg Int32.toInt (F 68 j (an_inP_ok hG.2 j))).trans (h.2.2.1 j hj), h.2.2.2⟩
section TOKC
variable {tp : Nat → Int} {n : Nat}
theorem ts_b_r {σ : pm_S} (hb : pt_B tp n σ) (p : Nat) : (-1) ≤ ts_b tp n p ∧ ts_b tp n p ≤ 255 := by
  unfold ts_b
  split
  · rename_i c
    have := hb.2.2.2 p c
    omega
  · decide
set_option maxRecDepth 20000 in
theorem x_byt {σ : pm_S} (p : Nat) (hB : an_GB pm_B σ) (hb : pt_B tp n σ) (hp : p ≤ 400) : Sp 40 4 [.ref 67, .int (Int32.ofInt (p : Int))] σ (fun r τ => r = some (.int (Int32.ofInt (ts_b tp n p))) ∧ an_GB pm_B τ ∧ FQ [] σ τ) := by
  have hn := hb.1
  refine Sp.at rfl rfl ?_
  refine pz_b0 p n hB ⟨by omega, by omega, trivial⟩ ⟨hb.2.1, trivial⟩ ?_
  intro τ y hB1 F1 _ _ _ _
  refine Ok.ic rfl rfl (by omega) (by omega) (by omega) (by omega) (fun z => ?_) (fun z => ?_)
  · have z : (n : Int) ≤ (p : Int) := z
    refine pz_b14 p hB1 ⟨by omega, trivial⟩ ?_
    intro τ2 y2 hB2 F2 _ _ _ _
    have e : ts_b tp n p = -1 := if_neg (by omega)
    rw [e]
    exact ⟨rfl, hB2, FQ.tr F1 F2⟩
  · have z : (p : Int) < (n : Int) := z
    refine pz_b6 p hB1 ⟨by omega, trivial⟩ ?_
    intro τ2 y2 hB2 F2 _ _ _ c2
    have e : ts_b tp n p = tp p := if_pos (by omega)
    have e2 : y2 1 = tp p := by
      rw [← c2.1, Int.toNat_natCast, (FQ.tr F1 F2) 68 p rfl]
      exact hb.2.2.1 p (by omega)
    rw [e, ← e2]
    exact ⟨rfl, hB2, FQ.tr F1 F2⟩
theorem ts_e_y {f : Int → Bool} (hf : f (-1) = false) {p : Nat} (h : f (ts_b tp n p) = true) : ts_e tp n f p = ts_e tp n f (p + 1) := by
  rw [ts_e_s hf p, if_pos h]
theorem ts_e_n {f : Int → Bool} (hf : f (-1) = false) {p : Nat} (h : ¬ f (ts_b tp n p) = true) : ts_e tp n f p = p := by
  rw [ts_e_s hf p, if_neg h]
set_option maxRecDepth 20000 in
theorem x_bll {Q : Option Value → pm_S → Prop} (a : Nat) (ha : a ≤ 400) : ∀ (k p m : Nat) (τ : pm_S), n - p < k → p ≤ n → m ≤ p → an_GB pm_B τ → pt_B tp n τ → (∀ τ' : pm_S, an_GB pm_B τ' → FQ [] τ τ' → Q (some (.int (Int32.ofInt ((ts_e tp n ts_L p : Nat) : Int)))) τ') → Ok 44 6 4 [.ref 67, .int (Int32.ofInt (a : Int)), .int (Int32.ofInt (p : Int)), .int (Int32.ofInt (m : Int))] [] τ Q := by
  intro k
  induction k with
  | zero => intro p m τ hk; exact absurd hk (Nat.not_lt_zero _)
  | succ k ih =>
    intro p m τ hk hp hm hB hb hQ
    have hn := hb.1
    have hr := ts_b_r hb p
    have stop : ∀ τ1 : pm_S, an_GB pm_B τ1 → FQ [] τ τ1 → ¬ ts_L (ts_b tp n p) = true → Q (some (.int (Int32.ofInt (p : Int)))) τ1 := fun τ1 hB1 F1 c => by
      have q := hQ τ1 hB1 F1
      rw [ts_e_n rfl c] at q
      exact q
    have go : ∀ τ1 : pm_S, an_GB pm_B τ1 → FQ [] τ τ1 → ts_L (ts_b tp n p) = true → Ok 44 6 4 [.ref 67, .int (Int32.ofInt (a : Int)), .int (Int32.ofInt ((p : Int) + 1)), .int (Int32.ofInt ((m : Int) + 1))] [] τ1 Q := fun τ1 hB1 F1 c => by
      have pn : p < n := by
        rcases Nat.lt_or_ge p n with x | x
        · exact x
        · have e : ts_b tp n p = -1 := if_neg (by omega)
          rw [e] at c
          exact absurd c (by decide)
      refine ih (p + 1) (m + 1) τ1 (by omega) (by omega) (by omega) hB1 (hb.fq (G := []) rfl F1) (fun τ' hB' F' => ?_)
      rw [← ts_e_y rfl c]
      exact hQ τ' hB' (FQ.tr F1 F')
    refine pz_l4 a p m hB ⟨by omega, by omega, by omega, trivial⟩ ?_ ?_
    · intro τ1 y1 hB1 F1 g _ _ _
      have g2 := g.2.2.1
      have e : ts_b tp n p = -1 := if_neg (by omega)
      exact stop τ1 hB1 F1 (by rw [e]; decide)
    · intro τ1 y1 hB1 F1 g _ _ _
      refine Ok.cv rfl rfl rfl rfl rfl rfl rfl ?_
      refine (x_byt p hB1 (hb.fq (G := []) rfl F1) (by omega)).use (by decide) (fun r τ2 q => ?_)
      obtain ⟨rfl, hB2, F2⟩ := q
      refine pz_l10 a p m (ts_b tp n p) hB2 ⟨by omega, by omega, g.2.2.1, hr, trivial⟩ ?_ ?_ ?_ ?_ ?_
      · intro τ3 y3 hB3 F3 g3 _ _ _
        have g4 := g3.2.2.2.1
        exact stop τ3 hB3 (FQ.tr (FQ.tr F1 F2) F3) (by rw [ts_L_i]; omega)
      · intro τ3 y3 hB3 F3 g3 _ _ _
        have g4 := g3.2.2.2.1
        exact stop τ3 hB3 (FQ.tr (FQ.tr F1 F2) F3) (by rw [ts_L_i]; omega)
      · intro τ3 y3 hB3 F3 g3 _ _ _
        have g4 := g3.2.2.2.1
        exact go τ3 hB3 (FQ.tr (FQ.tr F1 F2) F3) (by rw [ts_L_i]; omega)
      · intro τ3 y3 hB3 F3 g3 _ _ _
        have g4 := g3.2.2.2.1
        exact go τ3 hB3 (FQ.tr (FQ.tr F1 F2) F3) (by rw [ts_L_i]; omega)
      · intro τ3 y3 hB3 F3 g3 _ _ _
        have g4 := g3.2.2.2.1
        exact stop τ3 hB3 (FQ.tr (FQ.tr F1 F2) F3) (by rw [ts_L_i]; omega)
theorem x_bl {σ : pm_S} (p : Nat) (hB : an_GB pm_B σ) (hb : pt_B tp n σ) (hp : p ≤ n) : Sp 44 6 [.ref 67, .int (Int32.ofInt (p : Int))] σ (fun r τ => r = some (.int (Int32.ofInt ((ts_e tp n ts_L p : Nat) : Int))) ∧ an_GB pm_B τ ∧ FQ [] σ τ) := by
  have hn := hb.1
  refine Sp.at rfl rfl ?_
  refine pz_l0 p _ _ rfl rfl hB ⟨by omega, trivial⟩ ?_
  intro τ y hB1 F1 _ _ _ _
  exact x_bll p (by omega) (n + 1) p 0 τ (by omega) hp (by omega) hB1 (hb.fq (G := []) rfl F1) (fun τ' hB' F' => ⟨rfl, hB', FQ.tr F1 F'⟩)
set_option maxRecDepth 20000 in
theorem x_bdl {Q : Option Value → pm_S → Prop} (a : Nat) (ha : a ≤ 400) : ∀ (k p m : Nat) (τ : pm_S), n - p < k → p ≤ n → m ≤ p → an_GB pm_B τ → pt_B tp n τ → (∀ τ' : pm_S, an_GB pm_B τ' → FQ [] τ τ' → Q (some (.int (Int32.ofInt ((ts_e tp n ts_D p : Nat) : Int)))) τ') → Ok 45 6 4 [.ref 67, .int (Int32.ofInt (a : Int)), .int (Int32.ofInt (p : Int)), .int (Int32.ofInt (m : Int))] [] τ Q := by
  intro k
  induction k with
  | zero => intro p m τ hk; exact absurd hk (Nat.not_lt_zero _)
  | succ k ih =>
    intro p m τ hk hp hm hB hb hQ
    have hn := hb.1
    have hr := ts_b_r hb p
    have stop : ∀ τ1 : pm_S, an_GB pm_B τ1 → FQ [] τ τ1 → ¬ ts_D (ts_b tp n p) = true → Q (some (.int (Int32.ofInt (p : Int)))) τ1 := fun τ1 hB1 F1 c => by
      have q := hQ τ1 hB1 F1
      rw [ts_e_n rfl c] at q
      exact q
    have go : ∀ τ1 : pm_S, an_GB pm_B τ1 → FQ [] τ τ1 → ts_D (ts_b tp n p) = true → Ok 45 6 4 [.ref 67, .int (Int32.ofInt (a : Int)), .int (Int32.ofInt ((p : Int) + 1)), .int (Int32.ofInt ((m : Int) + 1))] [] τ1 Q := fun τ1 hB1 F1 c => by
      have pn : p < n := by
        rcases Nat.lt_or_ge p n with x | x
        · exact x
        · have e : ts_b tp n p = -1 := if_neg (by omega)
          rw [e] at c
          exact absurd c (by decide)
      refine ih (p + 1) (m + 1) τ1 (by omega) (by omega) (by omega) hB1 (hb.fq (G := []) rfl F1) (fun τ' hB' F' => ?_)
      rw [← ts_e_y rfl c]
      exact hQ τ' hB' (FQ.tr F1 F')
    refine pz_d4 a p m hB ⟨by omega, by omega, by omega, trivial⟩ ?_ ?_
    · intro τ1 y1 hB1 F1 g _ _ _
      have g2 := g.2.2.1
      have e : ts_b tp n p = -1 := if_neg (by omega)
      exact stop τ1 hB1 F1 (by rw [e]; decide)
    · intro τ1 y1 hB1 F1 g _ _ _
      refine Ok.cv rfl rfl rfl rfl rfl rfl rfl ?_
      refine (x_byt p hB1 (hb.fq (G := []) rfl F1) (by omega)).use (by decide) (fun r τ2 q => ?_)
      obtain ⟨rfl, hB2, F2⟩ := q
      refine pz_d10 a p m (ts_b tp n p) hB2 ⟨by omega, by omega, g.2.2.1, hr, trivial⟩ ?_ ?_ ?_
      · intro τ3 y3 hB3 F3 g3 _ _ _
        have g4 := g3.2.2.2.1
        exact stop τ3 hB3 (FQ.tr (FQ.tr F1 F2) F3) (by rw [ts_D_i]; omega)
      · intro τ3 y3 hB3 F3 g3 _ _ _
        have g4 := g3.2.2.2.1
        exact stop τ3 hB3 (FQ.tr (FQ.tr F1 F2) F3) (by rw [ts_D_i]; omega)
      · intro τ3 y3 hB3 F3 g3 _ _ _
        have g4 := g3.2.2.2.1
        exact go τ3 hB3 (FQ.tr (FQ.tr F1 F2) F3) (by rw [ts_D_i]; omega)
theorem x_bd {σ : pm_S} (p : Nat) (hB : an_GB pm_B σ) (hb : pt_B tp n σ) (hp : p ≤ n) : Sp 45 6 [.ref 67, .int (Int32.ofInt (p : Int))] σ (fun r τ => r = some (.int (Int32.ofInt ((ts_e tp n ts_D p : Nat) : Int))) ∧ an_GB pm_B τ ∧ FQ [] σ τ) := by
  have hn := hb.1
  refine Sp.at rfl rfl ?_
  refine pz_d0 p _ _ rfl rfl hB ⟨by omega, trivial⟩ ?_
  intro τ y hB1 F1 _ _ _ _
  exact x_bdl p (by omega) (n + 1) p 0 τ (by omega) hp (by omega) hB1 (hb.fq (G := []) rfl F1) (fun τ' hB' F' => ⟨rfl, hB', FQ.tr F1 F'⟩)
/-- is what stands at a the keyword from b0 to e0? -/
abbrev isK (tp : Nat → Int) (n a b0 e0 : Nat) : Prop := ∀ j, j < e0 - b0 → ts_b tp n (a + j) = wt (b0 + 1 + j)
set_option maxRecDepth 20000 in
theorem x_ikl {Q : Option Value → pm_S → Prop} (a b0 e0 : Nat) (he : b0 ≤ e0) (he2 : e0 ≤ 78) (ha : a + (e0 - b0) ≤ 400) : ∀ (k i : Nat) (τ : pm_S), e0 - i < k → b0 ≤ i → i ≤ e0 → an_GB pm_B τ → pt_B tp n τ → (∀ j, j < i - b0 → ts_b tp n (a + j) = wt (b0 + 1 + j)) → (∀ (τ' : pm_S) (v : Int), an_GB pm_B τ' → FQ [] τ τ' → (v = 1 ∧ isK tp n a b0 e0 ∨ v = 0 ∧ ¬ isK tp n a b0 e0) → Q (some (.int (Int32.ofInt v))) τ') → Ok 47 7 2 [.ref 67, .int (Int32.ofInt (a : Int)), .int (Int32.ofInt (b0 : Int)), .int (Int32.ofInt (e0 : Int)), .int (Int32.ofInt (i : Int))] [] τ Q := by
  intro k
  induction k with
  | zero => intro i τ hk; exact absurd hk (Nat.not_lt_zero _)
  | succ k ih =>
    intro i τ hk hi1 hi2 hB hb hj hQ
    refine pz_k2 a b0 e0 i hB ⟨by omega, by omega, by omega, by omega, trivial⟩ ?_
    intro τ1 y1 hB1 F1 _ _ _ _
    refine Ok.ic rfl rfl (by omega) (by omega) (by omega) (by omega) (fun z => ?_) (fun z => ?_)
    · have z : (e0 : Int) ≤ (i : Int) := z
      refine pz_k24 a b0 e0 i hB1 ⟨by omega, by omega, by omega, by omega, trivial⟩ ?_
      intro τ2 y2 hB2 F2 _ _ _ _
      refine hQ τ2 1 hB2 (FQ.tr F1 F2) (Or.inl ⟨rfl, fun j h => hj j (by omega)⟩)
    · have z : (i : Int) < (e0 : Int) := z
      refine pz_k5 a b0 e0 i hB1 ⟨by omega, by omega, by omega, by omega, trivial⟩ ?_
      intro τ2 y2 hB2 F2 g2 _ d2 _
      have g4 := g2.2.2.2.2.1
      have s1 := addC (by omega) (by omega) d2.1
      have s2 := subC (by omega) (by omega) d2.2.1
      have e : y2 5 = ((a + (i - b0) : Nat) : Int) := by omega
      rw [e]
      refine Ok.cv rfl rfl rfl rfl rfl rfl rfl ?_
      have hb2 : pt_B tp n τ2 := hb.fq (G := []) rfl (FQ.tr F1 F2)
      have hr := ts_b_r hb2 (a + (i - b0))
      refine (x_byt (a + (i - b0)) hB2 hb2 (by omega)).use (by decide) (fun r τ3 q => ?_)
      obtain ⟨rfl, hB3, F3⟩ := q
      refine pz_k16 a b0 e0 i (ts_b tp n (a + (i - b0))) hB3 ⟨by omega, by omega, by omega, by omega, hr, trivial⟩ ?_
      intro τ4 y4 hB4 F4 _ _ _ _
      refine Ok.cvr rfl rfl rfl rfl rfl rfl rfl ?_
      refine (x_ch i (by omega) hB4).use (by decide) (fun r τ5 q => ?_)
      obtain ⟨rfl, hB5, F5⟩ := q
      have wr := wt_r (i + 1) (by omega)
      have G5 : FQ [] τ τ5 := FQ.tr (FQ.tr (FQ.tr F1 F2) F3) (FQ.tr F4 F5)
      have iw : b0 + 1 + (i - b0) = i + 1 := by omega
      refine Ok.ic rfl rfl (by omega) (by omega) (by omega) (by omega) (fun z2 => ?_) (fun z2 => ?_)
      · have z2 : ts_b tp n (a + (i - b0)) = wt (i + 1) := z2
        refine pz_k22 a b0 e0 i hB5 ⟨by omega, by omega, by omega, by omega, trivial⟩ ?_
        intro τ6 y6 hB6 F6 _ _ _ _
        have G6 := FQ.tr G5 F6
        refine ih (i + 1) τ6 (by omega) (by omega) (by omega) hB6 (hb.fq (G := []) rfl G6) (fun j h => ?_) (fun τ' v hB' F' hv => hQ τ' v hB' (FQ.tr G6 F') hv)
        by_cases e6 : j = i - b0
        · rw [e6, iw]
          exact z2
        · exact hj j (by omega)
      · have z2 : ts_b tp n (a + (i - b0)) ≠ wt (i + 1) := z2
        refine pz_k20 a b0 e0 i hB5 ⟨by omega, by omega, by omega, by omega, trivial⟩ ?_
        intro τ6 y6 hB6 F6 _ _ _ _
        refine hQ τ6 0 hB6 (FQ.tr G5 F6) (Or.inr ⟨rfl, fun h => z2 ?_⟩)
        have h2 := h (i - b0) (by omega)
        rw [iw] at h2
        exact h2
theorem x_isk {σ : pm_S} (a b0 e0 : Nat) (he : b0 ≤ e0) (he2 : e0 ≤ 78) (ha : a + (e0 - b0) ≤ 400) (hB : an_GB pm_B σ) (hb : pt_B tp n σ) : Sp 47 7 [.ref 67, .int (Int32.ofInt (a : Int)), .int (Int32.ofInt (b0 : Int)), .int (Int32.ofInt (e0 : Int))] σ (fun r τ => ∃ v : Int, r = some (.int (Int32.ofInt v)) ∧ (v = 1 ∧ isK tp n a b0 e0 ∨ v = 0 ∧ ¬ isK tp n a b0 e0) ∧ an_GB pm_B τ ∧ FQ [] σ τ) := by
  refine Sp.at rfl rfl ?_
  refine pz_k0 a b0 e0 _ rfl hB ⟨by omega, by omega, by omega, trivial⟩ ?_
  intro τ y hB1 F1 _ _ _ _
  exact x_ikl a b0 e0 he he2 ha (e0 - b0 + 1) b0 τ (by omega) (by omega) he hB1 (hb.fq (G := []) rfl F1) (fun j h => absurd h (by omega)) (fun τ' v hB' F' hv => ⟨v, rfl, hv, hB', FQ.tr F1 F'⟩)
theorem ts_m_i {k a b : Nat} : ts_m tp k a b = true ↔ (∀ j, j < b - a → wt (k + 1 + j) = tp (a + j)) ∧ wt (k + 1 + (b - a)) = 32 := by
  unfold ts_m
  rw [Bool.and_eq_true, List.all_eq_true, decide_eq_true_eq]
  simp only [List.mem_range, decide_eq_true_eq]
theorem wk_skip {a b k : Nat} (hk : k < 79) (h : wt k ≠ 32) : ts_wk tp a b (79 - k) k = ts_wk tp a b (79 - (k + 1)) (k + 1) := by
  obtain ⟨m, hm⟩ : ∃ m, 79 - k = m + 1 := ⟨79 - k - 1, by omega⟩
  rw [hm, show 79 - (k + 1) = m by omega]
  show (if (decide (wt k = 32) && ts_m tp k a b) = true then bl k else ts_wk tp a b m (k + 1)) = _
  rw [if_neg (by rw [decide_eq_false h, Bool.false_and]; decide)]
theorem wk_skips {a b : Nat} : ∀ (d k : Nat), k + d ≤ 79 → (∀ j, k ≤ j → j < k + d → wt j ≠ 32) → ts_wk tp a b (79 - k) k = ts_wk tp a b (79 - (k + d)) (k + d)
  | 0, k, _, _ => rfl
  | d + 1, k, hk, h => by
    rw [wk_skip (by omega) (h k (Nat.le_refl k) (by omega)), wk_skips d (k + 1) (by omega) (fun j h1 h2 => h j (by omega) (by omega)), show k + 1 + d = k + (d + 1) by omega]
theorem wk_at {a b b0 i : Nat} (h1 : b0 ≤ i) (h2 : i < 79) (hw : wt b0 = 32) (hg : ∀ j, b0 < j → j ≤ i → wt j ≠ 32) : ts_wk tp a b (79 - b0) b0 = if ts_m tp b0 a b = true then bl b0 else ts_wk tp a b (79 - (i + 1)) (i + 1) := by
  obtain ⟨m, hm⟩ : ∃ m, 79 - b0 = m + 1 := ⟨79 - b0 - 1, by omega⟩
  have e : ts_wk tp a b (79 - (b0 + 1)) (b0 + 1) = ts_wk tp a b (79 - (b0 + 1 + (i - b0))) (b0 + 1 + (i - b0)) := wk_skips (i - b0) (b0 + 1) (by omega) (fun j h3 h4 => hg j (by omega) (by omega))
  rw [show b0 + 1 + (i - b0) = i + 1 by omega, show 79 - (b0 + 1) = m by omega] at e
  rw [hm, ← e]
  show (if (decide (wt b0 = 32) && ts_m tp b0 a b) = true then bl b0 else ts_wk tp a b m (b0 + 1)) = _
  rw [decide_eq_true hw, Bool.true_and]
theorem bl_s (k : Nat) : bl (k + 1) = bl k + (if wt k = 32 then 1 else 0) := rfl
theorem bl_gap {b0 : Nat} (hw : wt b0 = 32) : ∀ d, (∀ j, b0 < j → j ≤ b0 + d → wt j ≠ 32) → bl (b0 + d + 1) = bl b0 + 1
  | 0, _ => by
    show bl b0 + (if wt b0 = 32 then 1 else 0) = bl b0 + 1
    rw [if_pos hw]
  | d + 1, h => by
    rw [bl_s, if_neg (h (b0 + (d + 1)) (by omega) (Nat.le_refl _)), Int.add_zero]
    exact bl_gap hw d (fun j h1 h2 => h j h1 (by omega))
/-- the word's token -/
abbrev wTok (w : Int) : Int := if w = -1 then -27 else -1 - w
theorem ne_m1 {w : Int} (h : 0 ≤ w) : w ≠ -1 := by omega
theorem wTok_n {w : Int} (h : w ≠ -1) : wTok w = -1 - w := if_neg h
set_option maxRecDepth 20000 in
theorem x_wtl {Q : Option Value → pm_S → Prop} (a b : Nat) (hab : a ≤ b) (hbn : b ≤ n) (hl : ∀ j, a ≤ j → j < b → tp j ≠ 32) : ∀ (k b0 i : Nat) (τ : pm_S), 79 - i < k → b0 ≤ i → i ≤ 79 → wt b0 = 32 → (∀ j, b0 < j → j ≤ i → wt j ≠ 32) → ts_w tp a b = ts_wk tp a b (79 - b0) b0 → an_GB pm_B τ → pt_B tp n τ → (∀ τ' : pm_S, an_GB pm_B τ' → FQ [] τ τ' → Q (some (.int (Int32.ofInt (wTok (ts_w tp a b))))) τ') → Ok 46 9 6 [.ref 67, .int (Int32.ofInt (a : Int)), .int (Int32.ofInt (b : Int)), .int (Int32.ofInt (bl b0)), .int (Int32.ofInt (b0 : Int)), .int (Int32.ofInt (i : Int))] [] τ Q := by
  intro k
  induction k with
  | zero => intro b0 i τ hk; exact absurd hk (Nat.not_lt_zero _)
  | succ k ih =>
    intro b0 i τ hk h1 h2 hw hg hs hB hb hQ
    have hn := hb.1
    have b15 := bl_15 b0 (by omega)
    refine pz_w6 a b (bl b0) b0 i hB ⟨by omega, by omega, b15, by omega, by omega, trivial⟩ ?_ ?_
    · intro τ1 y1 hB1 F1 g _ _ _
      have g5 := g.2.2.2.2.1
      have e79 : b0 = 79 := by
        by_cases e : b0 = 79
        · exact e
        · exact absurd wt_79 (hg 79 (by omega) (by omega))
      have q := hQ τ1 hB1 F1
      rw [hs, e79] at q
      exact q
    · intro τ1 y1 hB1 F1 g _ _ _
      have g5 := g.2.2.2.2.1
      have b14 := bl_14 b0 (by omega) hw
      refine Ok.cvr rfl rfl rfl rfl rfl rfl rfl ?_
      refine (x_ch i (by omega) hB1).use (by decide) (fun r τ2 q => ?_)
      obtain ⟨rfl, hB2, F2⟩ := q
      have wr := wt_r (i + 1) (by omega)
      refine pz_w13 a b (bl b0) b0 i (wt (i + 1)) hB2 ⟨by omega, by omega, b15, by omega, by omega, wr, trivial⟩ ?_ ?_
      · intro τ3 y3 hB3 F3 _ rl _ _
        have G3 := FQ.tr (FQ.tr F1 F2) F3
        refine ih b0 (i + 1) τ3 (by omega) (by omega) (by omega) hw (fun j h3 h4 => ?_) hs hB3 (hb.fq (G := []) rfl G3) (fun τ' hB' F' => hQ τ' hB' (FQ.tr G3 F'))
        by_cases e : j = i + 1
        · rw [e]
          exact rl.1
        · exact hg j h3 (by omega)
      · intro τ3 y3 hB3 F3 g3 _ d3 _
        have G3 := FQ.tr (FQ.tr F1 F2) F3
        have w32 : wt (i + 1) = 32 := by
          have := g3.2.2.2.2.2.1
          omega
        have s1 := subC (by omega) (by omega) d3.1
        have s2 := subC (by omega) (by omega) d3.2.1
        have eb : bl (i + 1) = bl b0 + 1 := by
          have := bl_gap hw (i - b0) (fun j h3 h4 => hg j h3 (by omega))
          rw [show b0 + (i - b0) + 1 = i + 1 by omega] at this
          exact this
        have at2 := wk_at (tp := tp) (a := a) (b := b) h1 (show i < 79 by omega) hw hg
        -- on to the next word
        have next : ∀ τ4 : pm_S, an_GB pm_B τ4 → FQ [] τ τ4 → ¬ ts_m tp b0 a b = true → Ok 46 9 6 [.ref 67, .int (Int32.ofInt (a : Int)), .int (Int32.ofInt (b : Int)), .int (Int32.ofInt (bl b0 + 1)), .int (Int32.ofInt ((i : Int) + 1)), .int (Int32.ofInt ((i : Int) + 1))] [] τ4 Q := by
          intro τ4 hB4 G4 hm
          rw [if_neg hm] at at2
          rw [← eb]
          exact ih (i + 1) (i + 1) τ4 (by omega) (Nat.le_refl _) (by omega) w32 (fun j h3 h4 => absurd h3 (by omega)) (hs.trans at2) hB4 (hb.fq (G := []) rfl G4) (fun τ' hB' F' => hQ τ' hB' (FQ.tr G4 F'))
        refine Ok.ic rfl rfl (by omega) (by omega) (by omega) (by omega) (fun z => ?_) (fun z => ?_)
        · have z : y3 6 ≠ y3 7 := z
          refine pz_w32 a b (bl b0) b0 i hB3 ⟨by omega, by omega, b14, by omega, by omega, trivial⟩ ?_
          intro τ4 y4 hB4 F4 _ _ _ _
          refine next τ4 hB4 (FQ.tr G3 F4) (fun hm => ?_)
          have m2 := ts_m_i.mp hm
          rcases Nat.lt_or_ge (b - a) (i - b0) with x | x
          · exact hg (b0 + 1 + (b - a)) (by omega) (by omega) m2.2
          · have x2 : i - b0 < b - a := by omega
            have m3 := m2.1 (i - b0) x2
            rw [show b0 + 1 + (i - b0) = i + 1 by omega, w32] at m3
            exact hl (a + (i - b0)) (by omega) (by omega) m3.symm
        · have z : y3 6 = y3 7 := z
          refine pz_w22 a b (bl b0) b0 i hB3 ⟨by omega, by omega, b15, by omega, by omega, trivial⟩ ?_
          intro τ4 y4 hB4 F4 _ _ _ _
          have G4 := FQ.tr G3 F4
          refine Ok.cv rfl rfl rfl rfl rfl rfl rfl ?_
          refine (x_isk a b0 i h1 (by omega) (by omega) hB4 (hb.fq (G := []) rfl G4)).use (by decide) (fun r τ5 q => ?_)
          obtain ⟨v, rfl, hv, hB5, F5⟩ := q
          have G5 := FQ.tr G4 F5
          have km : isK tp n a b0 i ↔ ts_m tp b0 a b = true := by
            rw [ts_m_i]
            refine ⟨fun h => ⟨fun j hj => ?_, by rw [show b0 + 1 + (b - a) = i + 1 by omega]; exact w32⟩, fun h j hj => ?_⟩
            · have := h j (by omega)
              rw [← this]
              exact if_pos (by omega)
            · rw [h.1 j (by omega)]
              exact if_pos (by omega)
          refine pz_w27 a b (bl b0) b0 i v hB5 ⟨by omega, by omega, b14, by omega, by omega, by omega, trivial⟩ ?_ ?_
          · intro τ6 y6 hB6 F6 g6 _ _ _
            have g7 := g6.2.2.2.2.2.1
            refine next τ6 hB6 (FQ.tr G5 F6) (fun hm => ?_)
            rcases hv with ⟨v1, _⟩ | ⟨_, v2⟩
            · omega
            · exact v2 (km.mpr hm)
          · intro τ6 y6 hB6 F6 g6 _ d6 _
            have g7 := g6.2.2.2.2.2.1
            have s3 := subC (by decide) (by omega) d6.1
            have hm : ts_m tp b0 a b = true := by
              rcases hv with ⟨_, v2⟩ | ⟨v1, _⟩
              · exact km.mp v2
              · omega
            rw [if_pos hm] at at2
            have q := hQ τ6 hB6 (FQ.tr G5 F6)
            have e1 : ts_w tp a b = bl b0 := hs.trans at2
            have e : wTok (ts_w tp a b) = y6 6 := by
              have b0r : bl b0 ≠ -1 := ne_m1 b14.1
              rw [e1, s3]
              exact wTok_n b0r
            rw [e] at q
            exact q
theorem x_wtk {σ : pm_S} (a b : Nat) (hab : a ≤ b) (hbn : b ≤ n) (hl : ∀ j, a ≤ j → j < b → tp j ≠ 32) (hB : an_GB pm_B σ) (hb : pt_B tp n σ) : Sp 46 9 [.ref 67, .int (Int32.ofInt (a : Int)), .int (Int32.ofInt (b : Int))] σ (fun r τ => r = some (.int (Int32.ofInt (wTok (ts_w tp a b)))) ∧ an_GB pm_B τ ∧ FQ [] σ τ) := by
  have hn := hb.1
  refine Sp.at rfl rfl ?_
  refine pz_w0 a b _ _ _ rfl rfl rfl hB ⟨by omega, by omega, trivial⟩ ?_
  intro τ y hB1 F1 _ _ _ _
  exact x_wtl a b hab hbn hl 80 0 0 τ (by decide) (Nat.le_refl _) (by decide) wt_0 (fun j h3 h4 => absurd h3 (by omega)) rfl hB1 (hb.fq (G := []) rfl F1) (fun τ' hB' F' => ⟨rfl, hB', FQ.tr F1 F'⟩)
theorem pow_le4 : ∀ m : Nat, m ≤ 4 → (10 : Int) ^ m ≤ 10000 ∧ (m ≤ 3 → (10 : Int) ^ m ≤ 1000)
  | 0, _ => by decide
  | 1, _ => by decide
  | 2, _ => by decide
  | 3, _ => by decide
  | 4, _ => ⟨by decide, fun h => absurd h (by decide)⟩
  | m + 5, h => absurd h (by omega)
set_option maxRecDepth 20000 in
theorem x_ntl {Q : Option Value → pm_S → Prop} (a b : Nat) (hab : a ≤ b) (hbn : b ≤ n) (h4 : b - a ≤ 4) (hd : ∀ j, a ≤ j → j < b → 48 ≤ tp j ∧ tp j ≤ 57) : ∀ (k m : Nat) (τ : pm_S), b - a - m < k → m ≤ b - a → an_GB pm_B τ → pt_B tp n τ → (∀ τ' : pm_S, an_GB pm_B τ' → FQ [] τ τ' → Q (some (.int (Int32.ofInt (ts_v tp a (b - a))))) τ') → Ok 48 7 11 [.ref 67, .int (Int32.ofInt (a : Int)), .int (Int32.ofInt (b : Int)), .int (Int32.ofInt (ts_v tp a m)), .int (Int32.ofInt ((a + m : Nat) : Int))] [] τ Q := by
  intro k
  induction k with
  | zero => intro m τ hk; exact absurd hk (Nat.not_lt_zero _)
  | succ k ih =>
    intro m τ hk hm hB hb hQ
    have hn := hb.1
    have vr := ts_v_r (tp := tp) (a := a) m (by omega) (fun j hj => hd (a + j) (by omega) (by omega))
    have p4 := pow_le4 m (by omega)
    refine pz_n11 a b (ts_v tp a m) (a + m : Nat) hB ⟨by omega, by omega, by omega, by omega, trivial⟩ ?_
    intro τ1 y1 hB1 F1 _ _ _ _
    refine Ok.ic rfl rfl (by omega) (by omega) (by omega) (by omega) (fun z => ?_) (fun z => ?_)
    · have z : (b : Int) ≤ ((a + m : Nat) : Int) := z
      have e : m = b - a := by omega
      refine pz_n26 a b (ts_v tp a m) (a + m : Nat) hB1 ⟨by omega, by omega, by omega, by omega, trivial⟩ ?_
      intro τ2 y2 hB2 F2 _ _ _ _
      rw [e]
      exact hQ τ2 hB2 (FQ.tr F1 F2)
    · have z : ((a + m : Nat) : Int) < (b : Int) := z
      have v999 : ts_v tp a m ≤ 999 := by
        have := p4.2 (by omega)
        omega
      refine pz_n14 a b (ts_v tp a m) (a + m : Nat) hB1 ⟨by omega, by omega, by omega, by omega, trivial⟩ ?_
      intro τ2 y2 hB2 F2 g2 _ d2 _
      have s1 := mulC (by omega) (by decide) d2.1
      have G2 := FQ.tr F1 F2
      refine Ok.cv rfl rfl rfl rfl rfl rfl rfl ?_
      have hb2 : pt_B tp n τ2 := hb.fq (G := []) rfl G2
      refine (x_byt (a + m) hB2 hb2 (by omega)).use (by decide) (fun r τ3 q => ?_)
      obtain ⟨rfl, hB3, F3⟩ := q
      have eb : ts_b tp n (a + m) = tp (a + m) := if_pos (by omega)
      have d1 := hd (a + m) (by omega) (by omega)
      rw [eb]
      refine pz_n20 a b (ts_v tp a m) (a + m : Nat) (tp (a + m)) (y2 4) hB3 ⟨by omega, by omega, by omega, by omega, d1, by omega, trivial⟩ ?_
      intro τ4 y4 hB4 F4 g4 _ d4 _
      have s2 := addC (by omega) (by omega) d4.1
      have G4 := FQ.tr (FQ.tr G2 F3) F4
      have e : y4 6 + (-48) = ts_v tp a (m + 1) := by
        show _ = ts_v tp a m * 10 + tp (a + m) - 48
        omega
      rw [e]
      exact ih (m + 1) τ4 (by omega) (by omega) hB4 (hb.fq (G := []) rfl G4) (fun τ' hB' F' => hQ τ' hB' (FQ.tr G4 F'))
theorem x_ntk {σ : pm_S} (a b : Nat) (hab : a ≤ b) (hbn : b ≤ n) (hd : ∀ j, a ≤ j → j < b → 48 ≤ tp j ∧ tp j ≤ 57) (hB : an_GB pm_B σ) (hb : pt_B tp n σ) : Sp 48 7 [.ref 67, .int (Int32.ofInt (a : Int)), .int (Int32.ofInt (b : Int))] σ (fun r τ => r = some (.int (Int32.ofInt (if b - a ≤ 4 then ts_v tp a (b - a) else -27))) ∧ an_GB pm_B τ ∧ FQ [] σ τ) := by
  have hn := hb.1
  refine Sp.at rfl rfl ?_
  refine pz_n0 a b _ _ rfl rfl hB ⟨by omega, by omega, trivial⟩ ?_ ?_
  · intro τ y hB1 F1 g _ d _
    have g3 := g.2.2.1
    have s1 := subC (by omega) (by omega) d.1
    rw [if_pos (show b - a ≤ 4 by omega)]
    exact x_ntl a b hab hbn (by omega) hd (b - a + 1) 0 τ (by omega) (by omega) hB1 (hb.fq (G := []) rfl F1) (fun τ' hB' F' => ⟨rfl, hB', FQ.tr F1 F'⟩)
  · intro τ y hB1 F1 g _ d _
    have g3 := g.2.2.1
    have s1 := subC (by omega) (by omega) d.1
    rw [if_neg (show ¬ b - a ≤ 4 by omega)]
    exact ⟨rfl, hB1, F1⟩
theorem x_stk {σ : pm_S} (c : Int) (hc : 0 ≤ c ∧ c ≤ 255) (hB : an_GB pm_B σ) : Sp 49 7 [.int (Int32.ofInt c)] σ (fun r τ => r = some (.int (Int32.ofInt (ts_s c))) ∧ an_GB pm_B τ ∧ FQ [] σ τ) := by
  refine Sp.at rfl rfl ?_
  refine pz_s c _ rfl hB ⟨hc, trivial⟩ ?_ ?_ ?_ ?_ ?_ ?_ ?_ ?_ ?_ ?_ ?_
  · intro τ y hB1 F1 _ rl _ _
    have e : ts_s c = -27 := by
      have r1 := rl.1
      have r2 := rl.2.1
      have r3 := rl.2.2.1
      have r4 := rl.2.2.2.1
      have r5 := rl.2.2.2.2.1
      have r6 := rl.2.2.2.2.2.1
      have r7 := rl.2.2.2.2.2.2.1
      have r8 := rl.2.2.2.2.2.2.2.1
      have r9 := rl.2.2.2.2.2.2.2.2.1
      have r10 := rl.2.2.2.2.2.2.2.2.2.1
      unfold ts_s
      rw [if_neg r10, if_neg r9, if_neg r8, if_neg r7, if_neg r6, if_neg r5, if_neg r4, if_neg r3, if_neg r2, if_neg r1]
    rw [e]
    exact ⟨rfl, hB1, F1⟩
  · intro τ y hB1 F1 g _ _ _
    have e : c = 62 := by
      have := g.1
      omega
    rw [e]
    exact ⟨rfl, hB1, F1⟩
  · intro τ y hB1 F1 g _ _ _
    have e : c = 61 := by
      have := g.1
      omega
    rw [e]
    exact ⟨rfl, hB1, F1⟩
  · intro τ y hB1 F1 g _ _ _
    have e : c = 60 := by
      have := g.1
      omega
    rw [e]
    exact ⟨rfl, hB1, F1⟩
  · intro τ y hB1 F1 g _ _ _
    have e : c = 41 := by
      have := g.1
      omega
    rw [e]
    exact ⟨rfl, hB1, F1⟩
  · intro τ y hB1 F1 g _ _ _
    have e : c = 40 := by
      have := g.1
      omega
    rw [e]
    exact ⟨rfl, hB1, F1⟩
  · intro τ y hB1 F1 g _ _ _
    have e : c = 47 := by
      have := g.1
      omega
    rw [e]
    exact ⟨rfl, hB1, F1⟩
  · intro τ y hB1 F1 g _ _ _
    have e : c = 42 := by
      have := g.1
      omega
    rw [e]
    exact ⟨rfl, hB1, F1⟩
  · intro τ y hB1 F1 g _ _ _
    have e : c = 45 := by
      have := g.1
      omega
    rw [e]
    exact ⟨rfl, hB1, F1⟩
  · intro τ y hB1 F1 g _ _ _
    have e : c = 43 := by
      have := g.1
      omega
    rw [e]
    exact ⟨rfl, hB1, F1⟩
  · intro τ y hB1 F1 g _ _ _
    have e : c = 59 := by
      have := g.1
      omega
    rw [e]
    exact ⟨rfl, hB1, F1⟩
set_option maxRecDepth 20000 in
theorem x_atk {σ : pm_S} (w : Int) (p j : Nat) (hw : (-27) ≤ w ∧ w ≤ 9999) (hp : p ≤ 400) (hj : j ≤ 400) (hB : an_GB pm_B σ) (ej : sI σ 67 7 = (j : Int)) : Sp 39 4 [.ref 67, .int (Int32.ofInt w), .int (Int32.ofInt (p : Int))] σ (fun r τ => r = none ∧ an_GB pm_B τ ∧ FQ [(67, 7), (72, 9999), (73, 9999)] σ τ ∧ sI τ 67 7 = (j : Int) + 1 ∧ (sI τ 72 j = w ∧ sI τ 73 j = (p : Int)) ∧ ∀ i, i ≠ j → sI τ 72 i = sI σ 72 i ∧ sI τ 73 i = sI σ 73 i) := by
  refine Sp.at rfl rfl ?_
  refine pz_a0 w p j hB ⟨hw, by omega, by omega, trivial⟩ ⟨ej, trivial⟩ ?_
  intro τ1 y1 hB1 F1 _ _ _ c1
  refine Ok.ast (n := 401) rfl rfl rfl (by decide) (by omega) (by omega) ?_
  have hB2 : an_GB pm_B (put τ1 72 ((j : Int)).toNat (Int32.ofInt w)) := put_GB hB1 (ai_rng _)
  refine pz_a12 w p j hB2 ⟨hw, by omega, by omega, trivial⟩ ⟨by rw [put_nr (by decide)]; exact c1.1, trivial⟩ ?_
  intro τ3 y3 hB3 F3 _ _ _ c3
  refine Ok.ast (n := 401) rfl rfl rfl (by decide) (by omega) (by omega) ?_
  have hB4 : an_GB pm_B (put τ3 73 ((j : Int)).toNat (Int32.ofInt (p : Int))) := put_GB hB3 (ai_rng _)
  refine pz_a18 w p j hB4 ⟨hw, by omega, by omega, trivial⟩ ⟨by rw [put_nr (by decide)]; exact c3.1, trivial⟩ ?_
  intro τ5 y5 hB5 F5 _ _ _ c5
  have e72 : ∀ i, τ5.1 72 i = if i = j then Int32.ofInt w else σ.1 72 i := fun i => by
    rw [F5 72 i rfl, put_nr (by decide), F3 72 i rfl, put_get, Int.toNat_natCast]
    by_cases e : i = j
    · rw [if_pos ⟨rfl, e⟩, if_pos e]
    · rw [if_neg (fun z => e z.2), if_neg e, F1 72 i rfl]
  have e73 : ∀ i, τ5.1 73 i = if i = j then Int32.ofInt (p : Int) else σ.1 73 i := fun i => by
    rw [F5 73 i rfl, put_get, Int.toNat_natCast]
    by_cases e : i = j
    · rw [if_pos ⟨rfl, e⟩, if_pos e]
    · rw [if_neg (fun z => e z.2), if_neg e, F3 73 i rfl, put_nr (by decide), F1 73 i rfl]
  refine ⟨rfl, hB5, FQ.tr (FQ.up (G := []) rfl F1) (FQ.tr (FQ.put rfl) (FQ.tr (FQ.up (G := []) rfl F3) (FQ.tr (FQ.put rfl) (FQ.up (G := [(67, 7)]) rfl F5)))), c5.1, ⟨?_, ?_⟩, fun i hi => ⟨?_, ?_⟩⟩
  · show (τ5.1 72 j).toInt = w
    rw [e72, if_pos rfl, ti_of (by omega) (by omega)]
  · show (τ5.1 73 j).toInt = _
    rw [e73, if_pos rfl, ti_of (by omega) (by omega)]
  · show (τ5.1 72 i).toInt = _
    rw [e72, if_neg hi]
  · show (τ5.1 73 i).toInt = _
    rw [e73, if_neg hi]
end TOKC
