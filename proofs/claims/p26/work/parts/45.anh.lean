/-! THE ANALYSER, 6: the heap is sound -/
theorem an_cell_ok {p : Nat} {j v : an_V} : ∀ {C : an_C}, an_cell C p j = some v → (p, j, v) ∈ C := by
  intro C
  induction C with
  | nil => intro h; cases h
  | cons q qs ih =>
    intro h
    unfold an_cell at h
    split at h
    · rename_i e
      cases h
      rw [Bool.and_eq_true] at e
      rw [← Nat.eq_of_beq_eq_true e.1, ← an_veq_ok e.2]
      exact List.mem_cons_self
    · exact List.mem_cons_of_mem _ (ih h)
theorem an_drop_ok {p j : Nat} {q : Nat × an_V × an_V} : ∀ {C : an_C}, q ∈ an_drop p j C → q ∈ C ∧ (q.1 = p → q.2.1.1 = 1 ∧ q.2.1.2.2 ≠ (j : Int)) := by
  intro C
  induction C with
  | nil => intro h; cases h
  | cons c qs ih =>
    intro h
    unfold an_drop at h
    split at h
    · have := ih h
      exact ⟨List.mem_cons_of_mem _ this.1, this.2⟩
    · rename_i e
      rcases List.mem_cons.mp h with h | h
      · refine ⟨by rw [h]; exact List.mem_cons_self, fun g => ?_⟩
        rw [h] at g ⊢
        have e2 : Nat.beq c.1 p = true := by rw [g]; exact Nat.beq_refl p
        rw [e2, Bool.true_and] at e
        have e3 : (Nat.beq c.2.1.1 1 && !(an_eq c.2.1.2.2 (.ofNat j))) = true := by
          rcases hb : (Nat.beq c.2.1.1 1 && !(an_eq c.2.1.2.2 (.ofNat j))) with _ | _
          · rw [hb] at e; cases e
          · rfl
        rw [Bool.and_eq_true] at e3
        refine ⟨Nat.eq_of_beq_eq_true e3.1, fun z => ?_⟩
        have : an_eq c.2.1.2.2 (.ofNat j) = true := an_eq_iff.mpr z
        rw [this] at e3
        exact absurd e3.2 (by decide)
      · have := ih h
        exact ⟨List.mem_cons_of_mem _ this.1, this.2⟩
theorem an_dropR_ok {p : Nat} {q : Nat × an_V × an_V} : ∀ {C : an_C}, q ∈ an_dropR p C → q ∈ C ∧ ¬ q.1 = p := by
  intro C
  induction C with
  | nil => intro h; cases h
  | cons c qs ih =>
    intro h
    unfold an_dropR at h
    split at h
    · have := ih h
      exact ⟨List.mem_cons_of_mem _ this.1, this.2⟩
    · rename_i e
      rcases List.mem_cons.mp h with h | h
      · refine ⟨by rw [h]; exact List.mem_cons_self, fun g => ?_⟩
        rw [h] at g
        have e2 : Nat.beq c.1 p = true := by rw [g]; simp
        rw [e2] at e
        cases e
      · have := ih h
        exact ⟨List.mem_cons_of_mem _ this.1, this.2⟩
theorem an_inP_ok {F : List (Nat × Nat)} {p : Nat} (h : an_inP F p = false) (j : Nat) : an_inF F p j = false := by
  rcases hb : an_inF F p j with _ | _
  · rfl
  · exfalso
    unfold an_inF at hb
    rw [List.any_eq_true] at hb
    obtain ⟨q, h1, h2⟩ := hb
    rw [Bool.and_eq_true] at h2
    have : an_inP F p = true := by
      unfold an_inP
      rw [List.any_eq_true]
      exact ⟨q, h1, h2.1⟩
    rw [this] at h
    cases h
theorem an_dropF_ok {F : List (Nat × Nat)} {q : Nat × an_V × an_V} : ∀ {C : an_C}, q ∈ an_dropF F C → q ∈ C ∧ ∀ ρ : Nat → Int, an_inF F q.1 (an_ev ρ q.2.1).toNat = false := by
  intro C
  induction C with
  | nil => intro h; cases h
  | cons c qs ih =>
    intro h
    unfold an_dropF at h
    split at h
    · have := ih h
      exact ⟨List.mem_cons_of_mem _ this.1, this.2⟩
    · rename_i e
      rcases List.mem_cons.mp h with h | h
      · refine ⟨by rw [h]; exact List.mem_cons_self, fun ρ => ?_⟩
        rw [h]
        split at e
        · rename_i e1
          unfold an_ev
          rw [e1]
          exact e
        · exact an_inP_ok e _
      · have := ih h
        exact ⟨List.mem_cons_of_mem _ this.1, this.2⟩
theorem an_inR_ok {F : List (Nat × Nat)} {p : Nat} (h : an_inR F p = true) (j : Nat) : an_inF F p j = true := by
  unfold an_inR at h
  unfold an_inF
  rw [List.any_eq_true] at h ⊢
  obtain ⟨q, h1, h2⟩ := h
  rw [Bool.and_eq_true] at h2
  exact ⟨q, h1, by rw [Bool.and_eq_true]; exact ⟨h2.1, by rw [h2.2]; simp⟩⟩
theorem an_row_ok {B : an_B} {σ : pm_S} (h : an_GB B σ) {p j : Nat} (hj : j < an_len p) : (an_row B p).1 ≤ (σ.1 p j).toInt ∧ (σ.1 p j).toInt ≤ (an_row B p).2 := by
  have h1 := h p j hj
  unfold an_bd at h1
  unfold an_row
  split
  · rename_i q _ e; rw [e] at h1; exact h1
  · exact an_full_ok _
theorem an_roww_ok {B : an_B} {p j : Nat} {w : Int32} (h : (an_roww B p).1 ≤ w.toInt ∧ w.toInt ≤ (an_roww B p).2) : (an_bd B p j).1 ≤ w.toInt ∧ w.toInt ≤ (an_bd B p j).2 := by
  unfold an_roww at h
  unfold an_bd
  split at h
  · rename_i q _ e; rw [e]; exact h
  · simp only [an_mx_eq, an_mn_eq] at h
    omega
  · rename_i g1 g2
    split
    · rename_i q _ e; exact absurd e (g1 _ _)
    · rename_i qs e; exact absurd e (g2 _)
    · exact an_full_ok _
theorem an_cv2 {n : Nat} {ρ : Nat → Int} (k : Nat) (c : Int) : an_cv n ρ (.ref k) (2, k, c) := rfl
theorem an_leq_ok : ∀ {xs ys : List (Int × Int)}, an_leq xs ys = true → xs = ys
  | [], [], _ => rfl
  | x :: xs, y :: ys, h => by
    unfold an_leq at h
    simp only [Bool.and_eq_true, an_eq_iff] at h
    rw [an_leq_ok h.2]
    obtain ⟨x1, x2⟩ := x
    obtain ⟨y1, y2⟩ := y
    simp only at h
    rw [h.1.1, h.1.2]
  | [], _ :: _, h => by cases h
  | _ :: _, [], h => by cases h
theorem an_beq_ok {B : an_B} {p q : Nat} (h : an_beq (pm_nth B p) (pm_nth B q) = true) (j : Nat) : an_bd B p j = an_bd B q j := by
  unfold an_beq at h
  split at h
  · rename_i xs ys e1 e2
    unfold an_bd
    rw [e1, e2, an_leq_ok h]
  · cases h
section HP
variable {B : an_B} {F : List (Nat × Nat)} {σ0 : pm_S} {ρ : Nat → Int} {A : an_A} {σ : pm_S} {stc : List Value} {st : List an_V}
abbrev an_N (B : an_B) (F : List (Nat × Nat)) (σ0 : pm_S) (ρ : Nat → Int) (A : an_A) (nx : an_kA) (NX : List Value → pm_S → Prop) : Prop := ∀ ρ' A' st' stc' σ', an_ok B F σ0 ρ' A' σ' → an_ext ρ ρ' A.1 → A.1 ≤ A'.1 → an_ls A'.1 ρ' stc' st' → nx st' A' = true → NX stc' σ'
theorem an_upk (σ : pm_S) (p y : Nat) (w : Int32) (p' j' : Nat) : (va_up σ.1 p (upd (σ.1 p) y w)) p' j' = if p' = p ∧ j' = y then w else σ.1 p' j' := by
  by_cases e : p' = p
  · subst e
    by_cases e2 : j' = y
    · simp [va_up, upd, e2]
    · simp [va_up, upd, e2]
  · simp [va_up, e]
/-- a cell is written: what is known of cells in C still holds -/
theorem an_put_ok (h : an_ok B F σ0 ρ A σ) {p y : Nat} {w : Int32} {C : an_C} (hC : ∀ q ∈ C, an_cw A.1 ρ (va_up σ.1 p (upd (σ.1 p) y w), σ.2) q) (hF : an_inF F p y = true) (hb : (an_bd B p y).1 ≤ w.toInt ∧ w.toInt ≤ (an_bd B p y).2) : an_ok B F σ0 ρ (an_setC A C) (va_up σ.1 p (upd (σ.1 p) y w), σ.2) := by
  obtain ⟨h1, h2, h3, h4, h5, h6⟩ := h
  refine ⟨h1, h2, h3, hC, fun p' j' hl => ?_, fun p' j' hf => ?_⟩
  · show (an_bd B p' j').1 ≤ ((va_up σ.1 p (upd (σ.1 p) y w)) p' j').toInt ∧ ((va_up σ.1 p (upd (σ.1 p) y w)) p' j').toInt ≤ _
    rw [an_upk]
    split
    · rename_i e; rw [e.1, e.2]; exact hb
    · exact h5 p' j' hl
  · show (va_up σ.1 p (upd (σ.1 p) y w)) p' j' = _
    rw [an_upk, if_neg]
    · exact h6 p' j' hf
    · intro e
      rw [e.1, e.2, hF] at hf
      cases hf
theorem an_cwD (h : an_ok B F σ0 ρ A σ) {p y : Nat} {w : Int32} : ∀ q ∈ an_drop p y A.2.2.2.2, an_cw A.1 ρ (va_up σ.1 p (upd (σ.1 p) y w), σ.2) q := by
  intro q hq
  obtain ⟨m1, m2⟩ := an_drop_ok hq
  obtain ⟨g1, g2, g0, g3⟩ := h.2.2.2.1 q m1
  refine ⟨g1, g2, g0, ?_⟩
  show an_w A.1 ρ ((va_up σ.1 p (upd (σ.1 p) y w)) q.1 (an_ev ρ q.2.1).toNat) q.2.2
  rw [an_upk, if_neg]
  · exact g3
  · intro e
    obtain ⟨k1, k2⟩ := m2 e.1
    have ev : an_ev ρ q.2.1 = q.2.1.2.2 := by unfold an_ev; rw [k1]; rfl
    rw [ev] at e g0
    exact k2 (by omega)
theorem an_cwR (h : an_ok B F σ0 ρ A σ) {p : Nat} {f : Nat → Int32} : ∀ q ∈ an_dropR p A.2.2.2.2, an_cw A.1 ρ (va_up σ.1 p f, σ.2) q := by
  intro q hq
  obtain ⟨m1, m2⟩ := an_dropR_ok hq
  obtain ⟨g1, g2, g0, g3⟩ := h.2.2.2.1 q m1
  refine ⟨g1, g2, g0, ?_⟩
  show an_w A.1 ρ ((va_up σ.1 p f) q.1 (an_ev ρ q.2.1).toNat) q.2.2
  rw [show (va_up σ.1 p f) q.1 = σ.1 q.1 by simp [va_up, m2]]
  exact g3
/-- what is written is known -/
theorem an_cwN {p y : Nat} {w : Int32} {j v : an_V} (hj : j.1 ≤ 1 ∧ an_vl A.1 j ∧ 0 ≤ an_ev ρ j ∧ (an_ev ρ j).toNat = y) (hw : an_w A.1 ρ w v) : an_cw A.1 ρ (va_up σ.1 p (upd (σ.1 p) y w), σ.2) (p, j, v) := by
  refine ⟨hj.1, hj.2.1, hj.2.2.1, ?_⟩
  show an_w A.1 ρ ((va_up σ.1 p (upd (σ.1 p) y w)) p (an_ev ρ j).toNat) v
  rw [an_upk, if_pos ⟨rfl, hj.2.2.2⟩]
  exact hw
theorem an_njw (n y : Nat) (ρ : Nat → Int) : (an_nj y).1 ≤ 1 ∧ an_vl n (an_nj y) ∧ 0 ≤ an_ev ρ (an_nj y) ∧ (an_ev ρ (an_nj y)).toNat = y := ⟨Nat.le_refl 1, fun z => absurd (show (1 : Nat) = 0 from z) (by decide), Int.natCast_nonneg y, rfl⟩
/-- cells are forgotten -/
theorem an_sub_ok (h : an_ok B F σ0 ρ A σ) {C : an_C} (hC : ∀ q ∈ C, q ∈ A.2.2.2.2) : an_ok B F σ0 ρ (an_setC A C) σ := ⟨h.1, h.2.1, h.2.2.1, fun q hq => h.2.2.2.1 q (hC q hq), h.2.2.2.2⟩
/-- a row changes -/
theorem an_putR_ok (h : an_ok B F σ0 ρ A σ) {p : Nat} {f : Nat → Int32} {C : an_C} (hC : ∀ q ∈ C, an_cw A.1 ρ (va_up σ.1 p f, σ.2) q) (hF : an_inR F p = true) (hb : ∀ j, j < an_len p → (an_bd B p j).1 ≤ (f j).toInt ∧ (f j).toInt ≤ (an_bd B p j).2) : an_ok B F σ0 ρ (an_setC A C) (va_up σ.1 p f, σ.2) := by
  obtain ⟨h1, h2, h3, h4, h5, h6⟩ := h
  have key : ∀ p', (va_up σ.1 p f) p' = if p' = p then f else σ.1 p' := by
    intro p'
    by_cases e : p' = p
    · simp [va_up, e]
    · simp [va_up, e]
  refine ⟨h1, h2, h3, hC, fun p' j' hl => ?_, fun p' j' hf => ?_⟩
  · show (an_bd B p' j').1 ≤ ((va_up σ.1 p f) p' j').toInt ∧ ((va_up σ.1 p f) p' j').toInt ≤ _
    rw [key]
    split
    · rename_i e; subst e; exact hb j' hl
    · exact h5 p' j' hl
  · show (va_up σ.1 p f) p' j' = _
    rw [key, if_neg]
    · exact h6 p' j' hf
    · intro e
      rw [e, an_inR_ok hF j'] at hf
      cases hf
theorem an_rd_ok (h : an_ok B F σ0 ρ A σ) {p : Nat} {j : an_V} {n : Nat} (hj : j.1 ≤ 1 ∧ an_vl A.1 j ∧ 0 ≤ an_ev ρ j ∧ (an_ev ρ j).toNat = n) (hn : n < an_len p) {keep : Bool} {k : an_A → an_V → Bool} (hk : an_rd B p j keep A k = true) : an_res B F σ0 ρ A σ k (σ.1 p n) := by
  unfold an_rd at hk
  split at hk
  · rename_i v e
    have hw := (h.2.2.2.1 _ (an_cell_ok e)).2.2.2
    dsimp only at hw
    rw [hj.2.2.2] at hw
    obtain ⟨a', k1, -, k3⟩ := an_nm_ok h hk
    exact ⟨ρ, A, a', h, an_ext_rf _ _, Nat.le_refl _, k3 _ hw, k1⟩
  · have hb : ∀ l g, (match j.1 with
        | 1 => an_bd B p j.2.2.toNat
        | _ => an_row B p) = (l, g) → l ≤ (σ.1 p n).toInt ∧ (σ.1 p n).toInt ≤ g := by
      intro l g e
      split at e
      · rename_i e1
        have ev : an_ev ρ j = j.2.2 := by unfold an_ev; rw [e1]; rfl
        have := h.2.2.2.2.1 p n hn
        rw [← hj.2.2.2, ev, e] at this
        rw [← hj.2.2.2, ev]
        exact this
      · have := an_row_ok h.2.2.2.2.1 (p := p) (j := n) hn
        rw [e] at this
        exact this
    split at hk
    rename_i l g e
    obtain ⟨b1, b2⟩ := hb l g e
    obtain ⟨ρ', A', a, g1, g2, g3, g4, g5, g6⟩ := an_new_ok h hk b1 b2
    split at g5
    · refine ⟨ρ', an_setC A' ((p, j, a) :: A'.2.2.2.2), a, ⟨g1.1, g1.2.1, g1.2.2.1, fun q hq => ?_, g1.2.2.2.2⟩, g2, g3, g4, g5⟩
      rcases List.mem_cons.mp hq with e5 | e5
      · rw [e5]
        refine ⟨hj.1, an_vl_x hj.2.1 g3, ?_, ?_⟩
        · show 0 ≤ an_ev ρ' j
          rw [an_ev_x g2 hj.2.1]
          exact hj.2.2.1
        · show an_w A'.1 ρ' (σ.1 p (an_ev ρ' j).toNat) a
          rw [an_ev_x g2 hj.2.1, hj.2.2.2]
          exact g4
      · exact g1.2.2.2.1 q e5
    · exact ⟨ρ', A', a, g1, g2, g3, g4, g5⟩
theorem an_lay_o {p ci : Nat} {fs : List (Option Nat)} {y : Nat} {o : Option Nat} (h : pm_nth pm_lay p = some (.inr (ci, fs))) (hy : pm_nth fs y = some o) : y < an_len p := by
  unfold an_len
  rw [h]
  rw [pm_nth_eq] at hy
  exact (List.getElem?_eq_some_iff.mp hy).1
theorem an_lay_a {p k n : Nat} (h : pm_nth pm_lay p = some (.inl (k, n))) : an_len p = n := by
  unfold an_len
  rw [h]
theorem an_gget_ok (h : an_ok B F σ0 ρ A σ) (hs : an_ls A.1 ρ stc st) {x y : Nat} {nx : an_kA} {NX : List Value → pm_S → Prop} (hN : an_N B F σ0 ρ A nx NX) (hk : an_gget B x y st A nx = true) : pm_gget (pm_OS none) False x y stc σ NX := by
  unfold an_gget at hk
  split at hk
  · rename_i a st'
    match stc, hs with
    | [], hs => exact hs.elim
    | v :: stc, hs =>
      split at hk
      · rename_i e
        have ev := an_cv_ref hs.1 e
        rw [ev]
        unfold pm_gget
        simp only
        split at hk
        · rename_i ci fs hl
          split at hk
          · rename_i hc
            split at hk
            · rename_i q hq
              have e1 : (pm_OS none).1 σ a.2.1 x y = some (.ref q) := by dsimp only [pm_OS]; rw [hl]; dsimp only; rw [hc]; dsimp only; rw [hq]
              rw [e1]
              exact hN ρ A _ _ σ h (an_ext_rf _ _) (Nat.le_refl _) (an_ls_c (an_cv2 _ _) hs.2) hk
            · rename_i hq
              have e1 : (pm_OS none).1 σ a.2.1 x y = some (.int (σ.1 a.2.1 y)) := by dsimp only [pm_OS]; rw [hl]; dsimp only; rw [hc]; dsimp only; rw [hq]
              rw [e1]
              obtain ⟨ρ', A', b, g1, g2, g3, g4, g5⟩ := an_rd_ok h (an_njw _ _ _) (an_lay_o hl hq) hk
              exact hN ρ' A' _ _ σ g1 g2 g3 (an_ls_c (an_cv_of g4) (an_ls_x g2 g3 hs.2)) g5
            · cases hk
          · cases hk
        · cases hk
      · rename_i e
        have ev := an_cv_txt hs.1 e
        rw [ev]
        unfold pm_gget
        simp only
        split at hk
        · rename_i hb
          rw [hb]
          simp only
          split at hk
          · exact hN ρ A _ _ σ h (an_ext_rf _ _) (Nat.le_refl _) (an_ls_c (an_cv3 _ _) hs.2) hk
          · rename_i g
            split
            · exact absurd rfl g
            · exact hN ρ A _ _ σ h (an_ext_rf _ _) (Nat.le_refl _) (an_ls_c (an_cv_of (an_w1 rfl)) hs.2) hk
        · cases hk
      · cases hk
  · cases hk
theorem an_b01 {w : Int32} (h1 : 0 ≤ w.toInt) (h2 : w.toInt ≤ 1) : w = 0 ∨ w = 1 := by
  rcases (show w.toInt = 0 ∨ w.toInt = 1 by omega) with q | q
  · exact Or.inl (Int32.toInt_inj.mp (by rw [q]; rfl))
  · exact Or.inr (Int32.toInt_inj.mp (by rw [q]; rfl))
theorem an_gput_ok (h : an_ok B F σ0 ρ A σ) (hs : an_ls A.1 ρ stc st) {x y : Nat} {zs : List Nat} {nx : an_kA} {NX : List Value → pm_S → Prop} (hN : an_N B F σ0 ρ A nx NX) (hk : an_gput B F x y zs st A nx = true) : pm_gput (pm_OS none) False pm_br x y zs stc σ NX := by
  unfold an_gput at hk
  split at hk
  · rename_i v a st'
    match stc, hs with
    | [], hs => exact hs.elim
    | [_], hs => exact hs.2.elim
    | u :: r :: stc, hs =>
      split at hk
      · rename_i e
        have ev := an_cv_ref hs.2.1 e
        rw [ev]
        split at hk
        · rename_i ci fs hl
          split at hk
          · rename_i hc
            split at hk
            · rename_i hq
              split at hk
              rename_i l g eb
              split at hk
              · rename_i hi
                rw [Bool.and_eq_true, Bool.and_eq_true] at hi
                obtain ⟨w, ew, hw, b1, b2⟩ := an_in_ok h hi.1.1 hs.1
                have hp := an_put_ok (C := (a.2.1, an_nj y, v) :: an_drop a.2.1 y A.2.2.2.2) h (fun q hq => by
                  rcases List.mem_cons.mp hq with e5 | e5
                  · rw [e5]; exact an_cwN (an_njw _ _ _) hw
                  · exact an_cwD h q e5) hi.1.2 (by rw [eb]; exact ⟨b1, b2⟩)
                have e1 : (pm_OS none).2.1 σ a.2.1 x y (.int w) = some (va_up σ.1 a.2.1 (upd (σ.1 a.2.1) y w), σ.2) := by dsimp only [pm_OS]; rw [hl]; dsimp only; rw [hc]; dsimp only; rw [hq]
                rw [ew]
                unfold pm_gput
                simp only
                rw [e1]
                have h3 := hi.2
                have fin := hN ρ _ _ _ _ hp (an_ext_rf _ _) (Nat.le_refl _) hs.2.2 hk
                split at h3
                · exact fin
                · obtain ⟨w2, ew2, -, c1, c2⟩ := an_in_ok h h3 hs.1
                  rw [ew] at ew2
                  cases ew2
                  exact ⟨fun _ => fin, fun z => absurd (an_b01 c1 c2) z⟩
                · cases h3
              · cases hk
            · cases hk
          · cases hk
        · cases hk
      · cases hk
  · cases hk
/-- an index within a row -/
theorem an_ix (h : an_ok B F σ0 ρ A σ) {j : an_V} {n : Nat} {v : Value} (hv : an_cv A.1 ρ v j) (hk : an_in A j 0 (.ofNat n - 1) = true) : ∃ w, v = .int w ∧ an_w A.1 ρ w j ∧ ¬ (w < 0 ∨ n ≤ w.toNatClampNeg) ∧ w.toNatClampNeg < n ∧ (j.1 = 1 → w.toNatClampNeg = j.2.2.toNat) ∧ (j.1 ≤ 1 ∧ an_vl A.1 j ∧ 0 ≤ an_ev ρ j ∧ (an_ev ρ j).toNat = w.toNatClampNeg) := by
  obtain ⟨w, e, hw, b1, b2⟩ := an_in_ok h hk hv
  have b3 : w.toInt ≤ (n : Int) - 1 := b2
  have h5 : ¬ (w < 0 ∨ n ≤ w.toNatClampNeg) := vp_in_iff.mpr ⟨b1, by omega⟩
  refine ⟨w, e, hw, h5, by
    rcases Nat.lt_or_ge w.toNatClampNeg n with q | q
    · exact q
    · exact absurd (Or.inr q) h5, fun e1 => ?_, hw.1, hw.2.1, by rw [← hw.2.2]; exact b1, by rw [← hw.2.2]; rfl⟩
  have := an_w_num hw e1
  show w.toInt.toNat = _
  rw [this]
theorem an_strs_ok {s : List Nat} (hs : s.all (fun c => Nat.ble c 255) = true) (j : Nat) : s.getD j 0 ≤ 255 := by
  rw [List.getD_eq_getElem?_getD]
  cases hj : s[j]? with
  | none => simp
  | some c =>
    have := List.all_eq_true.mp hs c (List.mem_of_getElem? hj)
    exact Nat.le_of_ble_eq_true this
theorem an_gald_ok (h : an_ok B F σ0 ρ A σ) (hs : an_ls A.1 ρ stc st) {T : List Nat} {kd : Nat} {nx : an_kA} {NX : List Value → pm_S → Prop} (hN : an_N B F σ0 ρ A nx NX) (hk : an_gald B T kd st A nx = true) : pm_gald (pm_OS none) False pm_br kd stc σ NX := by
  unfold an_gald at hk
  split at hk
  · rename_i j a st'
    match stc, hs with
    | [], hs => exact hs.elim
    | [_], hs => exact hs.2.elim
    | u :: r :: stc, hs =>
      split at hk
      · rename_i e
        have ev := an_cv_ref hs.2.1 e
        rw [ev]
        split at hk
        · rename_i k n hl
          split at hk
          · rename_i hi
            rw [Bool.and_eq_true, Bool.and_eq_true] at hi
            obtain ⟨w, ew, hw, hg, hlt, hcn, hjx⟩ := an_ix h hs.1 hi.2
            have e1 : (pm_OS none).2.2.1 σ a.2.1 = some (k, n, σ.1 a.2.1) := by dsimp only [pm_OS]; rw [hl]; dsimp only; rw [hi.1.2]
            rw [ew]
            unfold pm_gald
            simp only
            rw [e1]
            simp only
            rw [hi.1.1]
            simp only
            refine ⟨fun _ => ?_, fun z => absurd hg z⟩
            obtain ⟨ρ', A', b, g1, g2, g3, g4, g5⟩ := an_rd_ok h hjx (by rw [an_lay_a hl]; exact hlt) hk
            exact hN ρ' A' _ _ σ g1 g2 g3 (an_ls_c (an_cv_of g4) (an_ls_x g2 g3 hs.2.2)) g5
          · cases hk
        · cases hk
      · rename_i e
        have ev := an_cv_txt hs.2.1 e
        rw [ev]
        split at hk
        · cases hk
        · rename_i hkd
          split at hk
          · rename_i s hsn
            split at hk
            · rename_i hi
              rw [Bool.and_eq_true, Bool.and_eq_true] at hi
              obtain ⟨w, ew, hw, hg, hlt, hcn, hjx⟩ := an_ix h hs.1 hi.1.2
              rw [ew]
              obtain ⟨kd', rfl⟩ : ∃ kd', kd = kd' + 1 := ⟨kd - 1, by
                rcases Nat.eq_zero_or_pos kd with q | q
                · exact (hkd q).elim
                · omega⟩
              unfold pm_gald
              dsimp only
              rw [hsn]
              dsimp only
              rw [hi.1.1]
              dsimp only
              refine ⟨fun _ => ?_, fun z => absurd hg z⟩
              have h255 := an_strs_ok hi.2 w.toNatClampNeg
              split at hk
              · rename_i ej
                rw [an_fN_eq, ← hcn ej] at hk
                exact hN ρ A _ _ σ h (an_ext_rf _ _) (Nat.le_refl _) (an_ls_c (an_cv_of (an_w1 (nI_toInt (by omega)))) hs.2.2) hk
              · obtain ⟨ρ', A', b, g1, g2, g3, g4, g5, -⟩ := an_new_ok (w := nI (s.getD w.toNatClampNeg 0)) h hk (by rw [nI_toInt (by omega)]; omega) (by rw [nI_toInt (by omega)]; omega)
                exact hN ρ' A' _ _ σ g1 g2 g3 (an_ls_c (an_cv_of g4) (an_ls_x g2 g3 hs.2.2)) g5
            · cases hk
          · cases hk
      · cases hk
  · cases hk
theorem an_gast_ok (h : an_ok B F σ0 ρ A σ) (hs : an_ls A.1 ρ stc st) {T : List Nat} {kd : Nat} {nx : an_kA} {NX : List Value → pm_S → Prop} (hN : an_N B F σ0 ρ A nx NX) (hk : an_gast B F T kd st A nx = true) : pm_gast (pm_OS none) False pm_br kd stc σ NX := by
  unfold an_gast at hk
  split at hk
  · rename_i v j a st'
    match stc, hs with
    | [], hs => exact hs.elim
    | [_], hs => exact hs.2.elim
    | [_, _], hs => exact hs.2.2.elim
    | u0 :: u :: r :: stc, hs =>
      split at hk
      · rename_i e
        have ev := an_cv_ref hs.2.2.1 e
        rw [ev]
        split at hk
        · rename_i k n hl
          split at hk
          rename_i l g eb
          split at hk
          · rename_i hi
            simp only [Bool.and_eq_true] at hi
            obtain ⟨⟨⟨⟨⟨i1, i2⟩, i3⟩, i4⟩, i5⟩, i6⟩ := hi
            obtain ⟨w, ew, hw, hg, hlt, hcn, hjx⟩ := an_ix h hs.2.1 i3
            obtain ⟨z, ez, hz, b1, b2⟩ := an_in_ok h i4 hs.1
            have e1 : (pm_OS none).2.2.1 σ a.2.1 = some (k, n, σ.1 a.2.1) := by dsimp only [pm_OS]; rw [hl]; dsimp only; rw [i2]
            have hbz : (an_bd B a.2.1 w.toNatClampNeg).1 ≤ z.toInt ∧ z.toInt ≤ (an_bd B a.2.1 w.toNatClampNeg).2 := by
              split at eb
              · rename_i ej
                rw [hcn ej, eb]
                exact ⟨b1, b2⟩
              · exact an_roww_ok (by rw [eb]; exact ⟨b1, b2⟩)
            have fin : NX stc (va_up σ.1 a.2.1 (upd (σ.1 a.2.1) w.toNatClampNeg z), σ.2) := by
              split at hk
              · refine hN ρ _ _ _ _ (an_put_ok (C := (a.2.1, j, v) :: (match j.1 with
                  | 1 => an_drop a.2.1 j.2.2.toNat A.2.2.2.2
                  | _ => an_dropR a.2.1 A.2.2.2.2)) h (fun q hq => ?_) (an_inR_ok i5 _) hbz) (an_ext_rf _ _) (Nat.le_refl _) hs.2.2.2 hk
                rcases List.mem_cons.mp hq with e5 | e5
                · rw [e5]; exact an_cwN hjx hz
                · split at e5
                  · rename_i ej
                    rw [← hcn ej] at e5
                    exact an_cwD h q e5
                  · exact an_cwR h q e5
              · exact hN ρ _ _ _ _ (an_put_ok (C := an_dropR a.2.1 A.2.2.2.2) h (fun q hq => an_cwR h q hq) (an_inR_ok i5 _) hbz) (an_ext_rf _ _) (Nat.le_refl _) hs.2.2.2 hk
            rw [ew, ez]
            unfold pm_gast
            simp only
            rw [e1]
            simp only
            rw [i1]
            simp only
            refine ⟨fun _ => ?_, fun q => absurd hg q⟩
            split
            · exact fin
            · rename_i hkd
              split at i6
              · exact absurd rfl hkd
              · obtain ⟨w2, ew2, -, c1, c2⟩ := an_in_ok h i6 hs.1
                rw [ez] at ew2
                cases ew2
                exact ⟨fun _ => fin, fun q => absurd (an_b01 c1 c2) q⟩
          · cases hk
        · cases hk
      · cases hk
  · cases hk
theorem an_glld_ok (h : an_ok B F σ0 ρ A σ) (hs : an_ls A.1 ρ stc st) {nx : an_kA} {NX : List Value → pm_S → Prop} (hN : an_N B F σ0 ρ A nx NX) (hk : an_glld st A nx = true) : pm_glld (pm_OS none) False pm_br stc σ NX := by
  unfold an_glld at hk
  split at hk
  · rename_i j a st'
    match stc, hs with
    | [], hs => exact hs.elim
    | [_], hs => exact hs.2.elim
    | u :: r :: stc, hs =>
      split at hk
      · rename_i e
        have ev := an_cv_ref hs.2.1 e
        rw [ev]
        split at hk
        · rename_i n hl
          split at hk
          · rename_i hi
            obtain ⟨w, ew, hw, hg, hlt, hcn, hjx⟩ := an_ix h hs.1 hi
            have e1 : (pm_OS none).2.2.2.2.1 σ a.2.1 = some (n, σ.2 a.2.1) := by dsimp only [pm_OS]; rw [hl]; rfl
            rw [ew]
            unfold pm_glld
            simp only
            rw [e1]
            exact ⟨fun _ => hN ρ A _ _ σ h (an_ext_rf _ _) (Nat.le_refl _) (an_ls_c (an_cv4 _) hs.2.2) hk, fun q => absurd hg q⟩
          · cases hk
        · cases hk
      · cases hk
  · cases hk
theorem an_s2_ok (h : an_ok B F σ0 ρ A σ) (τ : Nat → Nat → Int64) : an_ok B F σ0 ρ A (σ.1, τ) := h
theorem an_glst_ok (h : an_ok B F σ0 ρ A σ) (hs : an_ls A.1 ρ stc st) {nx : an_kA} {NX : List Value → pm_S → Prop} (hN : an_N B F σ0 ρ A nx NX) (hk : an_glst st A nx = true) : pm_glst (pm_OS none) False pm_br stc σ NX := by
  unfold an_glst at hk
  split at hk
  · rename_i v j a st'
    match stc, hs with
    | [], hs => exact hs.elim
    | [_], hs => exact hs.2.elim
    | [_, _], hs => exact hs.2.2.elim
    | u0 :: u :: r :: stc, hs =>
      split at hk
      · rename_i e e4
        have ev := an_cv_ref hs.2.2.1 e
        obtain ⟨z, ez⟩ := an_cv_long hs.1 e4
        rw [ev]
        split at hk
        · rename_i n hl
          split at hk
          · rename_i hi
            obtain ⟨w, ew, hw, hg, hlt, hcn, hjx⟩ := an_ix h hs.2.1 hi
            have e1 : (pm_OS none).2.2.2.2.1 σ a.2.1 = some (n, σ.2 a.2.1) := by dsimp only [pm_OS]; rw [hl]; rfl
            rw [ew, ez]
            unfold pm_glst
            simp only
            rw [e1]
            exact ⟨fun _ => hN ρ A _ _ _ (an_s2_ok h _) (an_ext_rf _ _) (Nat.le_refl _) hs.2.2.2 hk, fun q => absurd hg q⟩
          · cases hk
        · cases hk
      · cases hk
  · cases hk
theorem an_strl : ∀ s, pm_nth pm_strs 0 = some s → s.length = 79 := by
  intro s h
  have : pm_nth pm_strs 0 = some s := h
  cases this
  decide +kernel
theorem an_strl1 : ∀ s, pm_nth pm_strs 1 = some s → s.length = 10 := by
  intro s h
  have : pm_nth pm_strs 1 = some s := h
  cases this
  decide +kernel
theorem an_glen_ok (h : an_ok B F σ0 ρ A σ) (hs : an_ls A.1 ρ stc st) {nx : an_kA} {NX : List Value → pm_S → Prop} (hN : an_N B F σ0 ρ A nx NX) (hk : an_glen st A nx = true) : pm_glen (pm_OS none) False stc σ NX := by
  unfold an_glen at hk
  split at hk
  · rename_i a st'
    match stc, hs with
    | [], hs => exact hs.elim
    | u :: stc, hs =>
      split at hk
      · rename_i e
        have ev := an_cv_ref hs.1 e
        rw [ev]
        split at hk
        · rename_i k n hl
          split at hk
          · rename_i hi
            rw [Bool.and_eq_true] at hi
            have hn := Nat.le_of_ble_eq_true hi.2
            have e1 : (pm_OS none).2.2.1 σ a.2.1 = some (k, n, σ.1 a.2.1) := by dsimp only [pm_OS]; rw [hl]; dsimp only; rw [hi.1]
            unfold pm_glen
            simp only
            rw [e1]
            simp only
            rw [hi.1]
            exact hN ρ A _ _ σ h (an_ext_rf _ _) (Nat.le_refl _) (an_ls_c (an_cv_of (an_w1 (nI_toInt (by omega)))) hs.2) hk
          · cases hk
        · cases hk
      · rename_i e
        have ev := an_cv_txt hs.1 e
        rw [ev]
        split at hk
        · rename_i e10
          rw [e10]
          have e0 : pm_nth pm_strs 0 = some (pm_strs.getD 0 []) := rfl
          have el := an_strl _ e0
          show NX (.int (nI (pm_strs.getD 0 []).length) :: stc) σ
          rw [el]
          exact hN ρ A _ _ σ h (an_ext_rf _ _) (Nat.le_refl _) (an_ls_c (an_cv_of (an_w1 (by decide))) hs.2) hk
        · rename_i e10
          rw [e10]
          have e0 : pm_nth pm_strs 1 = some (pm_strs.getD 1 []) := rfl
          have el := an_strl1 _ e0
          show NX (.int (nI (pm_strs.getD 1 []).length) :: stc) σ
          rw [el]
          exact hN ρ A _ _ σ h (an_ext_rf _ _) (Nat.le_refl _) (an_ls_c (an_cv_of (an_w1 (by decide))) hs.2) hk
        · cases hk
      · cases hk
  · cases hk
theorem an_gdiv_ok (h : an_ok B F σ0 ρ A σ) (hs : an_ls A.1 ρ stc st) {o : Nat} {f : Int32 → Int32 → Int32} (hf : ∀ a b, f a b = an_f o a b) {nx : an_kA} {NX : List Value → pm_S → Prop} (hN : an_N B F σ0 ρ A nx NX) (hk : an_gdiv o st A nx = true) : pm_gdiv False pm_br f stc σ NX := by
  unfold an_gdiv at hk
  split at hk
  · rename_i b a st'
    match stc, hs with
    | [], hs => exact hs.elim
    | [_], hs => exact hs.2.elim
    | u :: v :: stc, hs =>
      split at hk
      · rename_i hi
        rw [Bool.and_eq_true, Bool.and_eq_true] at hi
        obtain ⟨w1, e1, hw1⟩ := an_cv_int hs.1 hi.1.2
        obtain ⟨w2, e2, hw2⟩ := an_cv_int hs.2.1 hi.1.1
        have hz := an_nz_ok h hw1 hi.2
        obtain ⟨ρ', A', c, g1, g2, g3, g4, g5⟩ := an_bin_ok h hw2 hw1 hk
        rw [e1, e2]
        refine ⟨fun _ => ?_, fun z => absurd hz z⟩
        show NX (.int (f w2 w1) :: stc) σ
        rw [hf]
        exact hN ρ' A' _ _ σ g1 g2 g3 (an_ls_c (an_cv_of g4) (an_ls_x g2 g3 hs.2.2)) g5
      · cases hk
  · cases hk
theorem an_cs_le : ∀ {n : Nat} {ρ : Nat → Int} {stc : List Value} {st : List an_V}, an_ls n ρ stc st → an_cs st < 100 → pm_cs stc = an_cs st := by
  intro n ρ stc
  induction stc with
  | nil =>
    intro st h _
    cases st with
    | nil => rfl
    | cons a st => exact h.elim
  | cons v stc ih =>
    intro st h hl
    cases st with
    | nil => exact h.elim
    | cons a st =>
      have hcs : an_cs (a :: st) = (match an_c1 a with
        | true => 1
        | false => match a.1 with
          | 4 => 2
          | _ => 100) + an_cs st := rfl
      rw [hcs] at hl ⊢
      have h1 := ih h.2 (by omega)
      show (List.map (fun v => v.category) (v :: stc)).sum = _
      rw [List.map_cons, List.sum_cons, ← h1]
      show v.category + pm_cs stc = _
      refine congrArg (fun z => z + pm_cs stc) ?_
      split
      · rename_i e; exact an_c1_ok h.1 e
      · rename_i e
        split
        · rename_i e4
          obtain ⟨w, ew⟩ := an_cv_long h.1 e4
          rw [ew]
          rfl
        · rename_i e4
          exfalso
          have : (match an_c1 a with
            | true => 1
            | false => match a.1 with
              | 4 => 2
              | _ => 100) = 100 := by
            rw [e]
            dsimp only
            split
            · rename_i z; exact absurd z e4
            · rfl
          omega
theorem an_cs_ok {n : Nat} {ρ : Nat → Int} {stc : List Value} {st : List an_V} (h : an_ls n ρ stc st) (h8 : Nat.ble (an_cs st) 8 = true) : Nat.ble (pm_cs stc) 8 = true := by
  have := Nat.le_of_ble_eq_true h8
  rw [an_cs_le h (by omega)]
  exact h8
theorem an_gint_ok (h : an_ok B F σ0 ρ A σ) (hs : an_ls A.1 ρ stc st) {x : Nat} {nx : an_kA} {NX : List Value → pm_S → Prop} (hN : an_N B F σ0 ρ A nx NX) (hk : an_gint B F x st A nx = true) : pm_gint (pm_OS none) False pm_br x stc σ NX := by
  unfold an_gint at hk
  split at hk
  · split at hk
    · rename_i b a st'
      match stc, hs with
      | [], hs => exact hs.elim
      | [_], hs => exact hs.2.elim
      | u :: v :: stc, hs =>
        split at hk
        · rename_i hi
          rw [Bool.and_eq_true, Bool.and_eq_true] at hi
          obtain ⟨w1, e1, hw1⟩ := an_cv_int hs.1 hi.1.2
          obtain ⟨w2, e2, hw2⟩ := an_cv_int hs.2.1 hi.1.1
          obtain ⟨ρ', A', c, g1, g2, g3, g4, g5⟩ := an_bin_ok h hw2 hw1 hk
          rw [e1, e2]
          unfold pm_gint
          simp only
          rw [an_cs_ok hs.2.2 hi.2]
          exact hN ρ' A' _ _ σ g1 g2 g3 (an_ls_c (an_cv_of g4) (an_ls_x g2 g3 hs.2.2)) g5
        · cases hk
    · cases hk
  · split at hk
    · rename_i b a st'
      match stc, hs with
      | [], hs => exact hs.elim
      | [_], hs => exact hs.2.elim
      | u :: v :: stc, hs =>
        split at hk
        · rename_i hi
          rw [Bool.and_eq_true, Bool.and_eq_true] at hi
          obtain ⟨w1, e1, hw1⟩ := an_cv_int hs.1 hi.1.2
          obtain ⟨w2, e2, hw2⟩ := an_cv_int hs.2.1 hi.1.1
          obtain ⟨ρ', A', c, g1, g2, g3, g4, g5⟩ := an_bin_ok h hw2 hw1 hk
          rw [e1, e2]
          unfold pm_gint
          simp only
          rw [an_cs_ok hs.2.2 hi.2]
          exact hN ρ' A' _ _ σ g1 g2 g3 (an_ls_c (an_cv_of g4) (an_ls_x g2 g3 hs.2.2)) g5
        · cases hk
    · cases hk
  · split at hk
    · rename_i a st'
      match stc, hs with
      | [], hs => exact hs.elim
      | v :: stc, hs =>
        split at hk
        · rename_i hi
          rw [Bool.and_eq_true] at hi
          obtain ⟨w2, e2, hw2⟩ := an_cv_int hs.1 hi.1
          obtain ⟨ρ', A', c, g1, g2, g3, g4, g5⟩ := an_bin_ok (y := 0) h hw2 (an_w1 rfl) hk
          rw [e2]
          unfold pm_gint
          simp only
          rw [an_cs_ok hs.2 hi.2]
          exact hN ρ' A' _ _ σ g1 g2 g3 (an_ls_c (an_cv_of g4) (an_ls_x g2 g3 hs.2)) g5
        · cases hk
    · cases hk
  · split at hk
    · rename_i n dp q sp p st'
      match stc, hs with
      | [], hs => exact hs.elim
      | [_], hs => exact hs.2.elim
      | [_, _], hs => exact hs.2.2.elim
      | [_, _, _], hs => exact hs.2.2.2.elim
      | [_, _, _, _], hs => exact hs.2.2.2.2.elim
      | v1 :: v2 :: v3 :: v4 :: v5 :: stc, hs =>
        split at hk
        · rename_i hi
          simp only [Bool.and_eq_true] at hi
          obtain ⟨⟨⟨⟨i1, i2⟩, i3⟩, i4⟩, i5⟩ := hi
          have eq3 := an_cv_ref hs.2.2.1 (Nat.eq_of_beq_eq_true i1)
          have eq5 := an_cv_ref hs.2.2.2.2.1 (Nat.eq_of_beq_eq_true i2)
          obtain ⟨wd, ed, hd, d1, d2⟩ := an_in_ok h i5 hs.2.1
          obtain ⟨wsp, es, hsp, s1, s2⟩ := an_in_ok h i4 hs.2.2.2.1
          split at hk
          · rename_i n0 n1 hl0 hl1
            split at hk
            · rename_i hj
              simp only [Bool.and_eq_true, Bool.or_eq_true, an_le_iff] at hj
              obtain ⟨⟨⟨j1, j2⟩, j3⟩, j4⟩ := hj
              obtain ⟨wn, en, hn, n1a, n1b⟩ := an_in_ok h j1 hs.1
              obtain ⟨wn', en', hn', n2a, n2b⟩ := an_in_ok h j2 hs.1
              rw [en] at en'
              cases en'
              have p1 : (pm_OS none).2.2.1 σ p.2.1 = some (0, n0, σ.1 p.2.1) := by dsimp only [pm_OS]; rw [hl0]
              have p2 : (pm_OS none).2.2.1 σ q.2.1 = some (0, n1, σ.1 q.2.1) := by dsimp only [pm_OS]; rw [hl1]
              have z0 : (0 : Int32).toInt = 0 := rfl
              have q1 : wd = 0 := Int32.toInt_inj.mp (by omega)
              have q2 : wsp = 0 := Int32.toInt_inj.mp (by omega)
              have k1 : (wn.toNatClampNeg : Int) = wn.toInt := by show ((wn.toInt.toNat : Nat) : Int) = _; omega
              have b1 : wn.toInt ≤ (n0 : Int) := n1b
              have b2 : wn.toInt ≤ (n1 : Int) := n2b
              rw [en, ed, es, eq3, eq5]
              unfold pm_gint
              simp only
              rw [an_cs_ok hs.2.2.2.2.2 i3]
              simp only
              rw [p1, p2]
              refine ⟨fun _ => ?_, fun z => absurd ⟨?_, ?_, ?_, ?_, ?_⟩ z⟩
              · refine hN ρ _ _ _ _ (an_putR_ok h (fun q hq => an_cwR h q hq) j3 (fun j' hj' => ?_)) (an_ext_rf _ _) (Nat.le_refl _) hs.2.2.2.2.2 hk
                rw [q1, q2]
                have hz : (0 : Int32).toNatClampNeg = 0 := rfl
                rw [hz]
                rw [an_lay_a hl1] at hj'
                rcases Nat.lt_or_ge j' wn.toNatClampNeg with g | g
                · rw [pk_cpy_in (by omega) (by omega)]
                  rcases j4 with j4 | j4
                  · have hr := an_row_ok h.2.2.2.2.1 (p := p.2.1) (j := 0 + (j' - 0)) (by rw [an_lay_a hl0]; omega)
                    exact an_roww_ok (by omega)
                  · have hr := h.2.2.2.2.1 p.2.1 j' (by rw [an_lay_a hl0]; omega)
                    rw [show 0 + (j' - 0) = j' by omega, ← an_beq_ok j4 j']
                    exact hr
                · rw [pk_cpy_out (by omega)]
                  exact h.2.2.2.2.1 q.2.1 j' (by rw [an_lay_a hl1]; exact hj')
              · rw [q2]; decide
              · rw [q1]; decide
              · rw [Int32.lt_iff_toInt_lt, z0]; omega
              · rw [q2]
                show 0 + wn.toNatClampNeg ≤ n0
                omega
              · rw [q1]
                show 0 + wn.toNatClampNeg ≤ n1
                omega
            · cases hk
          · cases hk
        · cases hk
    · cases hk
  · cases hk
end HP
