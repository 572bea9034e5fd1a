/-! THE ANALYSER, 3: what its states mean; values and conditions are sound -/
def an_ev (ρ : Nat → Int) (a : an_V) : Int := match a.1 with
  | 0 => ρ a.2.1 + a.2.2
  | _ => a.2.2
def an_vl (n : Nat) (a : an_V) : Prop := a.1 = 0 → a.2.1 < n
def an_w (n : Nat) (ρ : Nat → Int) (w : Int32) (a : an_V) : Prop := a.1 ≤ 1 ∧ an_vl n a ∧ w.toInt = an_ev ρ a
def an_cv (n : Nat) (ρ : Nat → Int) (v : Value) (a : an_V) : Prop := match a.1 with
  | 0 => ∃ w, v = .int w ∧ an_w n ρ w a
  | 1 => ∃ w, v = .int w ∧ an_w n ρ w a
  | 2 => v = .ref a.2.1
  | 3 => v = .retAddr a.2.1
  | 4 => ∃ w, v = .long w ∧ (a.2.1 = 1 → w.toInt = a.2.2)
  | 5 => v.category = 1
  | _ => True
def an_ls (n : Nat) (ρ : Nat → Int) : List Value → List an_V → Prop
  | [], [] => True
  | v :: vs, a :: as => an_cv n ρ v a ∧ an_ls n ρ vs as
  | _, _ => False
def an_len (p : Nat) : Nat := match pm_nth pm_lay p with
  | some (.inl (_, n)) => n
  | some (.inr (_, fs)) => fs.length
  | none => 0
def an_GB (B : an_B) (σ : pm_S) : Prop := ∀ p j, j < an_len p → (an_bd B p j).1 ≤ (σ.1 p j).toInt ∧ (σ.1 p j).toInt ≤ (an_bd B p j).2
def an_rs (ρ : Nat → Int) (q : Nat × Nat × Nat × Int) : Prop := match q.1 with
  | 1 => ρ q.2.1 ≤ ρ q.2.2.1 + q.2.2.2
  | 2 => (ρ q.2.1).natAbs < (ρ q.2.2.1).natAbs
  | 3 => ρ q.2.1 ≠ q.2.2.2
  | 100 => ρ q.2.1 = q.2.2.2
  | n => (101 ≤ n ∧ n < 200 → ρ q.2.1 = ((n - 100 : Nat) : Int) * ρ q.2.2.1 + q.2.2.2) ∧ (200 ≤ n → ρ q.2.1 ≤ ((n - 200 : Nat) : Int) * ρ q.2.2.1 + q.2.2.2)
/-- a cell holds what is said of it -/
def an_cw (n : Nat) (ρ : Nat → Int) (σ : pm_S) (q : Nat × an_V × an_V) : Prop := q.2.1.1 ≤ 1 ∧ an_vl n q.2.1 ∧ 0 ≤ an_ev ρ q.2.1 ∧ an_w n ρ (σ.1 q.1 (an_ev ρ q.2.1).toNat) q.2.2
def an_ok (B : an_B) (F : List (Nat × Nat)) (σ0 : pm_S) (ρ : Nat → Int) (A : an_A) (σ : pm_S) : Prop :=
  (∀ q ∈ A.2.1, q.1 < A.1 ∧ q.2.1 ≤ ρ q.1 ∧ ρ q.1 ≤ q.2.2) ∧
  (∀ q ∈ A.2.2.1, q.2.1 < A.1 ∧ q.2.2.1 < A.1 ∧ an_rs ρ q) ∧
  (∀ q ∈ A.2.2.2.1, q.2.2.2 < A.1 ∧ an_vl A.1 q.2.1 ∧ an_vl A.1 q.2.2.1 ∧ (an_f q.1 (Int32.ofInt (an_ev ρ q.2.1)) (Int32.ofInt (an_ev ρ q.2.2.1))).toInt = ρ q.2.2.2) ∧
  (∀ q ∈ A.2.2.2.2, an_cw A.1 ρ σ q) ∧ an_GB B σ ∧ (∀ p j, an_inF F p j = false → σ.1 p j = σ0.1 p j)
def an_ext (ρ ρ' : Nat → Int) (n : Nat) : Prop := ∀ s, s < n → ρ' s = ρ s
theorem an_ext_rf (ρ : Nat → Int) (n : Nat) : an_ext ρ ρ n := fun _ _ => rfl
theorem an_ext_tr {ρ ρ' ρ'' : Nat → Int} {n n' : Nat} (h : an_ext ρ ρ' n) (h' : an_ext ρ' ρ'' n') (hn : n ≤ n') : an_ext ρ ρ'' n := fun s hs => (h' s (by omega)).trans (h s hs)
theorem an_ev_x {ρ ρ' : Nat → Int} {n : Nat} {a : an_V} (h : an_ext ρ ρ' n) (ha : an_vl n a) : an_ev ρ' a = an_ev ρ a := by
  unfold an_ev
  split
  · rename_i e; rw [h _ (ha e)]
  · rfl
theorem an_vl_x {n n' : Nat} {a : an_V} (ha : an_vl n a) (hn : n ≤ n') : an_vl n' a := fun e => Nat.lt_of_lt_of_le (ha e) hn
theorem an_w_x {ρ ρ' : Nat → Int} {n n' : Nat} {w : Int32} {a : an_V} (hw : an_w n ρ w a) (h : an_ext ρ ρ' n) (hn : n ≤ n') : an_w n' ρ' w a := ⟨hw.1, an_vl_x hw.2.1 hn, by rw [hw.2.2, an_ev_x h hw.2.1]⟩
theorem an_cw_x {ρ ρ' : Nat → Int} {n n' : Nat} {σ : pm_S} {q : Nat × an_V × an_V} (hq : an_cw n ρ σ q) (h : an_ext ρ ρ' n) (hn : n ≤ n') : an_cw n' ρ' σ q := ⟨hq.1, an_vl_x hq.2.1 hn, by rw [an_ev_x h hq.2.1]; exact ⟨hq.2.2.1, an_w_x hq.2.2.2 h hn⟩⟩
theorem an_cv_x {ρ ρ' : Nat → Int} {n n' : Nat} {v : Value} {a : an_V} (hv : an_cv n ρ v a) (h : an_ext ρ ρ' n) (hn : n ≤ n') : an_cv n' ρ' v a := by
  unfold an_cv at hv ⊢
  split at hv
  · obtain ⟨w, e, hw⟩ := hv; exact ⟨w, e, an_w_x hw h hn⟩
  · obtain ⟨w, e, hw⟩ := hv; exact ⟨w, e, an_w_x hw h hn⟩
  · exact hv
  · exact hv
  · exact hv
  · exact hv
  · trivial
theorem an_ls_x {ρ ρ' : Nat → Int} {n n' : Nat} (h : an_ext ρ ρ' n) (hn : n ≤ n') : ∀ {vs : List Value} {as : List an_V}, an_ls n ρ vs as → an_ls n' ρ' vs as
  | [], [], _ => trivial
  | _ :: _, _ :: _, hv => ⟨an_cv_x hv.1 h hn, an_ls_x h hn hv.2⟩
  | [], _ :: _, hv => hv.elim
  | _ :: _, [], hv => hv.elim
theorem an_cv_int {n : Nat} {ρ : Nat → Int} {v : Value} {a : an_V} (h : an_cv n ρ v a) (hi : an_isI a = true) : ∃ w, v = .int w ∧ an_w n ρ w a := by
  have h1 : a.1 ≤ 1 := Nat.le_of_ble_eq_true hi
  unfold an_cv at h
  split at h
  · exact h
  · exact h
  · omega
  · omega
  · omega
  · omega
  · rename_i g0 g1 g2 g3 g4 g5
    exfalso
    rcases (show a.1 = 0 ∨ a.1 = 1 by omega) with q | q
    · exact g0 q
    · exact g1 q
theorem an_cv_of {n : Nat} {ρ : Nat → Int} {w : Int32} {a : an_V} (h : an_w n ρ w a) : an_cv n ρ (.int w) a := by
  have h1 := h.1
  unfold an_cv
  rcases (show a.1 = 0 ∨ a.1 = 1 by omega) with q | q
  · rw [q]; exact ⟨w, rfl, h⟩
  · rw [q]; exact ⟨w, rfl, h⟩
theorem an_w1 {n : Nat} {ρ : Nat → Int} {w : Int32} {l : Int} (h : w.toInt = l) : an_w n ρ w (1, 0, l) := ⟨Nat.le_refl 1, fun z => absurd (show (1 : Nat) = 0 from z) (by decide), h⟩
theorem an_w0 {n : Nat} {ρ : Nat → Int} {w : Int32} {s : Nat} (hs : s < n) (h : w.toInt = ρ s + 0) : an_w n ρ w (0, s, 0) := ⟨Nat.zero_le 1, fun _ => hs, h⟩
section SND
variable {B : an_B} {F : List (Nat × Nat)} {σ0 : pm_S} {ρ : Nat → Int} {A : an_A} {σ : pm_S}
theorem an_fd_ok {L : List (Nat × Int × Int)} {s : Nat} {r : Int × Int} (h : an_fd L s = some r) : (s, r) ∈ L := by
  induction L with
  | nil => cases h
  | cons q qs ih =>
    unfold an_fd at h
    split at h
    · rename_i e
      cases h
      have := Nat.eq_of_beq_eq_true e
      rw [← this]
      exact List.mem_cons_self
    · exact List.mem_cons_of_mem _ (ih h)
theorem an_rg_ok (h : an_ok B F σ0 ρ A σ) {w : Int32} {a : an_V} (hw : an_w A.1 ρ w a) : (an_rg A.2.1 a).1 ≤ w.toInt ∧ w.toInt ≤ (an_rg A.2.1 a).2 := by
  obtain ⟨h1, h2, h3⟩ := hw
  unfold an_rg
  split
  · rename_i e
    split
    · rename_i l g hf
      have := h.1 _ (an_fd_ok hf)
      rw [h3]
      unfold an_ev
      rw [e]
      simp only at this ⊢
      omega
    · exact an_full_ok w
  · rename_i e
    have e1 : a.1 = 1 := by
      rcases (show a.1 = 0 ∨ a.1 = 1 by omega) with q | q
      · exact absurd q e
      · exact q
    rw [h3]
    unfold an_ev
    rw [e1]
    simp only
    omega
theorem an_push (h : an_ok B F σ0 ρ A σ) (v : Int) : an_ok B F σ0 (fun s => if s = A.1 then v else ρ s) (A.1 + 1, A.2) σ ∧ an_ext ρ (fun s => if s = A.1 then v else ρ s) A.1 := by
  obtain ⟨h1, h2, h3, h4, h5, h6⟩ := h
  have hx : an_ext ρ (fun s => if s = A.1 then v else ρ s) A.1 := fun s hs => by
    show (if s = A.1 then v else ρ s) = ρ s
    rw [if_neg (by omega)]
  refine ⟨⟨fun q hq => ?_, fun q hq => ?_, fun q hq => ?_, fun q hq => an_cw_x (h4 q hq) hx (by show A.1 ≤ A.1 + 1; omega), h5, h6⟩, hx⟩
  · have := h1 q hq
    rw [hx _ this.1]
    exact ⟨by show q.1 < A.1 + 1; omega, this.2⟩
  · obtain ⟨g1, g2, g3⟩ := h2 q hq
    refine ⟨by show q.2.1 < A.1 + 1; omega, by show q.2.2.1 < A.1 + 1; omega, ?_⟩
    unfold an_rs at g3 ⊢
    rw [hx _ g1, hx _ g2]
    exact g3
  · obtain ⟨g1, g2, g3, g4⟩ := h3 q hq
    refine ⟨by show q.2.2.2 < A.1 + 1; omega, an_vl_x g2 (by show A.1 ≤ A.1 + 1; omega), an_vl_x g3 (by show A.1 ≤ A.1 + 1; omega), ?_⟩
    rw [an_ev_x hx g2, an_ev_x hx g3, hx _ g1]
    exact g4
theorem an_addF (h : an_ok B F σ0 ρ A σ) {s : Nat} {l g : Int} (hs : s < A.1) (h1 : l ≤ ρ s) (h2 : ρ s ≤ g) : an_ok B F σ0 ρ (A.1, (s, l, g) :: A.2.1, A.2.2) σ := by
  obtain ⟨k1, k2⟩ := h
  refine ⟨fun q hq => ?_, k2⟩
  rcases List.mem_cons.mp hq with e | e
  · rw [e]; exact ⟨hs, h1, h2⟩
  · exact k1 q e
theorem an_new_ok (h : an_ok B F σ0 ρ A σ) {l g : Int} {k : an_A → an_V → Bool} (hk : an_new A l g k = true) {w : Int32} (h1 : l ≤ w.toInt) (h2 : w.toInt ≤ g) : ∃ ρ' A' a, an_ok B F σ0 ρ' A' σ ∧ an_ext ρ ρ' A.1 ∧ A.1 ≤ A'.1 ∧ an_w A'.1 ρ' w a ∧ k A' a = true ∧ A'.2.2.2.2 = A.2.2.2.2 := by
  unfold an_new at hk
  rw [an_fI_eq, an_fI_eq] at hk
  split at hk
  · rename_i e
    rw [an_eq_iff] at e
    exact ⟨ρ, A, _, h, an_ext_rf _ _, Nat.le_refl _, an_w1 (by omega), hk, rfl⟩
  · rw [an_fN_eq] at hk
    obtain ⟨p1, p2⟩ := an_push h w.toInt
    refine ⟨_, (A.1 + 1, (A.1, l, g) :: A.2.1, A.2.2), (0, A.1, 0), an_addF (A := (A.1 + 1, A.2)) p1 (by show A.1 < A.1 + 1; omega) ?_ ?_, p2, by show A.1 ≤ A.1 + 1; omega, an_w0 (by show A.1 < A.1 + 1; omega) ?_, hk, rfl⟩
    · show l ≤ (if A.1 = A.1 then w.toInt else ρ A.1); rw [if_pos rfl]; exact h1
    · show (if A.1 = A.1 then w.toInt else ρ A.1) ≤ g; rw [if_pos rfl]; exact h2
    · show w.toInt = (if A.1 = A.1 then w.toInt else ρ A.1) + 0; rw [if_pos rfl]; omega
theorem an_cse_ok {o : Nat} {a b : an_V} : ∀ {L : List (Nat × an_V × an_V × Nat)} {s : Nat}, an_cse L o a b = some s → (o, a, b, s) ∈ L := by
  intro L
  induction L with
  | nil => intro s h; cases h
  | cons q qs ih =>
    intro s h
    unfold an_cse at h
    split at h
    · rename_i e
      cases h
      simp only [Bool.and_eq_true] at e
      have e1 := Nat.eq_of_beq_eq_true e.1.1
      have e2 := an_veq_ok e.1.2
      have e3 := an_veq_ok e.2
      rw [← e1, ← e2, ← e3]
      exact List.mem_cons_self
    · exact List.mem_cons_of_mem _ (ih h)
theorem an_w_of {n : Nat} {w : Int32} {a : an_V} (h : an_w n ρ w a) : w = Int32.ofInt (an_ev ρ a) := by rw [← h.2.2, ai_as]
theorem an_w_sym {n : Nat} {w : Int32} {a : an_V} (h : an_w n ρ w a) (e : a.1 = 0) : a.2.1 < n ∧ w.toInt = ρ a.2.1 + a.2.2 := by
  refine ⟨h.2.1 e, ?_⟩
  rw [h.2.2]
  unfold an_ev
  rw [e]
  rfl
theorem an_w_num {n : Nat} {w : Int32} {a : an_V} (h : an_w n ρ w a) (e : a.1 = 1) : w.toInt = a.2.2 := by
  rw [h.2.2]
  unfold an_ev
  rw [e]
  rfl
theorem an_dsR_ok {s : Nat} {c : Int} : ∀ {R : List (Nat × Nat × Nat × Int)}, an_dsR R s c = true → ∃ q ∈ R, q.1 = 3 ∧ q.2.1 = s ∧ q.2.2.2 = c := by
  intro R
  induction R with
  | nil => intro h; cases h
  | cons q qs ih =>
    intro h
    unfold an_dsR at h
    split at h
    · rename_i e
      rw [Bool.and_eq_true, Bool.and_eq_true, an_eq_iff] at e
      exact ⟨q, List.mem_cons_self, Nat.eq_of_beq_eq_true e.1.1, Nat.eq_of_beq_eq_true e.1.2, e.2⟩
    · obtain ⟨q', h1, h2⟩ := ih h
      exact ⟨q', List.mem_cons_of_mem _ h1, h2⟩
theorem an_dsA (h : an_ok B F σ0 ρ A σ) {s : Nat} {c : Int} (hk : an_dsR A.2.2.1 s c = true) : ρ s ≠ c := by
  obtain ⟨q, h1, h2, h3, h4⟩ := an_dsR_ok hk
  have := (h.2.1 q h1).2.2
  unfold an_rs at this
  rw [h2] at this
  have this2 : ρ q.2.1 ≠ q.2.2.2 := this
  rw [h3, h4] at this2
  exact this2
theorem an_nz_ok (h : an_ok B F σ0 ρ A σ) {b : an_V} {w : Int32} (hw : an_w A.1 ρ w b) (hk : an_nz A b = true) : ¬ w = 0 := by
  have r := an_rg_ok h hw
  unfold an_nz at hk
  split at hk
  rename_i l g e
  rw [e] at r
  simp only at r
  have h0 : (0 : Int32).toInt = 0 := rfl
  intro e0
  rw [e0, h0] at r
  simp only [Bool.or_eq_true, an_le_iff, Bool.and_eq_true] at hk
  rcases hk with (q | q) | q
  · omega
  · omega
  · have q1 := Nat.eq_of_beq_eq_true q.1
    have := an_dsA h q.2
    obtain ⟨-, g3⟩ := an_w_sym hw q1
    rw [e0, h0] at g3
    omega
theorem ai_xnx : ∀ n, n < 1024 → 1 ≤ n → 1 ≤ (nI n &&& -nI n).toInt := by decide +kernel
theorem ai_rabs {x y : Int32} (hy : ¬ y = 0) : (x - x / y * y).toInt.natAbs < y.toInt.natAbs := by
  have h0 : y.toInt ≠ 0 := fun e => hy (Int32.toInt_inj.mp e)
  by_cases hm : y = -1
  · -- every number is a multiple of -1
    have e : x / y * y = x := by
      apply Int32.toInt_inj.mp
      rw [Int32.toInt_mul, Int32.toInt_div, hm, show (-1 : Int32).toInt = -1 from by decide]
      rw [show x.toInt.tdiv (-1) = -x.toInt by rw [Int.tdiv_neg, Int.tdiv_one]]
      have r := ai_rng x
      by_cases hq : x.toInt = -2147483648
      · rw [hq]; decide
      · have e1 : (-x.toInt).bmod (2 ^ 32) = -x.toInt := ai_bmod (by omega) (by omega)
        rw [e1, ai_bmod (by omega) (by omega)]
        omega
    rw [e, hm]
    have : (x - x).toInt = 0 := by rw [ai_sub (by omega) (by omega)]; omega
    rw [this]
    decide
  · have hd : (x / y).toInt = x.toInt.tdiv y.toInt := Int32.toInt_div_of_ne_right x y hm
    have rx := ai_rng x
    have ry := ai_rng y
    have hmd : x.toInt.tmod y.toInt = x.toInt - y.toInt * x.toInt.tdiv y.toInt := Int.tmod_def _ _
    have hq : x.toInt.tdiv y.toInt * y.toInt = x.toInt - x.toInt.tmod y.toInt := by rw [hmd, Int.mul_comm]; omega
    have hab : (x.toInt.tmod y.toInt).natAbs = x.toInt.natAbs % y.toInt.natAbs := Int.natAbs_tmod _ _
    have hlt : x.toInt.natAbs % y.toInt.natAbs < y.toInt.natAbs := Nat.mod_lt _ (by omega)
    have hle : x.toInt.natAbs % y.toInt.natAbs ≤ x.toInt.natAbs := Nat.mod_le _ _
    have hsg : (0 ≤ x.toInt → 0 ≤ x.toInt.tmod y.toInt) ∧ (x.toInt ≤ 0 → x.toInt.tmod y.toInt ≤ 0) := by
      refine ⟨fun h => Int.tmod_nonneg _ h, fun h => ?_⟩
      have := Int.tmod_nonneg (a := -x.toInt) y.toInt (by omega)
      rw [Int.neg_tmod] at this
      omega
    have hmul : (x / y * y).toInt = x.toInt.tdiv y.toInt * y.toInt := by
      rw [ai_mul, hd]
      · rw [hd, hq]; rcases Int.le_total 0 x.toInt with q | q
        · have := hsg.1 q; omega
        · have := hsg.2 q; omega
      · rw [hd, hq]; rcases Int.le_total 0 x.toInt with q | q
        · have := hsg.1 q; omega
        · have := hsg.2 q; omega
    have hs : (x - x / y * y).toInt = x.toInt.tmod y.toInt := by
      rw [ai_sub, hmul, hq]
      · omega
      · rw [hmul, hq]; omega
      · rw [hmul, hq]; omega
    rw [hs, hab]
    exact hlt
/-- what is said of a result beside its interval is so -/
theorem an_rl_ok (h : an_ok B F σ0 ρ A σ) {o : Nat} {a b : an_V} {x y : Int32} (hx : an_w A.1 ρ x a) (hy : an_w A.1 ρ y b) : ∀ q ∈ an_rl o a b A, q.2.1 = A.1 ∧ q.2.2.1 < A.1 ∧ ((q.1 = 1 ∧ (an_f o x y).toInt ≤ ρ q.2.2.1 + q.2.2.2) ∨ (q.1 = 2 ∧ (an_f o x y).toInt.natAbs < (ρ q.2.2.1).natAbs)) := by
  intro q hq
  have rx := an_rg_ok h hx
  have ry := an_rg_ok h hy
  have sw : x &&& y = y &&& x := by
    apply Int32.toBitVec_inj.mp
    rw [Int32.toBitVec_and, Int32.toBitVec_and, BitVec.and_comm]
  unfold an_rl at hq
  split at hq
  · rcases List.mem_append.mp hq with hq | hq
    · split at hq
      · rename_i e1 e2
        rw [an_le_iff] at e2
        simp only [List.mem_singleton] at hq
        rw [hq]
        obtain ⟨g1, g2⟩ := an_w_sym hx e1
        refine ⟨rfl, g1, Or.inl ⟨rfl, ?_⟩⟩
        have := ai_and (x := x) (y := y) (by omega)
        show (x &&& y).toInt ≤ ρ a.2.1 + a.2.2
        omega
      · cases hq
    · split at hq
      · rename_i e1 e2
        rw [an_le_iff] at e2
        simp only [List.mem_singleton] at hq
        rw [hq]
        obtain ⟨g1, g2⟩ := an_w_sym hy e1
        refine ⟨rfl, g1, Or.inl ⟨rfl, ?_⟩⟩
        have := ai_and (x := y) (y := x) (by omega)
        show (x &&& y).toInt ≤ ρ b.2.1 + b.2.2
        rw [sw]
        omega
      · cases hq
  · rcases List.mem_append.mp hq with hq | hq
    · split at hq
      · rename_i e1 e2
        rw [an_le_iff] at e2
        simp only [List.mem_singleton] at hq
        rw [hq]
        obtain ⟨g1, g2⟩ := an_w_sym hy e1
        refine ⟨rfl, g1, Or.inl ⟨rfl, ?_⟩⟩
        show (x - x / y * y).toInt ≤ ρ b.2.1 + (b.2.2 - 1)
        rw [ai_rem (by omega)]
        have b1 : x.toInt.tmod y.toInt < y.toInt := Int.tmod_lt_of_pos _ (by omega)
        omega
      · cases hq
    · split at hq
      · rename_i e1 e2
        rw [Bool.and_eq_true, an_eq_iff] at e2
        simp only [List.mem_singleton] at hq
        rw [hq]
        obtain ⟨g1, g2⟩ := an_w_sym hy e1
        refine ⟨rfl, g1, Or.inr ⟨rfl, ?_⟩⟩
        show (x - x / y * y).toInt.natAbs < (ρ b.2.1).natAbs
        have := ai_rabs (x := x) (an_nz_ok h hy e2.2)
        rw [g2, e2.1, Int.add_zero] at this
        exact this
      · cases hq
  · cases hq
/-- x and -x -/
theorem an_lo3_ok (h : an_ok B F σ0 ρ A σ) {o : Nat} {a b : an_V} {x y : Int32} (hx : an_w A.1 ρ x a) (hy : an_w A.1 ρ y b) {l : Int} (hl : l ≤ (an_f o x y).toInt) : an_lo3 o a b A l ≤ (an_f o x y).toInt := by
  unfold an_lo3
  split
  · split
    · rename_i s hs
      split
      · rename_i q
        rw [Bool.and_eq_true, Bool.and_eq_true, an_le_iff, an_le_iff] at q
        have rx := an_rg_ok h hx
        have g := h.2.2.1 _ (an_cse_ok hs)
        have g4 := g.2.2.2
        dsimp only at g4
        have eb := an_veq_ok q.1.1
        have ey : y.toInt = ρ s := by
          rw [hy.2.2, eb]
          show ρ s + 0 = ρ s
          omega
        rw [← an_w_of hx] at g4
        have ey2 : y = -x := Int32.toInt_inj.mp (by rw [ey, ← g4]; rfl)
        obtain ⟨n, hn, en, en'⟩ := ai_nn (x := x) (by omega)
        have key := ai_xnx n (by omega) (by omega)
        have m := an_max_le l 1
        show an_max l 1 ≤ (x &&& y).toInt
        rw [ey2, en]
        have hl' : l ≤ (nI n &&& -nI n).toInt := by rw [← en, ← ey2]; exact hl
        omega
      · exact hl
    · exact hl
  · exact hl
abbrev an_res (B : an_B) (F : List (Nat × Nat)) (σ0 : pm_S) (ρ : Nat → Int) (A : an_A) (σ : pm_S) (k : an_A → an_V → Bool) (w : Int32) : Prop := ∃ ρ' A' a, an_ok B F σ0 ρ' A' σ ∧ an_ext ρ ρ' A.1 ∧ A.1 ≤ A'.1 ∧ an_w A'.1 ρ' w a ∧ k A' a = true
theorem an_gen_ok (h : an_ok B F σ0 ρ A σ) {o : Nat} {a b : an_V} {x y : Int32} (hx : an_w A.1 ρ x a) (hy : an_w A.1 ρ y b) {k : an_A → an_V → Bool} (hk : an_gen o a b A k = true) : an_res B F σ0 ρ A σ k (an_f o x y) := by
  unfold an_gen at hk
  split at hk
  · rename_i s e
    have g := h.2.2.1 _ (an_cse_ok e)
    refine ⟨ρ, A, _, h, an_ext_rf _ _, Nat.le_refl _, an_w0 g.1 ?_, hk⟩
    show (an_f o x y).toInt = ρ s + 0
    have g4 := g.2.2.2
    simp only at g4
    rw [an_w_of hx, an_w_of hy, g4]
    omega
  · split at hk
    rename_i la ha lb hb e1 e2
    have rx := an_rg_ok h hx
    have ry := an_rg_ok h hy
    rw [e1] at rx
    rw [e2] at ry
    have hv := an_iv2_ok (o := o) rx.1 rx.2 ry.1 ry.2
    split at hk
    rename_i l g e3
    rw [e3] at hv
    simp only at hv
    have hv := And.intro (an_lo3_ok h hx hy hv.1) hv.2
    rw [an_fI_eq, an_fI_eq] at hk
    generalize an_lo3 o a b A l = l at hv hk
    split at hk
    · rename_i e
      rw [an_eq_iff] at e
      exact ⟨ρ, A, _, h, an_ext_rf _ _, Nat.le_refl _, an_w1 (by omega), hk⟩
    · rw [an_fN_eq] at hk
      have rl := an_rl_ok (o := o) h hx hy
      obtain ⟨p1, p2⟩ := an_push h (an_f o x y).toInt
      obtain ⟨k1, k2, k3, k4⟩ := an_addF (A := (A.1 + 1, A.2)) (s := A.1) (l := l) (g := g) p1 (by show A.1 < A.1 + 1; omega) (by show l ≤ (if A.1 = A.1 then (an_f o x y).toInt else ρ A.1); rw [if_pos rfl]; exact hv.1) (by show (if A.1 = A.1 then (an_f o x y).toInt else ρ A.1) ≤ g; rw [if_pos rfl]; exact hv.2)
      refine ⟨_, (A.1 + 1, (A.1, l, g) :: A.2.1, an_rl o a b A ++ A.2.2.1, (o, a, b, A.1) :: A.2.2.2.1, A.2.2.2.2), (0, A.1, 0), ⟨k1, fun q hq => ?_, fun q hq => ?_, k4⟩, p2, by show A.1 ≤ A.1 + 1; omega, an_w0 (by show A.1 < A.1 + 1; omega) ?_, hk⟩
      · rcases List.mem_append.mp hq with hq | hq
        · obtain ⟨r2, r3, r4⟩ := rl q hq
          refine ⟨by show q.2.1 < A.1 + 1; omega, by show q.2.2.1 < A.1 + 1; omega, ?_⟩
          unfold an_rs
          rcases r4 with ⟨r1, r4⟩ | ⟨r1, r4⟩
          · rw [r1]
            show (if q.2.1 = A.1 then (an_f o x y).toInt else ρ q.2.1) ≤ (if q.2.2.1 = A.1 then (an_f o x y).toInt else ρ q.2.2.1) + q.2.2.2
            rw [if_pos r2, if_neg (by omega)]
            exact r4
          · rw [r1]
            show (if q.2.1 = A.1 then (an_f o x y).toInt else ρ q.2.1).natAbs < (if q.2.2.1 = A.1 then (an_f o x y).toInt else ρ q.2.2.1).natAbs
            rw [if_pos r2, if_neg (by omega)]
            exact r4
        · exact k2 q hq
      · rcases List.mem_cons.mp hq with hq | hq
        · rw [hq]
          refine ⟨by show A.1 < A.1 + 1; omega, an_vl_x hx.2.1 (by show A.1 ≤ A.1 + 1; omega), an_vl_x hy.2.1 (by show A.1 ≤ A.1 + 1; omega), ?_⟩
          show (an_f o (Int32.ofInt (an_ev _ a)) (Int32.ofInt (an_ev _ b))).toInt = (if A.1 = A.1 then (an_f o x y).toInt else ρ A.1)
          rw [if_pos rfl, an_ev_x p2 hx.2.1, an_ev_x p2 hy.2.1, ← an_w_of hx, ← an_w_of hy]
        · exact k3 q hq
      · show (an_f o x y).toInt = (if A.1 = A.1 then (an_f o x y).toInt else ρ A.1) + 0; rw [if_pos rfl]; omega
theorem an_off_ok (h : an_ok B F σ0 ρ A σ) {a : an_V} {x z : Int32} {d : Int} (hx : an_w A.1 ρ x a) {k : an_A → an_V → Bool} {els : Bool} (hk : an_off a d A k els = true) (hz : -2147483648 ≤ x.toInt + d → x.toInt + d ≤ 2147483647 → z.toInt = x.toInt + d) : an_res B F σ0 ρ A σ k z ∨ els = true := by
  unfold an_off at hk
  split at hk
  rename_i l g e
  have rx := an_rg_ok h hx
  rw [e] at rx
  simp only at rx
  split at hk
  · rename_i q
    rw [Bool.and_eq_true, an_le_iff, an_le_iff, an_mn_eq, an_mx_eq] at q
    rw [an_fI_eq] at hk
    refine Or.inl ⟨ρ, A, (a.1, a.2.1, a.2.2 + d), h, an_ext_rf _ _, Nat.le_refl _, ⟨hx.1, hx.2.1, ?_⟩, hk⟩
    rw [hz (by omega) (by omega), hx.2.2]
    unfold an_ev
    dsimp only
    split
    · omega
    · rfl
  · exact Or.inr hk
theorem an_bin_ok (h : an_ok B F σ0 ρ A σ) {o : Nat} {a b : an_V} {x y : Int32} (hx : an_w A.1 ρ x a) (hy : an_w A.1 ρ y b) {k : an_A → an_V → Bool} (hk : an_bin o a b A k = true) : an_res B F σ0 ρ A σ k (an_f o x y) := by
  unfold an_bin at hk
  split at hk
  · rename_i e1 e2
    rw [an_fI_eq] at hk
    refine ⟨ρ, A, _, h, an_ext_rf _ _, Nat.le_refl _, an_w1 ?_, hk⟩
    show (an_f o x y).toInt = (an_f o (Int32.ofInt a.2.2) (Int32.ofInt b.2.2)).toInt
    rw [← an_w_num hx e1, ← an_w_num hy e2, ai_as, ai_as]
  · rename_i e1 e2
    have hyn := an_w_num hy e2
    split at hk
    · rcases an_off_ok (z := an_f 0 x y) h hx hk (fun q1 q2 => by show (x + y).toInt = _; rw [ai_add (by omega) (by omega)]; omega) with q | q
      · exact q
      · exact an_gen_ok h hx hy q
    · rcases an_off_ok (z := an_f 1 x y) h hx hk (fun q1 q2 => by show (x - y).toInt = _; rw [ai_sub (by omega) (by omega)]; omega) with q | q
      · exact q
      · exact an_gen_ok h hx hy q
    · split at hk
      · rename_i q
        rw [Bool.and_eq_true, an_le_iff, an_le_iff] at q
        have rx := an_rg_ok h hx
        refine ⟨ρ, A, _, h, an_ext_rf _ _, Nat.le_refl _, ⟨hx.1, hx.2.1, ?_⟩, hk⟩
        obtain ⟨j, hj, ej, ej'⟩ := ai_nn (x := x) (by omega)
        show ((x.toUInt32 % 65536).toInt32).toInt = _
        rw [pk_char, nI_toInt (by omega), ← hx.2.2, ej']
        have hn : x.toBitVec.toNat = j := by
          have h2 : x.toBitVec = BitVec.ofNat 32 j := by rw [ej]; rfl
          rw [h2, BitVec.toNat_ofNat, Nat.mod_eq_of_lt (by omega)]
        rw [hn, Nat.mod_eq_of_lt (by omega)]
      · exact an_gen_ok h hx hy hk
    · exact an_gen_ok h hx hy hk
  · rename_i e1 e2
    have hxn := an_w_num hx e1
    split at hk
    · rcases an_off_ok (z := an_f 0 x y) h hy hk (fun q1 q2 => by show (x + y).toInt = _; rw [ai_add (by omega) (by omega)]; omega) with q | q
      · exact q
      · exact an_gen_ok h hx hy q
    · exact an_gen_ok h hx hy hk
  · exact an_gen_ok h hx hy hk
  · cases hk
theorem an_kr_ok (h : an_ok B F σ0 ρ A σ) {u : Nat} {x : Int} : ∀ {R : List (Nat × Nat × Nat × Int)}, (∀ q ∈ R, q ∈ A.2.2.1) → an_kr A.2.1 u R = some x → ρ u = x := by
  intro R
  induction R with
  | nil => intro _ hk; cases hk
  | cons q qs ih =>
    intro hR hk
    unfold an_kr at hk
    split at hk
    · rename_i e
      simp only [Bool.and_eq_true] at e
      have e1 := Nat.eq_of_beq_eq_true e.1.1
      have e2 := Nat.le_of_ble_eq_true e.1.2
      have e3 := Nat.le_of_ble_eq_true e.2
      split at hk
      · rename_i l g hf
        split at hk
        · rename_i el
          rw [an_eq_iff] at el
          cases hk
          have hq := h.1 _ (an_fd_ok hf)
          dsimp only at hq
          have hl : ρ q.2.2.1 = l := by omega
          have := (h.2.1 q (hR q List.mem_cons_self)).2.2
          unfold an_rs at this
          split at this
          · omega
          · omega
          · omega
          · omega
          · have := this.1 ⟨by omega, by omega⟩
            rw [hl] at this
            rw [← e1]
            exact this
        · cases hk
      · cases hk
    · exact ih (fun q hq => hR q (List.mem_cons_of_mem _ hq)) hk
theorem an_kv_ok (h : an_ok B F σ0 ρ A σ) {w : Int32} {v : an_V} {x : Int} (hw : an_w A.1 ρ w v) (hx : an_kv A v = some x) : w.toInt = x := by
  unfold an_kv at hx
  split at hx
  · rename_i e; cases hx; exact an_w_num hw e
  · rename_i e
    split at hx
    rename_i l2 g2 e2
    split at hx
    · rename_i q
      rw [an_eq_iff] at q
      cases hx
      have r := an_rg_ok h hw
      rw [e2] at r
      simp only at r
      omega
    · split at hx
      · rename_i y hy
        cases hx
        have := an_kr_ok h (fun q hq => hq) hy
        obtain ⟨-, g3⟩ := an_w_sym hw e
        omega
      · cases hx
  · cases hx
theorem an_nm_ok (h : an_ok B F σ0 ρ A σ) {a : an_V} {k : an_V → Bool} (hk : an_nm A a k = true) : ∃ a', k a' = true ∧ (∀ v, an_cv A.1 ρ v a → an_cv A.1 ρ v a') ∧ (∀ w, an_w A.1 ρ w a → an_w A.1 ρ w a') := by
  unfold an_nm at hk
  split at hk
  · rename_i e
    split at hk
    · rename_i l q
      rw [an_fI_eq] at hk
      have key : ∀ w, an_w A.1 ρ w a → an_w A.1 ρ w (1, 0, l) := fun w hw => an_w1 (an_kv_ok h hw q)
      refine ⟨_, hk, fun v hv => ?_, key⟩
      obtain ⟨w, e5, hw⟩ := an_cv_int hv (by unfold an_isI; rw [e]; rfl)
      rw [e5]
      exact an_cv_of (key w hw)
    · exact ⟨a, hk, fun v hv => hv, fun w hw => hw⟩
  · exact ⟨a, hk, fun v hv => hv, fun w hw => hw⟩
/-! conditions -/
def an_sem (n : Nat) (u v : Int) : Prop := match n with
  | 0 => u = v
  | 1 => u ≠ v
  | 2 => u < v
  | 3 => v ≤ u
  | 4 => v < u
  | _ => u ≤ v
abbrev an_rf (B : an_B) (F : List (Nat × Nat)) (σ0 : pm_S) (ρ : Nat → Int) (A : an_A) (σ : pm_S) (r : Option an_A) : Prop := ∃ A', r = some A' ∧ an_ok B F σ0 ρ A' σ ∧ A'.1 = A.1
theorem an_sHi_ok (h : an_ok B F σ0 ρ A σ) {a : an_V} {x : Int32} (hx : an_w A.1 ρ x a) {g : Int} (hg : x.toInt ≤ g) : an_rf B F σ0 ρ A σ (an_sHi A a g) := by
  unfold an_sHi
  split
  rename_i l g2 e
  have r := an_rg_ok h hx
  rw [e] at r
  simp only at r
  split
  · rename_i q
    have := an_le_false q
    omega
  · split
    · rename_i e1
      split
      · exact ⟨A, rfl, h, rfl⟩
      · rw [an_fI_eq, an_fI_eq]
        obtain ⟨g1, g3⟩ := an_w_sym hx e1
        exact ⟨_, rfl, an_addF h g1 (by omega) (by omega), rfl⟩
    · exact ⟨A, rfl, h, rfl⟩
theorem an_sLo_ok (h : an_ok B F σ0 ρ A σ) {a : an_V} {x : Int32} (hx : an_w A.1 ρ x a) {l : Int} (hg : l ≤ x.toInt) : an_rf B F σ0 ρ A σ (an_sLo A a l) := by
  unfold an_sLo
  split
  rename_i l2 g2 e
  have r := an_rg_ok h hx
  rw [e] at r
  simp only at r
  split
  · rename_i q
    have := an_le_false q
    omega
  · split
    · rename_i e1
      split
      · exact ⟨A, rfl, h, rfl⟩
      · rw [an_fI_eq, an_fI_eq]
        obtain ⟨g1, g3⟩ := an_w_sym hx e1
        exact ⟨_, rfl, an_addF h g1 (by omega) (by omega), rfl⟩
    · exact ⟨A, rfl, h, rfl⟩
theorem an_same {a b : an_V} {n : Nat} {x y : Int32} (hx : an_w n ρ x a) (hy : an_w n ρ y b) (e : (Nat.beq (a.1 + b.1) 0 && Nat.beq a.2.1 b.2.1) = true) : x.toInt - a.2.2 = y.toInt - b.2.2 := by
  rw [Bool.and_eq_true] at e
  have e1 := Nat.eq_of_beq_eq_true e.1
  have e2 := Nat.eq_of_beq_eq_true e.2
  obtain ⟨-, g1⟩ := an_w_sym hx (by omega)
  obtain ⟨-, g2⟩ := an_w_sym hy (by omega)
  rw [g1, g2, e2]
  omega
theorem an_rle_ok (h : an_ok B F σ0 ρ A σ) {a b : an_V} {x y : Int32} (hx : an_w A.1 ρ x a) (hy : an_w A.1 ρ y b) {e : Int} (hs : x.toInt + e ≤ y.toInt) : an_rf B F σ0 ρ A σ (an_rle A a b e) := by
  unfold an_rle
  split
  · rename_i q
    have := an_same hx hy q
    split
    · exact ⟨A, rfl, h, rfl⟩
    · rename_i q2
      have := an_le_false q2
      omega
  · have rx := an_rg_ok h hx
    have ry := an_rg_ok h hy
    obtain ⟨A1, e1, h1, n1⟩ := an_sHi_ok h hx (g := (an_rg A.2.1 b).2 - e) (by omega)
    rw [e1]
    simp only
    obtain ⟨A2, e2, h2, n2⟩ := an_sLo_ok h1 (a := b) (x := y) (by rw [n1]; exact hy) (l := (an_rg A.2.1 a).1 + e) (by omega)
    exact ⟨A2, e2, h2, by omega⟩
theorem an_rnz_ok (h : an_ok B F σ0 ρ A σ) {a : an_V} {x : Int32} (hx : an_w A.1 ρ x a) {z : Int} (hs : x.toInt ≠ z) : an_rf B F σ0 ρ A σ (an_rnz A a z) := by
  unfold an_rnz
  split
  rename_i l g e
  have r := an_rg_ok h hx
  rw [e] at r
  simp only at r
  split
  · rename_i q
    rw [an_eq_iff] at q
    exact an_sLo_ok h hx (by omega)
  · split
    · rename_i q
      rw [an_eq_iff] at q
      exact an_sHi_ok h hx (by omega)
    · split
      · rename_i q1
        rw [an_fI_eq]
        obtain ⟨g1, g3⟩ := an_w_sym hx q1
        refine ⟨_, rfl, ⟨h.1, fun q hq => ?_, h.2.2⟩, rfl⟩
        rcases List.mem_cons.mp hq with hq | hq
        · rw [hq]
          refine ⟨g1, g1, ?_⟩
          show ρ a.2.1 ≠ z - a.2.2
          omega
        · exact h.2.1 q hq
      · exact ⟨A, rfl, h, rfl⟩
theorem an_dis_ok (h : an_ok B F σ0 ρ A σ) {a b : an_V} {x y : Int32} (hx : an_w A.1 ρ x a) (hy : an_w A.1 ρ y b) (hk : an_dis A a b = true) : x.toInt ≠ y.toInt := by
  unfold an_dis at hk
  split at hk
  · rename_i e1 e2
    have := an_dsA h hk
    have g1 := an_w_sym hx e1
    have g2 := an_w_num hy e2
    omega
  · rename_i e1 e2
    have := an_dsA h hk
    have g1 := an_w_sym hy e2
    have g2 := an_w_num hx e1
    omega
  · cases hk
theorem an_rne_ok (h : an_ok B F σ0 ρ A σ) {a b : an_V} {x y : Int32} (hx : an_w A.1 ρ x a) (hy : an_w A.1 ρ y b) (hs : x.toInt ≠ y.toInt) : an_rf B F σ0 ρ A σ (an_rne A a b) := by
  unfold an_rne
  split
  · rename_i q
    have := an_same hx hy q
    split
    · rename_i q2
      rw [an_eq_iff] at q2
      omega
    · exact ⟨A, rfl, h, rfl⟩
  · split
    rename_i l g e
    have ry := an_rg_ok h hy
    rw [e] at ry
    simp only at ry
    split
    · rename_i q
      rw [an_eq_iff] at q
      exact an_rnz_ok h hx (by omega)
    · split
      rename_i l2 g2 e2
      have rx := an_rg_ok h hx
      rw [e2] at rx
      simp only at rx
      split
      · rename_i q
        rw [an_eq_iff] at q
        exact an_rnz_ok h hy (by omega)
      · exact ⟨A, rfl, h, rfl⟩
theorem an_ref_ok (h : an_ok B F σ0 ρ A σ) {n : Nat} {a b : an_V} {x y : Int32} (hx : an_w A.1 ρ x a) (hy : an_w A.1 ρ y b) (hs : an_sem n x.toInt y.toInt) : an_rf B F σ0 ρ A σ (an_ref n a b A) := by
  unfold an_ref
  unfold an_sem at hs
  split at hs
  · obtain ⟨A1, e1, h1, n1⟩ := an_rle_ok h hx hy (e := 0) (by omega)
    have hd : an_dis A a b = false := by
      rcases hq : an_dis A a b with _ | _
      · rfl
      · exact absurd hs (an_dis_ok h hx hy hq)
    simp only [hd, e1]
    obtain ⟨A2, e2, h2, n2⟩ := an_rle_ok h1 (a := b) (b := a) (x := y) (y := x) (by rw [n1]; exact hy) (by rw [n1]; exact hx) (e := 0) (by omega)
    exact ⟨A2, e2, h2, by omega⟩
  · exact an_rne_ok h hx hy hs
  · exact an_rle_ok h hx hy (by omega)
  · exact an_rle_ok h hy hx (by omega)
  · exact an_rle_ok h hy hx (by omega)
  · rename_i g0 g1 g2 g3 g4
    split
    · exact absurd rfl g0
    · exact absurd rfl g1
    · exact absurd rfl g2
    · exact absurd rfl g3
    · exact absurd rfl g4
    · exact an_rle_ok h hx hy (by omega)
theorem an_cc_sem {c : Jvm.ClassFile.Cond} {x y : Int32} : (pm_cc c x y → an_sem (an_cn c) x.toInt y.toInt) ∧ (¬ pm_cc c x y → an_sem (an_ng (an_cn c)) x.toInt y.toInt) := by
  have e : x = y ↔ x.toInt = y.toInt := Int32.toInt_inj.symm
  have l : x < y ↔ x.toInt < y.toInt := Int32.lt_iff_toInt_lt
  have l2 : y < x ↔ y.toInt < x.toInt := Int32.lt_iff_toInt_lt
  have m : x ≤ y ↔ x.toInt ≤ y.toInt := Int32.le_iff_toInt_le
  have m2 : y ≤ x ↔ y.toInt ≤ x.toInt := Int32.le_iff_toInt_le
  cases c
  · exact ⟨fun q => e.mp q, fun q => fun z => q (e.mpr z)⟩
  · exact ⟨fun q => fun z => q (e.mpr z), fun q => by
      rcases Classical.em (x = y) with z | z
      · exact e.mp z
      · exact absurd z q⟩
  · exact ⟨fun q => l.mp q, fun q => by
      have q1 : ¬ x < y := q
      rw [l] at q1
      show y.toInt ≤ x.toInt
      omega⟩
  · exact ⟨fun q => m2.mp q, fun q => by
      have q1 : ¬ y ≤ x := q
      rw [m2] at q1
      show x.toInt < y.toInt
      omega⟩
  · exact ⟨fun q => l2.mp q, fun q => by
      have q1 : ¬ y < x := q
      rw [l2] at q1
      show x.toInt ≤ y.toInt
      omega⟩
  · exact ⟨fun q => m.mp q, fun q => by
      have q1 : ¬ x ≤ y := q
      rw [m] at q1
      show y.toInt < x.toInt
      omega⟩
theorem an_br_ok (h : an_ok B F σ0 ρ A σ) {n : Nat} {a b : an_V} {x y : Int32} (hx : an_w A.1 ρ x a) (hy : an_w A.1 ρ y b) {kt kf : an_A → Bool} (hk : an_br n a b A kt kf = true) :
    (an_sem n x.toInt y.toInt → ∃ A', an_ok B F σ0 ρ A' σ ∧ A'.1 = A.1 ∧ kt A' = true) ∧ (an_sem (an_ng n) x.toInt y.toInt → ∃ A', an_ok B F σ0 ρ A' σ ∧ A'.1 = A.1 ∧ kf A' = true) := by
  unfold an_br at hk
  rw [Bool.and_eq_true] at hk
  constructor
  · intro hs
    obtain ⟨A1, e1, h1, n1⟩ := an_ref_ok h hx hy hs
    have := hk.1
    rw [e1] at this
    exact ⟨A1, h1, n1, this⟩
  · intro hs
    obtain ⟨A1, e1, h1, n1⟩ := an_ref_ok h hx hy hs
    have := hk.2
    rw [e1] at this
    exact ⟨A1, h1, n1, this⟩
theorem an_ub_ok (h : an_ok B F σ0 ρ A σ) {w : Int32} {a : an_V} {g : Int} (hw : an_w A.1 ρ w a) : ∀ {R : List (Nat × Nat × Nat × Int)}, (∀ q ∈ R, q ∈ A.2.2.1) → an_ub A.2.1 a g R = true → w.toInt ≤ g := by
  intro R
  induction R with
  | nil => intro _ hk; cases hk
  | cons q qs ih =>
    intro hR hk
    unfold an_ub at hk
    rw [Bool.or_eq_true] at hk
    rcases hk with hk | hk
    · rw [Bool.and_eq_true, Bool.and_eq_true] at hk
      obtain ⟨⟨k1, k2⟩, k3⟩ := hk
      have k1' := Nat.eq_of_beq_eq_true k1
      have k2' := Nat.eq_of_beq_eq_true k2
      obtain ⟨-, ew⟩ := an_w_sym hw k1'
      split at k3
      · cases k3
      · rename_i r hf
        have hr := h.1 _ (an_fd_ok hf)
        dsimp only at hr
        have hq := (h.2.1 q (hR q List.mem_cons_self)).2.2
        unfold an_rs at hq
        simp only [Bool.or_eq_true, Bool.and_eq_true, an_le_iff] at k3
        rcases k3 with (k3 | k3) | k3
        · have e1 := Nat.eq_of_beq_eq_true k3.1
          rw [e1] at hq
          have hq' : ρ q.2.1 ≤ ρ q.2.2.1 + q.2.2.2 := hq
          rw [k2'] at hq'
          omega
        · have e1 := Nat.le_of_ble_eq_true k3.1.1
          have e2 := Nat.le_of_ble_eq_true k3.1.2
          have hq' : ρ q.2.1 = ((q.1 - 100 : Nat) : Int) * ρ q.2.2.1 + q.2.2.2 := by
            split at hq
            · omega
            · omega
            · omega
            · omega
            · exact hq.1 ⟨by omega, by omega⟩
          have m := Int.mul_le_mul_of_nonneg_left hr.2.2 (Int.natCast_nonneg (q.1 - 100))
          have k3' : ((q.1 - 100 : Nat) : Int) * r.2 + q.2.2.2 + a.2.2 ≤ g := k3.2
          rw [k2'] at hq'
          omega
        · have e1 := Nat.le_of_ble_eq_true k3.1
          have hq' : ρ q.2.1 ≤ ((q.1 - 200 : Nat) : Int) * ρ q.2.2.1 + q.2.2.2 := by
            split at hq
            · omega
            · omega
            · omega
            · omega
            · exact hq.2 (by omega)
          have m := Int.mul_le_mul_of_nonneg_left hr.2.2 (Int.natCast_nonneg (q.1 - 200))
          have k3' : ((q.1 - 200 : Nat) : Int) * r.2 + q.2.2.2 + a.2.2 ≤ g := k3.2
          rw [k2'] at hq'
          omega
    · exact ih (fun q hq => hR q (List.mem_cons_of_mem _ hq)) hk
theorem an_in_ok (h : an_ok B F σ0 ρ A σ) {a : an_V} {l g : Int} (hk : an_in A a l g = true) {v : Value} (hv : an_cv A.1 ρ v a) : ∃ w, v = .int w ∧ an_w A.1 ρ w a ∧ l ≤ w.toInt ∧ w.toInt ≤ g := by
  unfold an_in at hk
  rw [Bool.and_eq_true, Bool.and_eq_true, an_le_iff, Bool.or_eq_true, an_le_iff] at hk
  obtain ⟨w, e, hw⟩ := an_cv_int hv hk.1.1
  have := an_rg_ok h hw
  rcases hk.2 with k | k
  · exact ⟨w, e, hw, by omega, by omega⟩
  · exact ⟨w, e, hw, by omega, an_ub_ok h hw (fun q hq => hq) k⟩
end SND
