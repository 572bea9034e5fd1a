/-! CALLS THAT ONLY TELL: state, spot, way, person, debt, set, goal, end, fault -/
theorem RT_T {ns np nd nl nw sun : Nat} {T T' μ : Nat → Nat → Int32} (h : RT ns np nd nl nw sun T μ) (e : ∀ c, 1 ≤ c → c ≤ 33 → T' c = T c) : RT ns np nd nl nw sun T' μ := by
  unfold RT at h ⊢
  rw [e 1 (by omega) (by omega), e 2 (by omega) (by omega), e 3 (by omega) (by omega), e 4 (by omega) (by omega), e 5 (by omega) (by omega), e 6 (by omega) (by omega), e 7 (by omega) (by omega), e 8 (by omega) (by omega), e 9 (by omega) (by omega), e 10 (by omega) (by omega), e 11 (by omega) (by omega), e 12 (by omega) (by omega), e 13 (by omega) (by omega), e 14 (by omega) (by omega), e 15 (by omega) (by omega), e 16 (by omega) (by omega), e 17 (by omega) (by omega), e 18 (by omega) (by omega), e 19 (by omega) (by omega), e 20 (by omega) (by omega), e 21 (by omega) (by omega), e 22 (by omega) (by omega), e 23 (by omega) (by omega), e 24 (by omega) (by omega), e 25 (by omega) (by omega), e 31 (by omega) (by omega), e 32 (by omega) (by omega)]
  exact h
/-- the image is untouched -/
theorem ri_of {σ τ : pm_S} (h : Rim (σ.1 0 2) (σ.1 93 64) (fun c => σ.1 (c + 33)) (Rdec (σ.1 133))) (h1 : τ.1 0 2 = σ.1 0 2) (h2 : τ.1 93 64 = σ.1 93 64) (h3 : τ.1 133 = σ.1 133) (h4 : ∀ c, 34 ≤ c → c ≤ 66 → τ.1 c = σ.1 c) : Rim (τ.1 0 2) (τ.1 93 64) (fun c => τ.1 (c + 33)) (Rdec (τ.1 133)) := by
  rw [h1, h2, h3]
  refine ⟨h.1, ?_⟩
  rcases h.2 with h5 | ⟨h5, ns, np, nd, nl, nw, sun, h6⟩
  · exact Or.inl h5
  · exact Or.inr ⟨h5, ns, np, nd, nl, nw, sun, RT_T h6 (fun c c1 c2 => h4 (c + 33) (by omega) (by omega))⟩
theorem up_ne {f : Nat → Nat → Int32} {p q : Nat} {v : Nat → Int32} (h : q ≠ p) : va_up f p v q = f q := by simp [va_up, h]
/-! conditions as integers -/
theorem i_eq {a b : Int32} : a = b ↔ a.toInt = b.toInt := Int32.toInt_inj.symm
theorem cc_eq (a b : Int32) : pm_cc .eq a b ↔ a.toInt = b.toInt := i_eq
theorem cc_ne (a b : Int32) : pm_cc .ne a b ↔ ¬ a.toInt = b.toInt := not_congr i_eq
theorem cc_lt (a b : Int32) : pm_cc .lt a b ↔ a.toInt < b.toInt := Int32.lt_iff_toInt_lt
theorem cc_ge (a b : Int32) : pm_cc .ge a b ↔ b.toInt ≤ a.toInt := Int32.le_iff_toInt_le
theorem cc_gt (a b : Int32) : pm_cc .gt a b ↔ b.toInt < a.toInt := Int32.lt_iff_toInt_lt
theorem cc_le (a b : Int32) : pm_cc .le a b ↔ a.toInt ≤ b.toInt := Int32.le_iff_toInt_le
theorem nc_eq (a b : Int32) : ¬ pm_cc .eq a b ↔ ¬ a.toInt = b.toInt := not_congr (cc_eq a b)
theorem nc_ne (a b : Int32) : ¬ pm_cc .ne a b ↔ a.toInt = b.toInt := by rw [cc_ne]; exact Classical.not_not
theorem nc_lt (a b : Int32) : ¬ pm_cc .lt a b ↔ b.toInt ≤ a.toInt := by rw [cc_lt]; omega
theorem nc_ge (a b : Int32) : ¬ pm_cc .ge a b ↔ a.toInt < b.toInt := by rw [cc_ge]; omega
theorem nc_gt (a b : Int32) : ¬ pm_cc .gt a b ↔ a.toInt ≤ b.toInt := by rw [cc_gt]; omega
theorem nc_le (a b : Int32) : ¬ pm_cc .le a b ↔ b.toInt < a.toInt := by rw [cc_le]; omega
theorem ti_iv {x : Nat} (h : x < 2147483648) : (pm_iv x 0).toInt = (x : Int) := nI_toInt h
theorem ti_ivn {x : Nat} (h : x < 2147483648) : (pm_iv x 1).toInt = -(x : Int) := sb_negT h
theorem ti_n {x : Nat} (h : x < 2147483648) : (nI x).toInt = (x : Int) := nI_toInt h
theorem ti_0 : (0 : Int32).toInt = 0 := rfl
theorem pm_bt {c a b : Prop} (h : c) (k : a) : (c → a) ∧ (¬ c → b) := ⟨fun _ => k, fun q => absurd h q⟩
theorem pm_bf {c a b : Prop} (h : ¬ c) (k : b) : (c → a) ∧ (¬ c → b) := ⟨fun q => absurd q h, fun _ => k⟩
theorem cdt {c : Jvm.ClassFile.Cond} {a b : Int32} (h : @decide (pm_cc c a b) (pm_cd c a b) = true) : pm_cc c a b := @of_decide_eq_true _ (pm_cd c a b) h
theorem cdf {c : Jvm.ClassFile.Cond} {a b : Int32} (h : @decide (pm_cc c a b) (pm_cd c a b) = false) : ¬ pm_cc c a b := @of_decide_eq_false _ (pm_cd c a b) h
theorem os_si (σ : pm_S) (p : Nat) (f : Nat → Int32) : (pm_OS none).2.2.2.1 σ p f = (va_up σ.1 p f, σ.2) := rfl
theorem os_sj (σ : pm_S) (p : Nat) (f : Nat → Int64) : (pm_OS none).2.2.2.2.2.1 σ p f = (σ.1, va_up σ.2 p f) := rfl
theorem gI {j : Int32} {n : Nat} (h0 : 0 ≤ j.toInt) (h1 : j.toInt < n) : ¬ (j < 0 ∨ n ≤ j.toNatClampNeg) := vp_in_iff.mpr ⟨h0, h1⟩
theorem tn_n {x : Nat} (h : x < 2147483648) : (nI x).toNatClampNeg = x := nI_clamp h
theorem p_state (a1 : Int32) : Pair Inv 128 161 [.int a1] := by
  intro σ hI
  refine S_PaidWhereMade_state [] 30 rfl (fun R cl Z hR hcl hZ => ?_)
  conv => whnf
  refine hZ _ _ ⟨_, rfl, ?_⟩
  refine S_Model_state [] 30 rfl (fun R cl Z hR hcl hZ => ?_)
  conv => whnf
  obtain ⟨⟨ns, np, nd, nl, nw, sun, r1, r2, r3, r4, r5, r6, r7⟩, ⟨t, rr⟩, ri⟩ := hI
  refine hZ _ _ ⟨?_, ?_⟩
  · simp [va_up, upd]
    exact r1.1.symm
  · refine ⟨⟨ns, np, nd, nl, nw, sun, ?_, ?_, ?_, ?_, ?_, ?_, ?_⟩, ⟨t, ?_⟩, ri_of ri ?_ ?_ ?_ (fun c c1 c2 => ?_)⟩
    · simp [va_up, upd]
      exact ⟨rfl, r1.2⟩
    · simpa [va_up, upd] using r2
    · simpa [va_up, upd] using r3
    · simpa [va_up, upd] using r4
    · simpa [va_up, upd] using r5
    · simpa [va_up, upd] using r6
    · simpa [va_up, upd] using r7
    · simpa [va_up, upd] using rr
    · simp [va_up, upd]
    · simp [va_up, upd]
    · simp [va_up, upd]
    · simp only []
      repeat rw [up_ne (by omega)]
/-- the model's isIn -/
theorem m_isIn (σ : pm_S) (v lo hi : Int32) : Sp 159 1 [.ref 93, .int v, .int lo, .int hi] σ (fun r τ => τ = σ ∧ ((lo ≤ v ∧ v ≤ hi ∧ r = some (.int 1)) ∨ (¬ (lo ≤ v ∧ v ≤ hi) ∧ r = some (.int 0)))) := by
  refine S_Model_isIn [] 12 rfl (fun R cl Z hR hcl hZ => ?_)
  conv => whnf
  refine ⟨fun h1 => ?_, fun h1 => ?_⟩
  · have h1 : v < lo := h1
    conv => whnf
    exact pm_gd (Or.inl rfl) (hZ _ _ ⟨rfl, Or.inr ⟨fun h => absurd h.1 (Int32.not_le.mpr h1), rfl⟩⟩)
  · have h1 : ¬ v < lo := h1
    conv => whnf
    refine ⟨fun h2 => ?_, fun h2 => ?_⟩
    · have h2 : hi < v := h2
      conv => whnf
      exact pm_gd (Or.inl rfl) (hZ _ _ ⟨rfl, Or.inr ⟨fun h => absurd h.2 (Int32.not_le.mpr h2), rfl⟩⟩)
    · have h2 : ¬ hi < v := h2
      conv => whnf
      exact pm_gd (Or.inr rfl) (hZ _ _ ⟨rfl, Or.inl ⟨Int32.not_lt.mp h1, Int32.not_lt.mp h2, rfl⟩⟩)
