/-! feed -/
theorem nI_iv1 (t : Nat) : nI t + pm_iv 1 0 = nI (t + 1) := nI_1 t
/-- four bytes behind a row -/
def ad (b : Int32 → Int32 → Int32) (ta : Nat → Int32) (t : Nat) (v : Int32) : Nat → Int32 := upd (upd (upd (upd ta t (b v 24)) (t + 1) (b v 16)) (t + 2) (b v 8)) (t + 3) (b v 0)
def bx (v s : Int32) : Int32 := pm_ush v s &&& 255
def bm (v s : Int32) : Int32 := v >>> (s &&& 31) &&& 255
def FX (p pt : Nat) (s : Nat) (b : Int32 → Int32 → Int32) (t : Nat) (v : Int32) (σ τ : pm_S) : Prop := τ.1 pt = ad b (σ.1 pt) t v ∧ τ.1 p s = nI (t + 4) ∧ (∀ j, j ≠ s → τ.1 p j = σ.1 p j) ∧ (∀ q, q ≠ p → q ≠ pt → τ.1 q = σ.1 q) ∧ τ.2 = σ.2
set_option maxRecDepth 20000 in
theorem x_addB (σ : pm_S) (v : Int32) (t : Nat) (g : t ≤ 396) (hL : σ.1 67 2 = nI t) : Sp 25 1 [.ref 67, .int v] σ (fun r τ => r = none ∧ FX 67 68 2 bx t v σ τ) := by
  refine S_LawReader_addBytes [] 400 rfl (fun R0 cl0 Z0 hR0 hcl0 hZ0 => ?_)
  conv => whnf
  refine pm_bf (cdf rfl) ?_
  conv => whnf
  refine ⟨fun h1 => ?_, fun h1 => ?_⟩
  · have h1 := (cc_ge _ _).mp h1
    try simp (disch := omega) only [hL, nI_iv1, tn_n, ti_iv, ti_ivn, ti_n, ti_0, os_si, os_sj, va_up, upd, Nat.reduceEqDiff, reduceIte] at h1
    conv => whnf
    refine hZ0 _ _ ?_
    first
      | (exfalso; omega)
      | (refine ⟨rfl, ?_, ?_, fun j hj => ?_, fun q q1 q2 => ?_, rfl⟩
         · first
           | (simp (disch := omega) [hL, nI_iv1, tn_n, os_si, va_up, upd, ad, bx]; rfl)
           | (simp (disch := omega) only [hL, nI_iv1, tn_n, os_si, va_up, upd, reduceIte, Nat.reduceEqDiff, ad, bx]; rfl)
         · simp (disch := omega) [hL, nI_iv1, os_si, va_up, upd]
         · simp [os_si, va_up, upd, hj]
         · simp [os_si, va_up, q1, q2])
  · have h1 := (nc_ge _ _).mp h1
    try simp (disch := omega) only [hL, nI_iv1, tn_n, ti_iv, ti_ivn, ti_n, ti_0, os_si, os_sj, va_up, upd, Nat.reduceEqDiff, reduceIte] at h1
    conv => whnf
    refine pm_gd (gI (by (try simp (disch := omega) only [hL, nI_iv1, tn_n, ti_iv, ti_ivn, ti_n, ti_0, os_si, os_sj, va_up, upd, Nat.reduceEqDiff, reduceIte]); omega) (by (try simp (disch := omega) only [hL, nI_iv1, tn_n, ti_iv, ti_ivn, ti_n, ti_0, os_si, os_sj, va_up, upd, Nat.reduceEqDiff, reduceIte]); omega)) ?_
    conv => whnf
    refine pm_bf (cdf rfl) ?_
    conv => whnf
    refine ⟨fun h2 => ?_, fun h2 => ?_⟩
    · have h2 := (cc_ge _ _).mp h2
      try simp (disch := omega) only [hL, nI_iv1, tn_n, ti_iv, ti_ivn, ti_n, ti_0, os_si, os_sj, va_up, upd, Nat.reduceEqDiff, reduceIte] at h2
      conv => whnf
      refine hZ0 _ _ ?_
      first
        | (exfalso; omega)
        | (refine ⟨rfl, ?_, ?_, fun j hj => ?_, fun q q1 q2 => ?_, rfl⟩
           · first
             | (simp (disch := omega) [hL, nI_iv1, tn_n, os_si, va_up, upd, ad, bx]; rfl)
             | (simp (disch := omega) only [hL, nI_iv1, tn_n, os_si, va_up, upd, reduceIte, Nat.reduceEqDiff, ad, bx]; rfl)
           · simp (disch := omega) [hL, nI_iv1, os_si, va_up, upd]
           · simp [os_si, va_up, upd, hj]
           · simp [os_si, va_up, q1, q2])
    · have h2 := (nc_ge _ _).mp h2
      try simp (disch := omega) only [hL, nI_iv1, tn_n, ti_iv, ti_ivn, ti_n, ti_0, os_si, os_sj, va_up, upd, Nat.reduceEqDiff, reduceIte] at h2
      conv => whnf
      refine pm_gd (gI (by (try simp (disch := omega) only [hL, nI_iv1, tn_n, ti_iv, ti_ivn, ti_n, ti_0, os_si, os_sj, va_up, upd, Nat.reduceEqDiff, reduceIte]); omega) (by (try simp (disch := omega) only [hL, nI_iv1, tn_n, ti_iv, ti_ivn, ti_n, ti_0, os_si, os_sj, va_up, upd, Nat.reduceEqDiff, reduceIte]); omega)) ?_
      conv => whnf
      refine pm_bf (cdf rfl) ?_
      conv => whnf
      refine ⟨fun h3 => ?_, fun h3 => ?_⟩
      · have h3 := (cc_ge _ _).mp h3
        try simp (disch := omega) only [hL, nI_iv1, tn_n, ti_iv, ti_ivn, ti_n, ti_0, os_si, os_sj, va_up, upd, Nat.reduceEqDiff, reduceIte] at h3
        conv => whnf
        refine hZ0 _ _ ?_
        first
          | (exfalso; omega)
          | (refine ⟨rfl, ?_, ?_, fun j hj => ?_, fun q q1 q2 => ?_, rfl⟩
             · first
               | (simp (disch := omega) [hL, nI_iv1, tn_n, os_si, va_up, upd, ad, bx]; rfl)
               | (simp (disch := omega) only [hL, nI_iv1, tn_n, os_si, va_up, upd, reduceIte, Nat.reduceEqDiff, ad, bx]; rfl)
             · simp (disch := omega) [hL, nI_iv1, os_si, va_up, upd]
             · simp [os_si, va_up, upd, hj]
             · simp [os_si, va_up, q1, q2])
      · have h3 := (nc_ge _ _).mp h3
        try simp (disch := omega) only [hL, nI_iv1, tn_n, ti_iv, ti_ivn, ti_n, ti_0, os_si, os_sj, va_up, upd, Nat.reduceEqDiff, reduceIte] at h3
        conv => whnf
        refine pm_gd (gI (by (try simp (disch := omega) only [hL, nI_iv1, tn_n, ti_iv, ti_ivn, ti_n, ti_0, os_si, os_sj, va_up, upd, Nat.reduceEqDiff, reduceIte]); omega) (by (try simp (disch := omega) only [hL, nI_iv1, tn_n, ti_iv, ti_ivn, ti_n, ti_0, os_si, os_sj, va_up, upd, Nat.reduceEqDiff, reduceIte]); omega)) ?_
        conv => whnf
        refine pm_bf (cdf rfl) ?_
        conv => whnf
        refine ⟨fun h4 => ?_, fun h4 => ?_⟩
        · have h4 := (cc_ge _ _).mp h4
          try simp (disch := omega) only [hL, nI_iv1, tn_n, ti_iv, ti_ivn, ti_n, ti_0, os_si, os_sj, va_up, upd, Nat.reduceEqDiff, reduceIte] at h4
          conv => whnf
          refine hZ0 _ _ ?_
          first
            | (exfalso; omega)
            | (refine ⟨rfl, ?_, ?_, fun j hj => ?_, fun q q1 q2 => ?_, rfl⟩
               · first
                 | (simp (disch := omega) [hL, nI_iv1, tn_n, os_si, va_up, upd, ad, bx]; rfl)
                 | (simp (disch := omega) only [hL, nI_iv1, tn_n, os_si, va_up, upd, reduceIte, Nat.reduceEqDiff, ad, bx]; rfl)
               · simp (disch := omega) [hL, nI_iv1, os_si, va_up, upd]
               · simp [os_si, va_up, upd, hj]
               · simp [os_si, va_up, q1, q2])
        · have h4 := (nc_ge _ _).mp h4
          try simp (disch := omega) only [hL, nI_iv1, tn_n, ti_iv, ti_ivn, ti_n, ti_0, os_si, os_sj, va_up, upd, Nat.reduceEqDiff, reduceIte] at h4
          conv => whnf
          refine pm_gd (gI (by (try simp (disch := omega) only [hL, nI_iv1, tn_n, ti_iv, ti_ivn, ti_n, ti_0, os_si, os_sj, va_up, upd, Nat.reduceEqDiff, reduceIte]); omega) (by (try simp (disch := omega) only [hL, nI_iv1, tn_n, ti_iv, ti_ivn, ti_n, ti_0, os_si, os_sj, va_up, upd, Nat.reduceEqDiff, reduceIte]); omega)) ?_
          conv => whnf
          refine pm_bt (cdt rfl) ?_
          conv => whnf
          refine hZ0 _ _ ?_
          first
            | (exfalso; omega)
            | (refine ⟨rfl, ?_, ?_, fun j hj => ?_, fun q q1 q2 => ?_, rfl⟩
               · first
                 | (simp (disch := omega) [hL, nI_iv1, tn_n, os_si, va_up, upd, ad, bx]; rfl)
                 | (simp (disch := omega) only [hL, nI_iv1, tn_n, os_si, va_up, upd, reduceIte, Nat.reduceEqDiff, ad, bx]; rfl)
               · simp (disch := omega) [hL, nI_iv1, os_si, va_up, upd]
               · simp [os_si, va_up, upd, hj]
               · simp [os_si, va_up, q1, q2])
set_option maxRecDepth 20000 in
theorem m_types (σ : pm_S) (v : Int32) (t : Nat) (g : t ≤ 396) (hL : σ.1 93 30 = nI t) : Sp 174 1 [.ref 93, .int v] σ (fun r τ => r = none ∧ FX 93 114 30 bm t v σ τ) := by
  refine S_Model_types [] 400 rfl (fun R0 cl0 Z0 hR0 hcl0 hZ0 => ?_)
  conv => whnf
  refine pm_bf (cdf rfl) ?_
  conv => whnf
  refine pm_gd (gI (by (try simp (disch := omega) only [hL, nI_iv1, tn_n, ti_iv, ti_ivn, ti_n, ti_0, os_si, os_sj, va_up, upd, Nat.reduceEqDiff, reduceIte]); omega) (by (try simp (disch := omega) only [hL, nI_iv1, tn_n, ti_iv, ti_ivn, ti_n, ti_0, os_si, os_sj, va_up, upd, Nat.reduceEqDiff, reduceIte]); omega)) ?_
  conv => whnf
  refine pm_bf (cdf rfl) ?_
  conv => whnf
  refine pm_gd (gI (by (try simp (disch := omega) only [hL, nI_iv1, tn_n, ti_iv, ti_ivn, ti_n, ti_0, os_si, os_sj, va_up, upd, Nat.reduceEqDiff, reduceIte]); omega) (by (try simp (disch := omega) only [hL, nI_iv1, tn_n, ti_iv, ti_ivn, ti_n, ti_0, os_si, os_sj, va_up, upd, Nat.reduceEqDiff, reduceIte]); omega)) ?_
  conv => whnf
  refine pm_bf (cdf rfl) ?_
  conv => whnf
  refine pm_gd (gI (by (try simp (disch := omega) only [hL, nI_iv1, tn_n, ti_iv, ti_ivn, ti_n, ti_0, os_si, os_sj, va_up, upd, Nat.reduceEqDiff, reduceIte]); omega) (by (try simp (disch := omega) only [hL, nI_iv1, tn_n, ti_iv, ti_ivn, ti_n, ti_0, os_si, os_sj, va_up, upd, Nat.reduceEqDiff, reduceIte]); omega)) ?_
  conv => whnf
  refine pm_bf (cdf rfl) ?_
  conv => whnf
  refine pm_gd (gI (by (try simp (disch := omega) only [hL, nI_iv1, tn_n, ti_iv, ti_ivn, ti_n, ti_0, os_si, os_sj, va_up, upd, Nat.reduceEqDiff, reduceIte]); omega) (by (try simp (disch := omega) only [hL, nI_iv1, tn_n, ti_iv, ti_ivn, ti_n, ti_0, os_si, os_sj, va_up, upd, Nat.reduceEqDiff, reduceIte]); omega)) ?_
  conv => whnf
  refine pm_bt (cdt rfl) ?_
  conv => whnf
  refine hZ0 _ _ ?_
  first
    | (exfalso; omega)
    | (refine ⟨rfl, ?_, ?_, fun j hj => ?_, fun q q1 q2 => ?_, rfl⟩
       · first
         | (simp (disch := omega) [hL, nI_iv1, tn_n, os_si, va_up, upd, ad, bm]; rfl)
         | (simp (disch := omega) only [hL, nI_iv1, tn_n, os_si, va_up, upd, reduceIte, Nat.reduceEqDiff, ad, bm]; rfl)
       · simp (disch := omega) [hL, nI_iv1, os_si, va_up, upd]
       · simp [os_si, va_up, upd, hj]
       · simp [os_si, va_up, q1, q2])
theorem x_feed (σ : pm_S) (a1 a2 a3 a4 a5 : Int32) (t : Nat) (g : t ≤ 400) (hL : σ.1 67 2 = nI t) : Sp 135 3 [.ref 0, .int a1, .int a2, .int a3, .int a4, .int a5] σ (fun r τ => (t ≤ 380 ∧ r = some (.int (nI (t + 20))) ∧ ∃ τ1 τ2 τ3 τ4, FX 67 68 2 bx t a1 σ τ1 ∧ FX 67 68 2 bx (t + 4) a2 τ1 τ2 ∧ FX 67 68 2 bx (t + 8) a3 τ2 τ3 ∧ FX 67 68 2 bx (t + 12) a4 τ3 τ4 ∧ FX 67 68 2 bx (t + 16) a5 τ4 τ) ∨ (¬ t ≤ 380 ∧ r = some (.int (-1)) ∧ τ = σ)) := by
  refine S_PaidWhereMade_feed [] 60 rfl (fun R cl Z hR hcl hZ => ?_)
  conv => whnf
  refine hcl _ _ _ _ ?_
  refine S_LawReader_addNumbers [] 60 rfl (fun R1 cl1 Z1 hR1 hcl1 hZ1 => ?_)
  conv => whnf
  have e20 : σ.1 67 2 + pm_iv 20 0 = nI (t + 20) := by rw [hL]; exact nI_add t 20
  refine ⟨fun h1 => ?_, fun h1 => ?_⟩
  · have h1 : (σ.1 67 2 + pm_iv 20 0).toInt ≤ (pm_iv 400 0).toInt := (cc_le _ _).mp h1
    rw [e20, ti_n (by omega), ti_iv (by omega)] at h1
    conv => whnf
    refine hcl1 _ _ _ _ ((x_addB _ _ t (by omega) hL).use (by decide) (fun r1 τ1 z1 => ?_))
    obtain ⟨rfl, f1⟩ := z1
    conv => whnf
    refine hcl1 _ _ _ _ ((x_addB _ _ (t + 4) (by omega) f1.2.1).use (by decide) (fun r2 τ2 z2 => ?_))
    obtain ⟨rfl, f2⟩ := z2
    conv => whnf
    refine hcl1 _ _ _ _ ((x_addB _ _ (t + 8) (by omega) f2.2.1).use (by decide) (fun r3 τ3 z3 => ?_))
    obtain ⟨rfl, f3⟩ := z3
    conv => whnf
    refine hcl1 _ _ _ _ ((x_addB _ _ (t + 12) (by omega) f3.2.1).use (by decide) (fun r4 τ4 z4 => ?_))
    obtain ⟨rfl, f4⟩ := z4
    conv => whnf
    refine hcl1 _ _ _ _ ((x_addB _ _ (t + 16) (by omega) f4.2.1).use (by decide) (fun r5 τ5 z5 => ?_))
    obtain ⟨rfl, f5⟩ := z5
    conv => whnf
    refine hZ1 _ _ ?_
    conv => whnf
    exact hZ _ _ (Or.inl ⟨by omega, by rw [f5.2.1], τ1, τ2, τ3, τ4, f1, f2, f3, f4, f5⟩)
  · have h1 : (pm_iv 400 0).toInt < (σ.1 67 2 + pm_iv 20 0).toInt := (nc_le _ _).mp h1
    rw [e20, ti_n (by omega), ti_iv (by omega)] at h1
    conv => whnf
    refine hZ1 _ _ ?_
    conv => whnf
    exact hZ _ _ (Or.inr ⟨by omega, rfl, rfl⟩)
theorem m_feed (σ : pm_S) (a1 a2 a3 a4 a5 : Int32) (t : Nat) (g : t ≤ 400) (hL : σ.1 93 30 = nI t) : Sp 175 3 [.ref 93, .int a1, .int a2, .int a3, .int a4, .int a5] σ (fun r τ => (t ≤ 380 ∧ r = some (.int (nI (t + 20))) ∧ ∃ τ1 τ2 τ3 τ4, FX 93 114 30 bm t a1 (va_up σ.1 93 (upd (σ.1 93) 0 0), σ.2) τ1 ∧ FX 93 114 30 bm (t + 4) a2 τ1 τ2 ∧ FX 93 114 30 bm (t + 8) a3 τ2 τ3 ∧ FX 93 114 30 bm (t + 12) a4 τ3 τ4 ∧ FX 93 114 30 bm (t + 16) a5 τ4 τ) ∨ (¬ t ≤ 380 ∧ r = some (.int (-1)) ∧ τ = (va_up σ.1 93 (upd (σ.1 93) 0 0), σ.2))) := by
  refine S_Model_feed [] 60 rfl (fun R cl Z hR hcl hZ => ?_)
  conv => whnf
  have hL2 : (va_up σ.1 93 (upd (σ.1 93) 0 0)) 93 30 = nI t := by simp [va_up, upd]; exact hL
  refine ⟨fun h1 => ?_, fun h1 => ?_⟩
  · have h1 : ((va_up σ.1 93 (upd (σ.1 93) 0 0)) 93 30).toInt ≤ (pm_iv 380 0).toInt := (cc_le _ _).mp h1
    rw [hL2, ti_n (by omega), ti_iv (by omega)] at h1
    conv => whnf
    refine hcl _ _ _ _ ((m_types (va_up σ.1 93 (upd (σ.1 93) 0 0), σ.2) _ t (by omega) hL2).use (by decide) (fun r1 τ1 z1 => ?_))
    obtain ⟨rfl, f1⟩ := z1
    conv => whnf
    refine hcl _ _ _ _ ((m_types _ _ (t + 4) (by omega) f1.2.1).use (by decide) (fun r2 τ2 z2 => ?_))
    obtain ⟨rfl, f2⟩ := z2
    conv => whnf
    refine hcl _ _ _ _ ((m_types _ _ (t + 8) (by omega) f2.2.1).use (by decide) (fun r3 τ3 z3 => ?_))
    obtain ⟨rfl, f3⟩ := z3
    conv => whnf
    refine hcl _ _ _ _ ((m_types _ _ (t + 12) (by omega) f3.2.1).use (by decide) (fun r4 τ4 z4 => ?_))
    obtain ⟨rfl, f4⟩ := z4
    conv => whnf
    refine hcl _ _ _ _ ((m_types _ _ (t + 16) (by omega) f4.2.1).use (by decide) (fun r5 τ5 z5 => ?_))
    obtain ⟨rfl, f5⟩ := z5
    conv => whnf
    exact hZ _ _ (Or.inl ⟨by omega, by rw [f5.2.1], τ1, τ2, τ3, τ4, f1, f2, f3, f4, f5⟩)
  · have h1 : (pm_iv 380 0).toInt < ((va_up σ.1 93 (upd (σ.1 93) 0 0)) 93 30).toInt := (nc_le _ _).mp h1
    rw [hL2, ti_n (by omega), ti_iv (by omega)] at h1
    conv => whnf
    exact hZ _ _ (Or.inr ⟨by omega, rfl, rfl⟩)
theorem bx_eq (v : Int32) (k : Nat) (hk : k = 24 ∨ k = 16 ∨ k = 8 ∨ k = 0) : bx v (nI k) = bm v (nI k) ∧ ∃ j : Nat, j < 256 ∧ bx v (nI k) = nI j := by
  unfold bx bm
  have h255 : (255 : Int32).toBitVec.toNat = 2 ^ 8 - 1 := by decide
  refine ⟨?_, ?_⟩
  · rw [pk_and _ 8 h255, pk_and _ 8 h255]
    congr 1
    have h1 : (pm_ush v (nI k)).toBitVec.toNat = v.toBitVec.toNat / 2 ^ k := pk_ushr v (nI k) k (by rcases hk with rfl | rfl | rfl | rfl <;> decide)
    have h2 : (v >>> (nI k &&& 31)).toInt = v.toInt >>> k := pk_shr v (nI k &&& 31) k (by rcases hk with rfl | rfl | rfl | rfl <;> decide)
    rw [h1]
    have h3 : (v >>> (nI k &&& 31)).toInt = ((v >>> (nI k &&& 31)).toBitVec.toNat : Int) ∨ (v >>> (nI k &&& 31)).toInt = ((v >>> (nI k &&& 31)).toBitVec.toNat : Int) - 4294967296 := by
      show BitVec.toInt _ = _ ∨ BitVec.toInt _ = _
      rw [BitVec.toInt_eq_toNat_cond]
      split
      · exact Or.inl rfl
      · exact Or.inr rfl
    have h4 : v.toInt = (v.toBitVec.toNat : Int) ∨ v.toInt = (v.toBitVec.toNat : Int) - 4294967296 := by
      show BitVec.toInt _ = _ ∨ BitVec.toInt _ = _
      rw [BitVec.toInt_eq_toNat_cond]
      split
      · exact Or.inl rfl
      · exact Or.inr rfl
    rw [Int.shiftRight_eq_div_pow] at h2
    rcases hk with rfl | rfl | rfl | rfl <;> rcases h3 with h3 | h3 <;> rcases h4 with h4 | h4 <;> (rw [h3, h4] at h2; omega)
  · exact pk_andE _ 8 h255
