set_option maxRecDepth 20000 in
theorem x_spot (σ : pm_S) (a1 : Int32) (g : 0 ≤ (σ.1 3 0).toInt ∧ (σ.1 3 0).toInt ≤ 10) : Sp 129 2 [.ref 0, .int a1] σ (fun r τ => ((0 ≤ a1.toInt ∧ a1.toInt ≤ 99 ∧ (σ.1 3 0).toInt < 10) ∧ r = some (.int (σ.1 3 0 + 1 - 1)) ∧ τ = (va_up (va_up σ.1 4 (upd (σ.1 4) (σ.1 3 0).toNatClampNeg a1)) 3 (upd (σ.1 3) 0 (σ.1 3 0 + 1)), σ.2)) ∨ (¬ (0 ≤ a1.toInt ∧ a1.toInt ≤ 99 ∧ (σ.1 3 0).toInt < 10) ∧ r = some (.int (-1)) ∧ τ = σ)) := by
  refine S_PaidWhereMade_spot [] 400 rfl (fun R0 cl0 Z0 hR0 hcl0 hZ0 => ?_)
  conv => whnf
  refine hcl0 _ _ _ _ ?_
  refine S_Spots_add [] 400 rfl (fun R1 cl1 Z1 hR1 hcl1 hZ1 => ?_)
  conv => whnf
  refine ⟨fun h1 => ?_, fun h1 => ?_⟩
  · have h1 := (cc_lt _ _).mp h1
    try simp (disch := decide) only [ti_iv, ti_ivn, ti_n, ti_0, va_up, upd, Nat.reduceEqDiff, reduceIte] at h1
    conv => whnf
    refine hZ1 _ _ ?_
    conv => whnf
    refine hZ0 _ _ ?_
    first
      | exact Or.inl ⟨by omega, rfl, rfl⟩
      | exact Or.inr ⟨by omega, rfl, rfl⟩
  · have h1 := (nc_lt _ _).mp h1
    try simp (disch := decide) only [ti_iv, ti_ivn, ti_n, ti_0, va_up, upd, Nat.reduceEqDiff, reduceIte] at h1
    conv => whnf
    refine ⟨fun h2 => ?_, fun h2 => ?_⟩
    · have h2 := (cc_gt _ _).mp h2
      try simp (disch := decide) only [ti_iv, ti_ivn, ti_n, ti_0, va_up, upd, Nat.reduceEqDiff, reduceIte] at h2
      conv => whnf
      refine hZ1 _ _ ?_
      conv => whnf
      refine hZ0 _ _ ?_
      first
        | exact Or.inl ⟨by omega, rfl, rfl⟩
        | exact Or.inr ⟨by omega, rfl, rfl⟩
    · have h2 := (nc_gt _ _).mp h2
      try simp (disch := decide) only [ti_iv, ti_ivn, ti_n, ti_0, va_up, upd, Nat.reduceEqDiff, reduceIte] at h2
      conv => whnf
      refine ⟨fun h3 => ?_, fun h3 => ?_⟩
      · have h3 := (cc_lt _ _).mp h3
        try simp (disch := decide) only [ti_iv, ti_ivn, ti_n, ti_0, va_up, upd, Nat.reduceEqDiff, reduceIte] at h3
        conv => whnf
        refine pm_gd (gI (by (try simp (disch := decide) only [ti_iv, ti_ivn, ti_n, ti_0, va_up, upd, Nat.reduceEqDiff, reduceIte]); omega) (by (try simp (disch := decide) only [ti_iv, ti_ivn, ti_n, ti_0, va_up, upd, Nat.reduceEqDiff, reduceIte]); omega)) ?_
        conv => whnf
        refine hZ1 _ _ ?_
        conv => whnf
        refine hZ0 _ _ ?_
        first
          | exact Or.inl ⟨by omega, rfl, rfl⟩
          | exact Or.inr ⟨by omega, rfl, rfl⟩
      · have h3 := (nc_lt _ _).mp h3
        try simp (disch := decide) only [ti_iv, ti_ivn, ti_n, ti_0, va_up, upd, Nat.reduceEqDiff, reduceIte] at h3
        conv => whnf
        refine hZ1 _ _ ?_
        conv => whnf
        refine hZ0 _ _ ?_
        first
          | exact Or.inl ⟨by omega, rfl, rfl⟩
          | exact Or.inr ⟨by omega, rfl, rfl⟩
set_option maxRecDepth 20000 in
theorem m_spot (σ : pm_S) (a1 : Int32) (g : 0 ≤ (σ.1 93 2).toInt ∧ (σ.1 93 2).toInt ≤ 10) : Sp 166 2 [.ref 93, .int a1] σ (fun r τ => ((0 ≤ a1.toInt ∧ a1.toInt ≤ 99 ∧ (σ.1 93 2).toInt < 10) ∧ r = some (.int (σ.1 93 2 + 1 - 1)) ∧ τ = (va_up (va_up (va_up σ.1 93 (upd (σ.1 93) 0 0)) 94 (upd (σ.1 94) (σ.1 93 2).toNatClampNeg a1)) 93 (upd (upd (σ.1 93) 0 0) 2 (σ.1 93 2 + 1)), σ.2)) ∨ (¬ (0 ≤ a1.toInt ∧ a1.toInt ≤ 99 ∧ (σ.1 93 2).toInt < 10) ∧ r = some (.int (-1)) ∧ τ = (va_up σ.1 93 (upd (σ.1 93) 0 0), σ.2))) := by
  refine S_Model_spot [] 400 rfl (fun R0 cl0 Z0 hR0 hcl0 hZ0 => ?_)
  conv => whnf
  refine hcl0 _ _ _ _ ?_
  refine S_Model_isIn [] 400 rfl (fun R1 cl1 Z1 hR1 hcl1 hZ1 => ?_)
  conv => whnf
  refine ⟨fun h1 => ?_, fun h1 => ?_⟩
  · have h1 := (cc_lt _ _).mp h1
    try simp (disch := decide) only [ti_iv, ti_ivn, ti_n, ti_0, va_up, upd, Nat.reduceEqDiff, reduceIte] at h1
    conv => whnf
    refine pm_gd (by decide) ?_
    refine hZ1 _ _ ?_
    conv => whnf
    refine pm_bt (cdt rfl) ?_
    conv => whnf
    refine hZ0 _ _ ?_
    first
      | exact Or.inl ⟨by omega, rfl, rfl⟩
      | exact Or.inr ⟨by omega, rfl, rfl⟩
  · have h1 := (nc_lt _ _).mp h1
    try simp (disch := decide) only [ti_iv, ti_ivn, ti_n, ti_0, va_up, upd, Nat.reduceEqDiff, reduceIte] at h1
    conv => whnf
    refine ⟨fun h2 => ?_, fun h2 => ?_⟩
    · have h2 := (cc_gt _ _).mp h2
      try simp (disch := decide) only [ti_iv, ti_ivn, ti_n, ti_0, va_up, upd, Nat.reduceEqDiff, reduceIte] at h2
      conv => whnf
      refine pm_gd (by decide) ?_
      refine hZ1 _ _ ?_
      conv => whnf
      refine pm_bt (cdt rfl) ?_
      conv => whnf
      refine hZ0 _ _ ?_
      first
        | exact Or.inl ⟨by omega, rfl, rfl⟩
        | exact Or.inr ⟨by omega, rfl, rfl⟩
    · have h2 := (nc_gt _ _).mp h2
      try simp (disch := decide) only [ti_iv, ti_ivn, ti_n, ti_0, va_up, upd, Nat.reduceEqDiff, reduceIte] at h2
      conv => whnf
      refine pm_gd (by decide) ?_
      refine hZ1 _ _ ?_
      conv => whnf
      refine pm_bf (cdf rfl) ?_
      conv => whnf
      refine ⟨fun h3 => ?_, fun h3 => ?_⟩
      · have h3 := (cc_ne _ _).mp h3
        try simp (disch := decide) only [ti_iv, ti_ivn, ti_n, ti_0, va_up, upd, Nat.reduceEqDiff, reduceIte] at h3
        conv => whnf
        refine pm_gd (gI (by (try simp (disch := decide) only [ti_iv, ti_ivn, ti_n, ti_0, va_up, upd, Nat.reduceEqDiff, reduceIte]); omega) (by (try simp (disch := decide) only [ti_iv, ti_ivn, ti_n, ti_0, va_up, upd, Nat.reduceEqDiff, reduceIte]); omega)) ?_
        conv => whnf
        refine hZ0 _ _ ?_
        first
          | exact Or.inl ⟨by omega, rfl, rfl⟩
          | exact Or.inr ⟨by omega, rfl, rfl⟩
      · have h3 := (nc_ne _ _).mp h3
        try simp (disch := decide) only [ti_iv, ti_ivn, ti_n, ti_0, va_up, upd, Nat.reduceEqDiff, reduceIte] at h3
        conv => whnf
        refine hZ0 _ _ ?_
        first
          | exact Or.inl ⟨by omega, rfl, rfl⟩
          | exact Or.inr ⟨by omega, rfl, rfl⟩
