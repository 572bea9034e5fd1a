/-! truth as a number; small questions -/
def bI (p : Prop) [Decidable p] : Int32 := if p then 1 else 0
theorem bI_t {p : Prop} [Decidable p] (h : p) : bI p = 1 := if_pos h
theorem bI_f {p : Prop} [Decidable p] (h : ¬ p) : bI p = 0 := if_neg h
theorem bI_0 {p : Prop} [Decidable p] : (bI p).toInt = 0 ↔ ¬ p := by
  unfold bI
  by_cases h : p
  · rw [if_pos h]; exact ⟨fun q => absurd q (by decide), fun q => absurd h q⟩
  · rw [if_neg h]; exact ⟨fun _ => h, fun _ => rfl⟩
theorem bI_1 {p : Prop} [Decidable p] : (bI p).toInt = 1 ↔ p := by
  unfold bI
  by_cases h : p
  · rw [if_pos h]; exact ⟨fun _ => h, fun _ => rfl⟩
  · rw [if_neg h]; exact ⟨fun q => absurd q (by decide), fun q => absurd q h⟩
theorem bI_01 {p : Prop} [Decidable p] : bI p = 0 ∨ bI p = 1 := by
  unfold bI
  by_cases h : p
  · rw [if_pos h]; exact Or.inr rfl
  · rw [if_neg h]; exact Or.inl rfl
theorem bI_congr {p q : Prop} [Decidable p] [Decidable q] (h : p ↔ q) : bI p = bI q := by
  unfold bI
  by_cases hp : p
  · rw [if_pos hp, if_pos (h.mp hp)]
  · rw [if_neg hp, if_neg (fun z => hp (h.mpr z))]
set_option maxRecDepth 20000 in
theorem x_hasS (σ : pm_S) (v : Int32) : Sp 82 1 [.ref 3, .int v] σ (fun r τ => r = some (.int (bI (0 ≤ v.toInt ∧ v.toInt < (σ.1 3 0).toInt))) ∧ σ = τ) := by
  refine S_Spots_has [] 400 rfl (fun R0 cl0 Z0 hR0 hcl0 hZ0 => ?_)
  conv => whnf
  refine ⟨fun h1 => ?_, fun h1 => ?_⟩
  · have h1 := (cc_lt _ _).mp h1
    try simp (disch := omega) only [tn_n, bI_0, bI_1, Classical.not_not, ti_iv, ti_ivn, ti_n, ti_0, os_si, os_sj, va_up, upd, Nat.reduceEqDiff, reduceIte] at h1
    conv => whnf
    refine pm_gd (by decide) ?_
    refine hZ0 _ _ ?_
    exact ⟨by first | exact congrArg (fun z => some (Value.int z)) (bI_t (by omega)).symm | exact congrArg (fun z => some (Value.int z)) (bI_f (by omega)).symm, rfl⟩
  · have h1 := (nc_lt _ _).mp h1
    try simp (disch := omega) only [tn_n, bI_0, bI_1, Classical.not_not, ti_iv, ti_ivn, ti_n, ti_0, os_si, os_sj, va_up, upd, Nat.reduceEqDiff, reduceIte] at h1
    conv => whnf
    refine ⟨fun h2 => ?_, fun h2 => ?_⟩
    · have h2 := (cc_ge _ _).mp h2
      try simp (disch := omega) only [tn_n, bI_0, bI_1, Classical.not_not, ti_iv, ti_ivn, ti_n, ti_0, os_si, os_sj, va_up, upd, Nat.reduceEqDiff, reduceIte] at h2
      conv => whnf
      refine pm_gd (by decide) ?_
      refine hZ0 _ _ ?_
      exact ⟨by first | exact congrArg (fun z => some (Value.int z)) (bI_t (by omega)).symm | exact congrArg (fun z => some (Value.int z)) (bI_f (by omega)).symm, rfl⟩
    · have h2 := (nc_ge _ _).mp h2
      try simp (disch := omega) only [tn_n, bI_0, bI_1, Classical.not_not, ti_iv, ti_ivn, ti_n, ti_0, os_si, os_sj, va_up, upd, Nat.reduceEqDiff, reduceIte] at h2
      conv => whnf
      refine pm_gd (by decide) ?_
      refine hZ0 _ _ ?_
      exact ⟨by first | exact congrArg (fun z => some (Value.int z)) (bI_t (by omega)).symm | exact congrArg (fun z => some (Value.int z)) (bI_f (by omega)).symm, rfl⟩
set_option maxRecDepth 20000 in
theorem x_hasP (σ : pm_S) (v : Int32) : Sp 61 1 [.ref 7, .int v] σ (fun r τ => r = some (.int (bI (0 ≤ v.toInt ∧ v.toInt < (σ.1 7 0).toInt))) ∧ σ = τ) := by
  refine S_People_has [] 400 rfl (fun R0 cl0 Z0 hR0 hcl0 hZ0 => ?_)
  conv => whnf
  refine ⟨fun h1 => ?_, fun h1 => ?_⟩
  · have h1 := (cc_lt _ _).mp h1
    try simp (disch := omega) only [tn_n, bI_0, bI_1, Classical.not_not, ti_iv, ti_ivn, ti_n, ti_0, os_si, os_sj, va_up, upd, Nat.reduceEqDiff, reduceIte] at h1
    conv => whnf
    refine pm_gd (by decide) ?_
    refine hZ0 _ _ ?_
    exact ⟨by first | exact congrArg (fun z => some (Value.int z)) (bI_t (by omega)).symm | exact congrArg (fun z => some (Value.int z)) (bI_f (by omega)).symm, rfl⟩
  · have h1 := (nc_lt _ _).mp h1
    try simp (disch := omega) only [tn_n, bI_0, bI_1, Classical.not_not, ti_iv, ti_ivn, ti_n, ti_0, os_si, os_sj, va_up, upd, Nat.reduceEqDiff, reduceIte] at h1
    conv => whnf
    refine ⟨fun h2 => ?_, fun h2 => ?_⟩
    · have h2 := (cc_ge _ _).mp h2
      try simp (disch := omega) only [tn_n, bI_0, bI_1, Classical.not_not, ti_iv, ti_ivn, ti_n, ti_0, os_si, os_sj, va_up, upd, Nat.reduceEqDiff, reduceIte] at h2
      conv => whnf
      refine pm_gd (by decide) ?_
      refine hZ0 _ _ ?_
      exact ⟨by first | exact congrArg (fun z => some (Value.int z)) (bI_t (by omega)).symm | exact congrArg (fun z => some (Value.int z)) (bI_f (by omega)).symm, rfl⟩
    · have h2 := (nc_ge _ _).mp h2
      try simp (disch := omega) only [tn_n, bI_0, bI_1, Classical.not_not, ti_iv, ti_ivn, ti_n, ti_0, os_si, os_sj, va_up, upd, Nat.reduceEqDiff, reduceIte] at h2
      conv => whnf
      refine pm_gd (by decide) ?_
      refine hZ0 _ _ ?_
      exact ⟨by first | exact congrArg (fun z => some (Value.int z)) (bI_t (by omega)).symm | exact congrArg (fun z => some (Value.int z)) (bI_f (by omega)).symm, rfl⟩
set_option maxRecDepth 20000 in
theorem x_hasD (σ : pm_S) (v : Int32) : Sp 1 1 [.ref 13, .int v] σ (fun r τ => r = some (.int (bI (0 ≤ v.toInt ∧ v.toInt < (σ.1 13 0).toInt))) ∧ σ = τ) := by
  refine S_Debts_has [] 400 rfl (fun R0 cl0 Z0 hR0 hcl0 hZ0 => ?_)
  conv => whnf
  refine ⟨fun h1 => ?_, fun h1 => ?_⟩
  · have h1 := (cc_lt _ _).mp h1
    try simp (disch := omega) only [tn_n, bI_0, bI_1, Classical.not_not, ti_iv, ti_ivn, ti_n, ti_0, os_si, os_sj, va_up, upd, Nat.reduceEqDiff, reduceIte] at h1
    conv => whnf
    refine pm_gd (by decide) ?_
    refine hZ0 _ _ ?_
    exact ⟨by first | exact congrArg (fun z => some (Value.int z)) (bI_t (by omega)).symm | exact congrArg (fun z => some (Value.int z)) (bI_f (by omega)).symm, rfl⟩
  · have h1 := (nc_lt _ _).mp h1
    try simp (disch := omega) only [tn_n, bI_0, bI_1, Classical.not_not, ti_iv, ti_ivn, ti_n, ti_0, os_si, os_sj, va_up, upd, Nat.reduceEqDiff, reduceIte] at h1
    conv => whnf
    refine ⟨fun h2 => ?_, fun h2 => ?_⟩
    · have h2 := (cc_ge _ _).mp h2
      try simp (disch := omega) only [tn_n, bI_0, bI_1, Classical.not_not, ti_iv, ti_ivn, ti_n, ti_0, os_si, os_sj, va_up, upd, Nat.reduceEqDiff, reduceIte] at h2
      conv => whnf
      refine pm_gd (by decide) ?_
      refine hZ0 _ _ ?_
      exact ⟨by first | exact congrArg (fun z => some (Value.int z)) (bI_t (by omega)).symm | exact congrArg (fun z => some (Value.int z)) (bI_f (by omega)).symm, rfl⟩
    · have h2 := (nc_ge _ _).mp h2
      try simp (disch := omega) only [tn_n, bI_0, bI_1, Classical.not_not, ti_iv, ti_ivn, ti_n, ti_0, os_si, os_sj, va_up, upd, Nat.reduceEqDiff, reduceIte] at h2
      conv => whnf
      refine pm_gd (by decide) ?_
      refine hZ0 _ _ ?_
      exact ⟨by first | exact congrArg (fun z => some (Value.int z)) (bI_t (by omega)).symm | exact congrArg (fun z => some (Value.int z)) (bI_f (by omega)).symm, rfl⟩
set_option maxRecDepth 20000 in
theorem m_isSpot (σ : pm_S) (v : Int32) : Sp 163 1 [.ref 93, .int v] σ (fun r τ => r = some (.int (bI (0 ≤ v.toInt ∧ v.toInt < (σ.1 93 2).toInt))) ∧ σ = τ) := by
  refine S_Model_isSpot [] 400 rfl (fun R0 cl0 Z0 hR0 hcl0 hZ0 => ?_)
  conv => whnf
  refine ⟨fun h1 => ?_, fun h1 => ?_⟩
  · have h1 := (cc_lt _ _).mp h1
    try simp (disch := omega) only [tn_n, bI_0, bI_1, Classical.not_not, ti_iv, ti_ivn, ti_n, ti_0, os_si, os_sj, va_up, upd, Nat.reduceEqDiff, reduceIte] at h1
    conv => whnf
    refine pm_gd (by decide) ?_
    refine hZ0 _ _ ?_
    exact ⟨by first | exact congrArg (fun z => some (Value.int z)) (bI_t (by omega)).symm | exact congrArg (fun z => some (Value.int z)) (bI_f (by omega)).symm, rfl⟩
  · have h1 := (nc_lt _ _).mp h1
    try simp (disch := omega) only [tn_n, bI_0, bI_1, Classical.not_not, ti_iv, ti_ivn, ti_n, ti_0, os_si, os_sj, va_up, upd, Nat.reduceEqDiff, reduceIte] at h1
    conv => whnf
    refine ⟨fun h2 => ?_, fun h2 => ?_⟩
    · have h2 := (cc_ge _ _).mp h2
      try simp (disch := omega) only [tn_n, bI_0, bI_1, Classical.not_not, ti_iv, ti_ivn, ti_n, ti_0, os_si, os_sj, va_up, upd, Nat.reduceEqDiff, reduceIte] at h2
      conv => whnf
      refine pm_gd (by decide) ?_
      refine hZ0 _ _ ?_
      exact ⟨by first | exact congrArg (fun z => some (Value.int z)) (bI_t (by omega)).symm | exact congrArg (fun z => some (Value.int z)) (bI_f (by omega)).symm, rfl⟩
    · have h2 := (nc_ge _ _).mp h2
      try simp (disch := omega) only [tn_n, bI_0, bI_1, Classical.not_not, ti_iv, ti_ivn, ti_n, ti_0, os_si, os_sj, va_up, upd, Nat.reduceEqDiff, reduceIte] at h2
      conv => whnf
      refine pm_gd (by decide) ?_
      refine hZ0 _ _ ?_
      exact ⟨by first | exact congrArg (fun z => some (Value.int z)) (bI_t (by omega)).symm | exact congrArg (fun z => some (Value.int z)) (bI_f (by omega)).symm, rfl⟩
set_option maxRecDepth 20000 in
theorem m_isOne (σ : pm_S) (v : Int32) : Sp 164 1 [.ref 93, .int v] σ (fun r τ => r = some (.int (bI (0 ≤ v.toInt ∧ v.toInt < (σ.1 93 5).toInt))) ∧ σ = τ) := by
  refine S_Model_isOne [] 400 rfl (fun R0 cl0 Z0 hR0 hcl0 hZ0 => ?_)
  conv => whnf
  refine ⟨fun h1 => ?_, fun h1 => ?_⟩
  · have h1 := (cc_lt _ _).mp h1
    try simp (disch := omega) only [tn_n, bI_0, bI_1, Classical.not_not, ti_iv, ti_ivn, ti_n, ti_0, os_si, os_sj, va_up, upd, Nat.reduceEqDiff, reduceIte] at h1
    conv => whnf
    refine pm_gd (by decide) ?_
    refine hZ0 _ _ ?_
    exact ⟨by first | exact congrArg (fun z => some (Value.int z)) (bI_t (by omega)).symm | exact congrArg (fun z => some (Value.int z)) (bI_f (by omega)).symm, rfl⟩
  · have h1 := (nc_lt _ _).mp h1
    try simp (disch := omega) only [tn_n, bI_0, bI_1, Classical.not_not, ti_iv, ti_ivn, ti_n, ti_0, os_si, os_sj, va_up, upd, Nat.reduceEqDiff, reduceIte] at h1
    conv => whnf
    refine ⟨fun h2 => ?_, fun h2 => ?_⟩
    · have h2 := (cc_ge _ _).mp h2
      try simp (disch := omega) only [tn_n, bI_0, bI_1, Classical.not_not, ti_iv, ti_ivn, ti_n, ti_0, os_si, os_sj, va_up, upd, Nat.reduceEqDiff, reduceIte] at h2
      conv => whnf
      refine pm_gd (by decide) ?_
      refine hZ0 _ _ ?_
      exact ⟨by first | exact congrArg (fun z => some (Value.int z)) (bI_t (by omega)).symm | exact congrArg (fun z => some (Value.int z)) (bI_f (by omega)).symm, rfl⟩
    · have h2 := (nc_ge _ _).mp h2
      try simp (disch := omega) only [tn_n, bI_0, bI_1, Classical.not_not, ti_iv, ti_ivn, ti_n, ti_0, os_si, os_sj, va_up, upd, Nat.reduceEqDiff, reduceIte] at h2
      conv => whnf
      refine pm_gd (by decide) ?_
      refine hZ0 _ _ ?_
      exact ⟨by first | exact congrArg (fun z => some (Value.int z)) (bI_t (by omega)).symm | exact congrArg (fun z => some (Value.int z)) (bI_f (by omega)).symm, rfl⟩
set_option maxRecDepth 20000 in
theorem x_isOpen (σ : pm_S) (v : Int32) (g : (σ.1 13 0).toInt ≤ 30) : Sp 3 1 [.ref 13, .int v] σ (fun r τ => r = some (.int (bI (0 ≤ v.toInt ∧ v.toInt < (σ.1 13 0).toInt ∧ (σ.1 20 v.toNatClampNeg).toInt = 0))) ∧ σ = τ) := by
  refine S_Debts_isOpen [] 400 rfl (fun R0 cl0 Z0 hR0 hcl0 hZ0 => ?_)
  conv => whnf
  refine ⟨fun h1 => ?_, fun h1 => ?_⟩
  · have h1 := (cc_lt _ _).mp h1
    try simp (disch := omega) only [tn_n, bI_0, bI_1, Classical.not_not, ti_iv, ti_ivn, ti_n, ti_0, os_si, os_sj, va_up, upd, Nat.reduceEqDiff, reduceIte] at h1
    conv => whnf
    refine pm_gd (by decide) ?_
    refine hZ0 _ _ ?_
    exact ⟨by first | exact congrArg (fun z => some (Value.int z)) (bI_t (by omega)).symm | exact congrArg (fun z => some (Value.int z)) (bI_f (by omega)).symm, rfl⟩
  · have h1 := (nc_lt _ _).mp h1
    try simp (disch := omega) only [tn_n, bI_0, bI_1, Classical.not_not, ti_iv, ti_ivn, ti_n, ti_0, os_si, os_sj, va_up, upd, Nat.reduceEqDiff, reduceIte] at h1
    conv => whnf
    refine ⟨fun h2 => ?_, fun h2 => ?_⟩
    · have h2 := (cc_ge _ _).mp h2
      try simp (disch := omega) only [tn_n, bI_0, bI_1, Classical.not_not, ti_iv, ti_ivn, ti_n, ti_0, os_si, os_sj, va_up, upd, Nat.reduceEqDiff, reduceIte] at h2
      conv => whnf
      refine pm_gd (by decide) ?_
      refine hZ0 _ _ ?_
      exact ⟨by first | exact congrArg (fun z => some (Value.int z)) (bI_t (by omega)).symm | exact congrArg (fun z => some (Value.int z)) (bI_f (by omega)).symm, rfl⟩
    · have h2 := (nc_ge _ _).mp h2
      try simp (disch := omega) only [tn_n, bI_0, bI_1, Classical.not_not, ti_iv, ti_ivn, ti_n, ti_0, os_si, os_sj, va_up, upd, Nat.reduceEqDiff, reduceIte] at h2
      conv => whnf
      refine pm_gd (gI (by first | omega | ((try simp (disch := omega) only [tn_n, ti_iv, ti_ivn, ti_n, ti_0, os_si, os_sj, va_up, upd, Nat.reduceEqDiff, reduceIte]); omega)) (by first | omega | ((try simp (disch := omega) only [tn_n, ti_iv, ti_ivn, ti_n, ti_0, os_si, os_sj, va_up, upd, Nat.reduceEqDiff, reduceIte]); omega))) ?_
      conv => whnf
      refine ⟨fun h3 => ?_, fun h3 => ?_⟩
      · have h3 := (cc_ne _ _).mp h3
        try simp (disch := omega) only [tn_n, bI_0, bI_1, Classical.not_not, ti_iv, ti_ivn, ti_n, ti_0, os_si, os_sj, va_up, upd, Nat.reduceEqDiff, reduceIte] at h3
        conv => whnf
        refine pm_gd (by decide) ?_
        refine hZ0 _ _ ?_
        exact ⟨by first | exact congrArg (fun z => some (Value.int z)) (bI_t (by omega)).symm | exact congrArg (fun z => some (Value.int z)) (bI_f (by omega)).symm, rfl⟩
      · have h3 := (nc_ne _ _).mp h3
        try simp (disch := omega) only [tn_n, bI_0, bI_1, Classical.not_not, ti_iv, ti_ivn, ti_n, ti_0, os_si, os_sj, va_up, upd, Nat.reduceEqDiff, reduceIte] at h3
        conv => whnf
        refine pm_gd (by decide) ?_
        refine hZ0 _ _ ?_
        exact ⟨by first | exact congrArg (fun z => some (Value.int z)) (bI_t (by omega)).symm | exact congrArg (fun z => some (Value.int z)) (bI_f (by omega)).symm, rfl⟩
set_option maxRecDepth 20000 in
theorem m_isOpen (σ : pm_S) (v : Int32) (g0 : 0 ≤ v.toInt) (g : v.toInt < 30) : Sp 199 1 [.ref 93, .int v] σ (fun r τ => r = some (.int (bI ((σ.1 107 v.toNatClampNeg).toInt = 0))) ∧ σ = τ) := by
  refine S_Model_isOpen [] 400 rfl (fun R0 cl0 Z0 hR0 hcl0 hZ0 => ?_)
  conv => whnf
  refine pm_gd (gI (by first | omega | ((try simp (disch := omega) only [tn_n, ti_iv, ti_ivn, ti_n, ti_0, os_si, os_sj, va_up, upd, Nat.reduceEqDiff, reduceIte]); omega)) (by first | omega | ((try simp (disch := omega) only [tn_n, ti_iv, ti_ivn, ti_n, ti_0, os_si, os_sj, va_up, upd, Nat.reduceEqDiff, reduceIte]); omega))) ?_
  conv => whnf
  refine ⟨fun h1 => ?_, fun h1 => ?_⟩
  · have h1 := (cc_ne _ _).mp h1
    try simp (disch := omega) only [tn_n, bI_0, bI_1, Classical.not_not, ti_iv, ti_ivn, ti_n, ti_0, os_si, os_sj, va_up, upd, Nat.reduceEqDiff, reduceIte] at h1
    conv => whnf
    refine pm_gd (by decide) ?_
    refine hZ0 _ _ ?_
    exact ⟨by first | exact congrArg (fun z => some (Value.int z)) (bI_t (by omega)).symm | exact congrArg (fun z => some (Value.int z)) (bI_f (by omega)).symm, rfl⟩
  · have h1 := (nc_ne _ _).mp h1
    try simp (disch := omega) only [tn_n, bI_0, bI_1, Classical.not_not, ti_iv, ti_ivn, ti_n, ti_0, os_si, os_sj, va_up, upd, Nat.reduceEqDiff, reduceIte] at h1
    conv => whnf
    refine pm_gd (by decide) ?_
    refine hZ0 _ _ ?_
    exact ⟨by first | exact congrArg (fun z => some (Value.int z)) (bI_t (by omega)).symm | exact congrArg (fun z => some (Value.int z)) (bI_f (by omega)).symm, rfl⟩
set_option maxRecDepth 20000 in
theorem m_isInB (σ : pm_S) (v lo hi : Int32) : Sp 159 1 [.ref 93, .int v, .int lo, .int hi] σ (fun r τ => r = some (.int (bI (lo.toInt ≤ v.toInt ∧ v.toInt ≤ hi.toInt))) ∧ σ = τ) := by
  refine S_Model_isIn [] 400 rfl (fun R0 cl0 Z0 hR0 hcl0 hZ0 => ?_)
  conv => whnf
  refine ⟨fun h1 => ?_, fun h1 => ?_⟩
  · have h1 := (cc_lt _ _).mp h1
    try simp (disch := omega) only [tn_n, bI_0, bI_1, Classical.not_not, ti_iv, ti_ivn, ti_n, ti_0, os_si, os_sj, va_up, upd, Nat.reduceEqDiff, reduceIte] at h1
    conv => whnf
    refine pm_gd (by decide) ?_
    refine hZ0 _ _ ?_
    exact ⟨by first | exact congrArg (fun z => some (Value.int z)) (bI_t (by omega)).symm | exact congrArg (fun z => some (Value.int z)) (bI_f (by omega)).symm, rfl⟩
  · have h1 := (nc_lt _ _).mp h1
    try simp (disch := omega) only [tn_n, bI_0, bI_1, Classical.not_not, ti_iv, ti_ivn, ti_n, ti_0, os_si, os_sj, va_up, upd, Nat.reduceEqDiff, reduceIte] at h1
    conv => whnf
    refine ⟨fun h2 => ?_, fun h2 => ?_⟩
    · have h2 := (cc_gt _ _).mp h2
      try simp (disch := omega) only [tn_n, bI_0, bI_1, Classical.not_not, ti_iv, ti_ivn, ti_n, ti_0, os_si, os_sj, va_up, upd, Nat.reduceEqDiff, reduceIte] at h2
      conv => whnf
      refine pm_gd (by decide) ?_
      refine hZ0 _ _ ?_
      exact ⟨by first | exact congrArg (fun z => some (Value.int z)) (bI_t (by omega)).symm | exact congrArg (fun z => some (Value.int z)) (bI_f (by omega)).symm, rfl⟩
    · have h2 := (nc_gt _ _).mp h2
      try simp (disch := omega) only [tn_n, bI_0, bI_1, Classical.not_not, ti_iv, ti_ivn, ti_n, ti_0, os_si, os_sj, va_up, upd, Nat.reduceEqDiff, reduceIte] at h2
      conv => whnf
      refine pm_gd (by decide) ?_
      refine hZ0 _ _ ?_
      exact ⟨by first | exact congrArg (fun z => some (Value.int z)) (bI_t (by omega)).symm | exact congrArg (fun z => some (Value.int z)) (bI_f (by omega)).symm, rfl⟩
theorem nI_bv (n : Nat) : (nI n).toBitVec = BitVec.ofNat 32 n := rfl
theorem nI_or (a b : Nat) : nI a ||| nI b = nI (a ||| b) := by
  apply Int32.toBitVec_inj.mp
  rw [Int32.toBitVec_or, nI_bv, nI_bv, nI_bv, BitVec.ofNat_or]
theorem nI_and (a b : Nat) : nI a &&& nI b = nI (a &&& b) := by
  apply Int32.toBitVec_inj.mp
  rw [Int32.toBitVec_and, nI_bv, nI_bv, nI_bv, BitVec.ofNat_and]
theorem nI_mul (a b : Nat) : nI a * nI b = nI (a * b) := by
  apply Int32.toBitVec_inj.mp
  rw [Int32.toBitVec_mul, nI_bv, nI_bv, nI_bv, BitVec.ofNat_mul]
theorem nI_sub {a b : Nat} (h : b ≤ a) : nI a - nI b = nI (a - b) := by
  have := nI_add (a - b) b
  rw [Nat.sub_add_cancel h] at this
  rw [← this, Int32.add_sub_cancel]
/-- a without b -/
def adn (a b : Nat) : Nat := a ^^^ (a &&& b)
theorem adn_bit (a b i : Nat) : (adn a b).testBit i = (a.testBit i && !b.testBit i) := by
  unfold adn
  rw [Nat.testBit_xor, Nat.testBit_and]
  cases a.testBit i <;> cases b.testBit i <;> rfl
theorem nI_adn (a b : Nat) : nI a &&& (nI b ^^^ pm_iv 1 1) = nI (adn a b) := by
  apply Int32.toBitVec_inj.mp
  rw [Int32.toBitVec_and, Int32.toBitVec_xor, nI_bv, nI_bv, nI_bv]
  have h : (pm_iv 1 1).toBitVec = BitVec.allOnes 32 := by decide
  rw [h]
  apply BitVec.eq_of_getLsbD_eq
  intro i hi
  rw [BitVec.getLsbD_and, BitVec.getLsbD_xor, BitVec.getLsbD_ofNat, BitVec.getLsbD_ofNat, BitVec.getLsbD_ofNat, BitVec.getLsbD_allOnes, adn_bit]
  simp [hi]
theorem nI_31 {v : Nat} (h : v < 32) : nI v &&& 31 = nI v := by
  have : (31 : Int32) = nI 31 := rfl
  rw [this, nI_and, show v &&& 31 = v from by rw [show (31 : Nat) = 2 ^ 5 - 1 from rfl, Nat.and_two_pow_sub_one_eq_mod]; exact Nat.mod_eq_of_lt h]
theorem nI_shl {a v : Nat} (h : v < 32) : nI a <<< (nI v &&& 31) = nI (a * 2 ^ v) := by
  rw [nI_31 h]
  apply Int32.toBitVec_inj.mp
  rw [Int32.toBitVec_shiftLeft, nI_bv, nI_bv, nI_bv]
  have e : (BitVec.ofNat 32 v).smod 32 = BitVec.ofNat 32 v := by
    revert v; decide
  rw [e]
  apply BitVec.eq_of_toNat_eq
  simp [BitVec.toNat_ofNat, Nat.mod_eq_of_lt (show v < 4294967296 by omega), Nat.shiftLeft_eq]
theorem nI_shr {a v : Nat} (ha : a < 2147483648) (h : v < 32) : nI a >>> (nI v &&& 31) = nI (a >>> v) := by
  rw [nI_31 h]
  apply Int32.toBitVec_inj.mp
  rw [Int32.toBitVec_shiftRight, nI_bv, nI_bv, nI_bv]
  have e : (BitVec.ofNat 32 v).smod 32 = BitVec.ofNat 32 v := by
    revert v; decide
  rw [e]
  have e2 : (BitVec.ofNat 32 a).msb = false := by
    rw [BitVec.msb_eq_decide]
    simp [BitVec.toNat_ofNat]
    omega
  apply BitVec.eq_of_toNat_eq
  show ((BitVec.ofNat 32 a).sshiftRight (BitVec.ofNat 32 v).toNat).toNat = _
  rw [BitVec.sshiftRight_eq_of_msb_false e2]
  have h1 : a >>> v ≤ a := by rw [Nat.shiftRight_eq_div_pow]; exact Nat.div_le_self _ _
  rw [BitVec.toNat_ushiftRight, BitVec.toNat_ofNat, BitVec.toNat_ofNat, BitVec.toNat_ofNat, Nat.mod_eq_of_lt (show v < 2 ^ 32 by omega), Nat.mod_eq_of_lt (show a < 2 ^ 32 by omega), Nat.mod_eq_of_lt (show a >>> v < 2 ^ 32 by omega)]
theorem tb_1 (a v : Nat) : (a >>> v) &&& 1 = if a.testBit v then 1 else 0 := by
  rw [Nat.testBit, Nat.and_comm, Nat.one_and_eq_mod_two]
  have : a >>> v % 2 = 0 ∨ a >>> v % 2 = 1 := by omega
  rcases this with h | h <;> simp [h]
theorem nI_bit {a v : Nat} (ha : a < 2147483648) (h : v < 32) : nI a >>> (nI v &&& 31) &&& pm_iv 1 0 = if a.testBit v then 1 else 0 := by
  rw [nI_shr ha h, show pm_iv 1 0 = nI 1 from rfl, nI_and, tb_1]
  split <;> rfl
theorem x_isIn (σ : pm_S) (v b : Nat) (hv : v < 32) (hb : b < 2147483648) : Sp 156 1 [.int (nI v), .int (nI b)] σ (fun r τ => r = some (.int (bI (b.testBit v = true))) ∧ σ = τ) := by
  have hz := nI_bit hb hv
  refine S_PaidWhereMade_isIn [] 30 rfl (fun R cl Z hR hcl hZ => ?_)
  conv => whnf
  refine ⟨fun h => ?_, fun h => ?_⟩
  · have h : ¬ (nI b >>> (nI v &&& 31) &&& pm_iv 1 0 = pm_iv 1 0) := h
    rw [hz] at h
    conv => whnf
    refine pm_gd (by decide) ?_
    refine hZ _ _ ⟨?_, rfl⟩
    cases q : b.testBit v
    · rfl
    · rw [q] at h; exact absurd rfl h
  · have h : ¬ ¬ (nI b >>> (nI v &&& 31) &&& pm_iv 1 0 = pm_iv 1 0) := h
    rw [hz] at h
    conv => whnf
    refine pm_gd (by decide) ?_
    refine hZ _ _ ⟨?_, rfl⟩
    cases q : b.testBit v
    · rw [q] at h; exact absurd (by decide) h
    · rfl
