theorem g10 {a b : Int32} (ha : 0 ≤ a.toInt ∧ a.toInt < 10) (hb : 0 ≤ b.toInt ∧ b.toInt < 10) : 0 ≤ (a * pm_iv 10 0 + b).toInt ∧ (a * pm_iv 10 0 + b).toInt < (100 : Nat) := by
  obtain ⟨x, hx, rfl⟩ := vp_in_of (n := 10) (vp_in_iff.mpr ⟨ha.1, ha.2⟩) (by decide)
  obtain ⟨y, hy, rfl⟩ := vp_in_of (n := 10) (vp_in_iff.mpr ⟨hb.1, hb.2⟩) (by decide)
  have e : nI x * pm_iv 10 0 + nI y = nI (x * 10 + y) := by show nI x * nI 10 + nI y = _; rw [pk_mul, nI_add]
  rw [e, nI_toInt (by omega)]
  omega
theorem g01 {a b : Int32} (ha : 0 ≤ a.toInt ∧ a.toInt < 10) (hb : 0 ≤ b.toInt ∧ b.toInt < 10) : 0 ≤ (pm_iv 10 0 * a + b).toInt ∧ (pm_iv 10 0 * a + b).toInt < (100 : Nat) := by
  have e : pm_iv 10 0 * a = a * pm_iv 10 0 := Int32.mul_comm _ _
  rw [e]
  exact g10 ha hb
set_option maxRecDepth 20000 in
theorem x_spot (σ : pm_S) (a1 : Int32) (g : 0 ≤ (σ.1 3 0).toInt ∧ (σ.1 3 0).toInt ≤ 10) : Sp 129 2 [.ref 0, .int a1] σ (fun r τ => ((0 ≤ a1.toInt ∧ a1.toInt ≤ 99 ∧ (σ.1 3 0).toInt < 10) ∧ r = some (.int (σ.1 3 0 + 1 - 1)) ∧ τ = (va_up (va_up σ.1 4 (upd (σ.1 4) (σ.1 3 0).toNatClampNeg a1)) 3 (upd (σ.1 3) 0 (σ.1 3 0 + 1)), σ.2)) ∨ (¬ (0 ≤ a1.toInt ∧ a1.toInt ≤ 99 ∧ (σ.1 3 0).toInt < 10) ∧ r = some (.int (-1)) ∧ τ = σ)) := by
  refine S_PaidWhereMade_spot [] 400 rfl (fun R0 cl0 Z0 hR0 hcl0 hZ0 => ?_)
  conv => whnf
  refine hcl0 _ _ _ _ ?_
  refine S_Spots_add [] 400 rfl (fun R1 cl1 Z1 hR1 hcl1 hZ1 => ?_)
  conv => whnf
  refine ⟨fun h1 => ?_, fun h1 => ?_⟩
  · have h1 := (cc_lt _ _).mp h1
    try simp (disch := decide) only [ti_iv, ti_ivn, ti_n, ti_0, os_si, os_sj, va_up, upd, Nat.reduceEqDiff, reduceIte] at h1
    conv => whnf
    refine hZ1 _ _ ?_
    conv => whnf
    refine hZ0 _ _ ?_
    first
      | exact Or.inl ⟨by omega, rfl, rfl⟩
      | exact Or.inr ⟨by omega, rfl, rfl⟩
  · have h1 := (nc_lt _ _).mp h1
    try simp (disch := decide) only [ti_iv, ti_ivn, ti_n, ti_0, os_si, os_sj, va_up, upd, Nat.reduceEqDiff, reduceIte] at h1
    conv => whnf
    refine ⟨fun h2 => ?_, fun h2 => ?_⟩
    · have h2 := (cc_gt _ _).mp h2
      try simp (disch := decide) only [ti_iv, ti_ivn, ti_n, ti_0, os_si, os_sj, va_up, upd, Nat.reduceEqDiff, reduceIte] at h2
      conv => whnf
      refine hZ1 _ _ ?_
      conv => whnf
      refine hZ0 _ _ ?_
      first
        | exact Or.inl ⟨by omega, rfl, rfl⟩
        | exact Or.inr ⟨by omega, rfl, rfl⟩
    · have h2 := (nc_gt _ _).mp h2
      try simp (disch := decide) only [ti_iv, ti_ivn, ti_n, ti_0, os_si, os_sj, va_up, upd, Nat.reduceEqDiff, reduceIte] at h2
      conv => whnf
      refine ⟨fun h3 => ?_, fun h3 => ?_⟩
      · have h3 := (cc_lt _ _).mp h3
        try simp (disch := decide) only [ti_iv, ti_ivn, ti_n, ti_0, os_si, os_sj, va_up, upd, Nat.reduceEqDiff, reduceIte] at h3
        conv => whnf
        refine pm_gd (gI (by (try simp (disch := decide) only [ti_iv, ti_ivn, ti_n, ti_0, os_si, os_sj, va_up, upd, Nat.reduceEqDiff, reduceIte]); omega) (by (try simp (disch := decide) only [ti_iv, ti_ivn, ti_n, ti_0, os_si, os_sj, va_up, upd, Nat.reduceEqDiff, reduceIte]); omega)) ?_
        conv => whnf
        refine hZ1 _ _ ?_
        conv => whnf
        refine hZ0 _ _ ?_
        first
          | exact Or.inl ⟨by omega, rfl, rfl⟩
          | exact Or.inr ⟨by omega, rfl, rfl⟩
      · have h3 := (nc_lt _ _).mp h3
        try simp (disch := decide) only [ti_iv, ti_ivn, ti_n, ti_0, os_si, os_sj, va_up, upd, Nat.reduceEqDiff, reduceIte] at h3
        conv => whnf
        refine hZ1 _ _ ?_
        conv => whnf
        refine hZ0 _ _ ?_
        first
          | exact Or.inl ⟨by omega, rfl, rfl⟩
          | exact Or.inr ⟨by omega, rfl, rfl⟩
set_option maxRecDepth 20000 in
theorem m_spot (σ : pm_S) (a1 : Int32) (g : 0 ≤ (σ.1 93 2).toInt ∧ (σ.1 93 2).toInt ≤ 10) : Sp 166 2 [.ref 93, .int a1] σ (fun r τ => ((0 ≤ a1.toInt ∧ a1.toInt ≤ 99 ∧ (σ.1 93 2).toInt < 10) ∧ r = some (.int (σ.1 93 2 + 1 - 1)) ∧ τ = (va_up (va_up (va_up σ.1 93 (upd (σ.1 93) 0 0)) 94 (upd (σ.1 94) (σ.1 93 2).toNatClampNeg a1)) 93 (upd (upd (σ.1 93) 0 0) 2 (σ.1 93 2 + 1)), σ.2)) ∨ (¬ (0 ≤ a1.toInt ∧ a1.toInt ≤ 99 ∧ (σ.1 93 2).toInt < 10) ∧ r = some (.int (-1)) ∧ τ = (va_up σ.1 93 (upd (σ.1 93) 0 0), σ.2))) := by
  refine S_Model_spot [] 400 rfl (fun R0 cl0 Z0 hR0 hcl0 hZ0 => ?_)
  conv => whnf
  refine hcl0 _ _ _ _ ?_
  refine S_Model_isIn [] 400 rfl (fun R1 cl1 Z1 hR1 hcl1 hZ1 => ?_)
  conv => whnf
  refine ⟨fun h1 => ?_, fun h1 => ?_⟩
  · have h1 := (cc_lt _ _).mp h1
    try simp (disch := decide) only [ti_iv, ti_ivn, ti_n, ti_0, os_si, os_sj, va_up, upd, Nat.reduceEqDiff, reduceIte] at h1
    conv => whnf
    refine pm_gd (by decide) ?_
    refine hZ1 _ _ ?_
    conv => whnf
    refine pm_bt (cdt rfl) ?_
    conv => whnf
    refine hZ0 _ _ ?_
    first
      | exact Or.inl ⟨by omega, rfl, rfl⟩
      | exact Or.inr ⟨by omega, rfl, rfl⟩
  · have h1 := (nc_lt _ _).mp h1
    try simp (disch := decide) only [ti_iv, ti_ivn, ti_n, ti_0, os_si, os_sj, va_up, upd, Nat.reduceEqDiff, reduceIte] at h1
    conv => whnf
    refine ⟨fun h2 => ?_, fun h2 => ?_⟩
    · have h2 := (cc_gt _ _).mp h2
      try simp (disch := decide) only [ti_iv, ti_ivn, ti_n, ti_0, os_si, os_sj, va_up, upd, Nat.reduceEqDiff, reduceIte] at h2
      conv => whnf
      refine pm_gd (by decide) ?_
      refine hZ1 _ _ ?_
      conv => whnf
      refine pm_bt (cdt rfl) ?_
      conv => whnf
      refine hZ0 _ _ ?_
      first
        | exact Or.inl ⟨by omega, rfl, rfl⟩
        | exact Or.inr ⟨by omega, rfl, rfl⟩
    · have h2 := (nc_gt _ _).mp h2
      try simp (disch := decide) only [ti_iv, ti_ivn, ti_n, ti_0, os_si, os_sj, va_up, upd, Nat.reduceEqDiff, reduceIte] at h2
      conv => whnf
      refine pm_gd (by decide) ?_
      refine hZ1 _ _ ?_
      conv => whnf
      refine pm_bf (cdf rfl) ?_
      conv => whnf
      refine ⟨fun h3 => ?_, fun h3 => ?_⟩
      · have h3 := (cc_ne _ _).mp h3
        try simp (disch := decide) only [ti_iv, ti_ivn, ti_n, ti_0, os_si, os_sj, va_up, upd, Nat.reduceEqDiff, reduceIte] at h3
        conv => whnf
        refine pm_gd (gI (by (try simp (disch := decide) only [ti_iv, ti_ivn, ti_n, ti_0, os_si, os_sj, va_up, upd, Nat.reduceEqDiff, reduceIte]); omega) (by (try simp (disch := decide) only [ti_iv, ti_ivn, ti_n, ti_0, os_si, os_sj, va_up, upd, Nat.reduceEqDiff, reduceIte]); omega)) ?_
        conv => whnf
        refine hZ0 _ _ ?_
        first
          | exact Or.inl ⟨by omega, rfl, rfl⟩
          | exact Or.inr ⟨by omega, rfl, rfl⟩
      · have h3 := (nc_ne _ _).mp h3
        try simp (disch := decide) only [ti_iv, ti_ivn, ti_n, ti_0, os_si, os_sj, va_up, upd, Nat.reduceEqDiff, reduceIte] at h3
        conv => whnf
        refine hZ0 _ _ ?_
        first
          | exact Or.inl ⟨by omega, rfl, rfl⟩
          | exact Or.inr ⟨by omega, rfl, rfl⟩
set_option maxRecDepth 20000 in
theorem x_way (σ : pm_S) (a1 a2 a3 : Int32) (g : 0 ≤ (σ.1 3 0).toInt ∧ (σ.1 3 0).toInt ≤ 10) : Sp 130 3 [.ref 0, .int a1, .int a2, .int a3] σ (fun r τ => ((0 ≤ a1.toInt ∧ a1.toInt < (σ.1 3 0).toInt ∧ 0 ≤ a2.toInt ∧ a2.toInt < (σ.1 3 0).toInt ∧ ¬ a1.toInt = a2.toInt ∧ 0 ≤ a3.toInt ∧ a3.toInt ≤ 99) ∧ r = some (.int 1) ∧ τ = (va_up (va_up σ.1 5 (upd (σ.1 5) (a1 * nI 10 + a2).toNatClampNeg a3)) 5 (upd (upd (σ.1 5) (a1 * nI 10 + a2).toNatClampNeg a3) (a2 * nI 10 + a1).toNatClampNeg a3), σ.2)) ∨ (¬ (0 ≤ a1.toInt ∧ a1.toInt < (σ.1 3 0).toInt ∧ 0 ≤ a2.toInt ∧ a2.toInt < (σ.1 3 0).toInt ∧ ¬ a1.toInt = a2.toInt ∧ 0 ≤ a3.toInt ∧ a3.toInt ≤ 99) ∧ r = some (.int 0) ∧ τ = σ)) := by
  refine S_PaidWhereMade_way [] 400 rfl (fun R0 cl0 Z0 hR0 hcl0 hZ0 => ?_)
  conv => whnf
  refine hcl0 _ _ _ _ ?_
  refine S_Spots_tellMiles [] 400 rfl (fun R1 cl1 Z1 hR1 hcl1 hZ1 => ?_)
  conv => whnf
  refine hcl1 _ _ _ _ ?_
  refine S_Spots_has [] 400 rfl (fun R2 cl2 Z2 hR2 hcl2 hZ2 => ?_)
  conv => whnf
  refine ⟨fun h1 => ?_, fun h1 => ?_⟩
  · have h1 := (cc_lt _ _).mp h1
    try simp (disch := decide) only [ti_iv, ti_ivn, ti_n, ti_0, os_si, os_sj, va_up, upd, Nat.reduceEqDiff, reduceIte] at h1
    conv => whnf
    refine pm_gd (by decide) ?_
    refine hZ2 _ _ ?_
    conv => whnf
    refine pm_bt (cdt rfl) ?_
    conv => whnf
    refine pm_gd (by decide) ?_
    refine hZ1 _ _ ?_
    conv => whnf
    refine pm_gd (by decide) ?_
    refine hZ0 _ _ ?_
    first
      | exact Or.inl ⟨by omega, rfl, rfl⟩
      | exact Or.inr ⟨by omega, rfl, rfl⟩
  · have h1 := (nc_lt _ _).mp h1
    try simp (disch := decide) only [ti_iv, ti_ivn, ti_n, ti_0, os_si, os_sj, va_up, upd, Nat.reduceEqDiff, reduceIte] at h1
    conv => whnf
    refine ⟨fun h2 => ?_, fun h2 => ?_⟩
    · have h2 := (cc_ge _ _).mp h2
      try simp (disch := decide) only [ti_iv, ti_ivn, ti_n, ti_0, os_si, os_sj, va_up, upd, Nat.reduceEqDiff, reduceIte] at h2
      conv => whnf
      refine pm_gd (by decide) ?_
      refine hZ2 _ _ ?_
      conv => whnf
      refine pm_bt (cdt rfl) ?_
      conv => whnf
      refine pm_gd (by decide) ?_
      refine hZ1 _ _ ?_
      conv => whnf
      refine pm_gd (by decide) ?_
      refine hZ0 _ _ ?_
      first
        | exact Or.inl ⟨by omega, rfl, rfl⟩
        | exact Or.inr ⟨by omega, rfl, rfl⟩
    · have h2 := (nc_ge _ _).mp h2
      try simp (disch := decide) only [ti_iv, ti_ivn, ti_n, ti_0, os_si, os_sj, va_up, upd, Nat.reduceEqDiff, reduceIte] at h2
      conv => whnf
      refine pm_gd (by decide) ?_
      refine hZ2 _ _ ?_
      conv => whnf
      refine pm_bf (cdf rfl) ?_
      conv => whnf
      refine hcl1 _ _ _ _ ?_
      refine S_Spots_has [] 400 rfl (fun R2 cl2 Z2 hR2 hcl2 hZ2 => ?_)
      conv => whnf
      refine ⟨fun h3 => ?_, fun h3 => ?_⟩
      · have h3 := (cc_lt _ _).mp h3
        try simp (disch := decide) only [ti_iv, ti_ivn, ti_n, ti_0, os_si, os_sj, va_up, upd, Nat.reduceEqDiff, reduceIte] at h3
        conv => whnf
        refine pm_gd (by decide) ?_
        refine hZ2 _ _ ?_
        conv => whnf
        refine pm_bt (cdt rfl) ?_
        conv => whnf
        refine pm_gd (by decide) ?_
        refine hZ1 _ _ ?_
        conv => whnf
        refine pm_gd (by decide) ?_
        refine hZ0 _ _ ?_
        first
          | exact Or.inl ⟨by omega, rfl, rfl⟩
          | exact Or.inr ⟨by omega, rfl, rfl⟩
      · have h3 := (nc_lt _ _).mp h3
        try simp (disch := decide) only [ti_iv, ti_ivn, ti_n, ti_0, os_si, os_sj, va_up, upd, Nat.reduceEqDiff, reduceIte] at h3
        conv => whnf
        refine ⟨fun h4 => ?_, fun h4 => ?_⟩
        · have h4 := (cc_ge _ _).mp h4
          try simp (disch := decide) only [ti_iv, ti_ivn, ti_n, ti_0, os_si, os_sj, va_up, upd, Nat.reduceEqDiff, reduceIte] at h4
          conv => whnf
          refine pm_gd (by decide) ?_
          refine hZ2 _ _ ?_
          conv => whnf
          refine pm_bt (cdt rfl) ?_
          conv => whnf
          refine pm_gd (by decide) ?_
          refine hZ1 _ _ ?_
          conv => whnf
          refine pm_gd (by decide) ?_
          refine hZ0 _ _ ?_
          first
            | exact Or.inl ⟨by omega, rfl, rfl⟩
            | exact Or.inr ⟨by omega, rfl, rfl⟩
        · have h4 := (nc_ge _ _).mp h4
          try simp (disch := decide) only [ti_iv, ti_ivn, ti_n, ti_0, os_si, os_sj, va_up, upd, Nat.reduceEqDiff, reduceIte] at h4
          conv => whnf
          refine pm_gd (by decide) ?_
          refine hZ2 _ _ ?_
          conv => whnf
          refine pm_bf (cdf rfl) ?_
          conv => whnf
          refine ⟨fun h5 => ?_, fun h5 => ?_⟩
          · have h5 := (cc_eq _ _).mp h5
            try simp (disch := decide) only [ti_iv, ti_ivn, ti_n, ti_0, os_si, os_sj, va_up, upd, Nat.reduceEqDiff, reduceIte] at h5
            conv => whnf
            refine pm_gd (by decide) ?_
            refine hZ1 _ _ ?_
            conv => whnf
            refine pm_gd (by decide) ?_
            refine hZ0 _ _ ?_
            first
              | exact Or.inl ⟨by omega, rfl, rfl⟩
              | exact Or.inr ⟨by omega, rfl, rfl⟩
          · have h5 := (nc_eq _ _).mp h5
            try simp (disch := decide) only [ti_iv, ti_ivn, ti_n, ti_0, os_si, os_sj, va_up, upd, Nat.reduceEqDiff, reduceIte] at h5
            conv => whnf
            refine ⟨fun h6 => ?_, fun h6 => ?_⟩
            · have h6 := (cc_lt _ _).mp h6
              try simp (disch := decide) only [ti_iv, ti_ivn, ti_n, ti_0, os_si, os_sj, va_up, upd, Nat.reduceEqDiff, reduceIte] at h6
              conv => whnf
              refine pm_gd (by decide) ?_
              refine hZ1 _ _ ?_
              conv => whnf
              refine pm_gd (by decide) ?_
              refine hZ0 _ _ ?_
              first
                | exact Or.inl ⟨by omega, rfl, rfl⟩
                | exact Or.inr ⟨by omega, rfl, rfl⟩
            · have h6 := (nc_lt _ _).mp h6
              try simp (disch := decide) only [ti_iv, ti_ivn, ti_n, ti_0, os_si, os_sj, va_up, upd, Nat.reduceEqDiff, reduceIte] at h6
              conv => whnf
              refine ⟨fun h7 => ?_, fun h7 => ?_⟩
              · have h7 := (cc_le _ _).mp h7
                try simp (disch := decide) only [ti_iv, ti_ivn, ti_n, ti_0, os_si, os_sj, va_up, upd, Nat.reduceEqDiff, reduceIte] at h7
                conv => whnf
                refine pm_gd (gI (by first | exact (g10 (by omega) (by omega)).1 | exact (g10 (by omega) (by omega)).2) (by first | exact (g10 (by omega) (by omega)).1 | exact (g10 (by omega) (by omega)).2)) ?_
                conv => whnf
                refine pm_gd (gI (by first | exact (g10 (by omega) (by omega)).1 | exact (g10 (by omega) (by omega)).2) (by first | exact (g10 (by omega) (by omega)).1 | exact (g10 (by omega) (by omega)).2)) ?_
                conv => whnf
                refine pm_gd (by decide) ?_
                refine hZ1 _ _ ?_
                conv => whnf
                refine pm_gd (by decide) ?_
                refine hZ0 _ _ ?_
                first
                  | exact Or.inl ⟨by omega, rfl, rfl⟩
                  | exact Or.inr ⟨by omega, rfl, rfl⟩
              · have h7 := (nc_le _ _).mp h7
                try simp (disch := decide) only [ti_iv, ti_ivn, ti_n, ti_0, os_si, os_sj, va_up, upd, Nat.reduceEqDiff, reduceIte] at h7
                conv => whnf
                refine pm_gd (by decide) ?_
                refine hZ1 _ _ ?_
                conv => whnf
                refine pm_gd (by decide) ?_
                refine hZ0 _ _ ?_
                first
                  | exact Or.inl ⟨by omega, rfl, rfl⟩
                  | exact Or.inr ⟨by omega, rfl, rfl⟩
set_option maxRecDepth 20000 in
theorem m_way (σ : pm_S) (a1 a2 a3 : Int32) (g : 0 ≤ (σ.1 93 2).toInt ∧ (σ.1 93 2).toInt ≤ 10) : Sp 167 3 [.ref 93, .int a1, .int a2, .int a3] σ (fun r τ => ((0 ≤ a1.toInt ∧ a1.toInt < (σ.1 93 2).toInt ∧ 0 ≤ a2.toInt ∧ a2.toInt < (σ.1 93 2).toInt ∧ ¬ a1.toInt = a2.toInt ∧ 0 ≤ a3.toInt ∧ a3.toInt ≤ 99) ∧ r = some (.int 1) ∧ τ = (va_up (va_up (va_up σ.1 93 (upd (σ.1 93) 0 0)) 95 (upd (σ.1 95) (nI 10 * a1 + a2).toNatClampNeg (a3 - nI 9))) 95 (upd (upd (σ.1 95) (nI 10 * a1 + a2).toNatClampNeg (a3 - nI 9)) (nI 10 * a2 + a1).toNatClampNeg (a3 - nI 9)), σ.2)) ∨ (¬ (0 ≤ a1.toInt ∧ a1.toInt < (σ.1 93 2).toInt ∧ 0 ≤ a2.toInt ∧ a2.toInt < (σ.1 93 2).toInt ∧ ¬ a1.toInt = a2.toInt ∧ 0 ≤ a3.toInt ∧ a3.toInt ≤ 99) ∧ r = some (.int 0) ∧ τ = (va_up σ.1 93 (upd (σ.1 93) 0 0), σ.2))) := by
  refine S_Model_way [] 400 rfl (fun R0 cl0 Z0 hR0 hcl0 hZ0 => ?_)
  conv => whnf
  refine hcl0 _ _ _ _ ?_
  refine S_Model_isSpot [] 400 rfl (fun R1 cl1 Z1 hR1 hcl1 hZ1 => ?_)
  conv => whnf
  refine ⟨fun h1 => ?_, fun h1 => ?_⟩
  · have h1 := (cc_lt _ _).mp h1
    try simp (disch := decide) only [ti_iv, ti_ivn, ti_n, ti_0, os_si, os_sj, va_up, upd, Nat.reduceEqDiff, reduceIte] at h1
    conv => whnf
    refine pm_gd (by decide) ?_
    refine hZ1 _ _ ?_
    conv => whnf
    refine pm_bt (cdt rfl) ?_
    conv => whnf
    refine pm_gd (by decide) ?_
    refine hZ0 _ _ ?_
    first
      | exact Or.inl ⟨by omega, rfl, rfl⟩
      | exact Or.inr ⟨by omega, rfl, rfl⟩
  · have h1 := (nc_lt _ _).mp h1
    try simp (disch := decide) only [ti_iv, ti_ivn, ti_n, ti_0, os_si, os_sj, va_up, upd, Nat.reduceEqDiff, reduceIte] at h1
    conv => whnf
    refine ⟨fun h2 => ?_, fun h2 => ?_⟩
    · have h2 := (cc_ge _ _).mp h2
      try simp (disch := decide) only [ti_iv, ti_ivn, ti_n, ti_0, os_si, os_sj, va_up, upd, Nat.reduceEqDiff, reduceIte] at h2
      conv => whnf
      refine pm_gd (by decide) ?_
      refine hZ1 _ _ ?_
      conv => whnf
      refine pm_bt (cdt rfl) ?_
      conv => whnf
      refine pm_gd (by decide) ?_
      refine hZ0 _ _ ?_
      first
        | exact Or.inl ⟨by omega, rfl, rfl⟩
        | exact Or.inr ⟨by omega, rfl, rfl⟩
    · have h2 := (nc_ge _ _).mp h2
      try simp (disch := decide) only [ti_iv, ti_ivn, ti_n, ti_0, os_si, os_sj, va_up, upd, Nat.reduceEqDiff, reduceIte] at h2
      conv => whnf
      refine pm_gd (by decide) ?_
      refine hZ1 _ _ ?_
      conv => whnf
      refine pm_bf (cdf rfl) ?_
      conv => whnf
      refine hcl0 _ _ _ _ ?_
      refine S_Model_isSpot [] 400 rfl (fun R1 cl1 Z1 hR1 hcl1 hZ1 => ?_)
      conv => whnf
      refine ⟨fun h3 => ?_, fun h3 => ?_⟩
      · have h3 := (cc_lt _ _).mp h3
        try simp (disch := decide) only [ti_iv, ti_ivn, ti_n, ti_0, os_si, os_sj, va_up, upd, Nat.reduceEqDiff, reduceIte] at h3
        conv => whnf
        refine pm_gd (by decide) ?_
        refine hZ1 _ _ ?_
        conv => whnf
        refine pm_bt (cdt rfl) ?_
        conv => whnf
        refine pm_gd (by decide) ?_
        refine hZ0 _ _ ?_
        first
          | exact Or.inl ⟨by omega, rfl, rfl⟩
          | exact Or.inr ⟨by omega, rfl, rfl⟩
      · have h3 := (nc_lt _ _).mp h3
        try simp (disch := decide) only [ti_iv, ti_ivn, ti_n, ti_0, os_si, os_sj, va_up, upd, Nat.reduceEqDiff, reduceIte] at h3
        conv => whnf
        refine ⟨fun h4 => ?_, fun h4 => ?_⟩
        · have h4 := (cc_ge _ _).mp h4
          try simp (disch := decide) only [ti_iv, ti_ivn, ti_n, ti_0, os_si, os_sj, va_up, upd, Nat.reduceEqDiff, reduceIte] at h4
          conv => whnf
          refine pm_gd (by decide) ?_
          refine hZ1 _ _ ?_
          conv => whnf
          refine pm_bt (cdt rfl) ?_
          conv => whnf
          refine pm_gd (by decide) ?_
          refine hZ0 _ _ ?_
          first
            | exact Or.inl ⟨by omega, rfl, rfl⟩
            | exact Or.inr ⟨by omega, rfl, rfl⟩
        · have h4 := (nc_ge _ _).mp h4
          try simp (disch := decide) only [ti_iv, ti_ivn, ti_n, ti_0, os_si, os_sj, va_up, upd, Nat.reduceEqDiff, reduceIte] at h4
          conv => whnf
          refine pm_gd (by decide) ?_
          refine hZ1 _ _ ?_
          conv => whnf
          refine pm_bf (cdf rfl) ?_
          conv => whnf
          refine ⟨fun h5 => ?_, fun h5 => ?_⟩
          · have h5 := (cc_eq _ _).mp h5
            try simp (disch := decide) only [ti_iv, ti_ivn, ti_n, ti_0, os_si, os_sj, va_up, upd, Nat.reduceEqDiff, reduceIte] at h5
            conv => whnf
            refine pm_gd (by decide) ?_
            refine hZ0 _ _ ?_
            first
              | exact Or.inl ⟨by omega, rfl, rfl⟩
              | exact Or.inr ⟨by omega, rfl, rfl⟩
          · have h5 := (nc_eq _ _).mp h5
            try simp (disch := decide) only [ti_iv, ti_ivn, ti_n, ti_0, os_si, os_sj, va_up, upd, Nat.reduceEqDiff, reduceIte] at h5
            conv => whnf
            refine hcl0 _ _ _ _ ?_
            refine S_Model_isIn [] 400 rfl (fun R1 cl1 Z1 hR1 hcl1 hZ1 => ?_)
            conv => whnf
            refine ⟨fun h6 => ?_, fun h6 => ?_⟩
            · have h6 := (cc_lt _ _).mp h6
              try simp (disch := decide) only [ti_iv, ti_ivn, ti_n, ti_0, os_si, os_sj, va_up, upd, Nat.reduceEqDiff, reduceIte] at h6
              conv => whnf
              refine pm_gd (by decide) ?_
              refine hZ1 _ _ ?_
              conv => whnf
              refine pm_bf (cdf rfl) ?_
              conv => whnf
              refine pm_gd (by decide) ?_
              refine hZ0 _ _ ?_
              first
                | exact Or.inl ⟨by omega, rfl, rfl⟩
                | exact Or.inr ⟨by omega, rfl, rfl⟩
            · have h6 := (nc_lt _ _).mp h6
              try simp (disch := decide) only [ti_iv, ti_ivn, ti_n, ti_0, os_si, os_sj, va_up, upd, Nat.reduceEqDiff, reduceIte] at h6
              conv => whnf
              refine ⟨fun h7 => ?_, fun h7 => ?_⟩
              · have h7 := (cc_gt _ _).mp h7
                try simp (disch := decide) only [ti_iv, ti_ivn, ti_n, ti_0, os_si, os_sj, va_up, upd, Nat.reduceEqDiff, reduceIte] at h7
                conv => whnf
                refine pm_gd (by decide) ?_
                refine hZ1 _ _ ?_
                conv => whnf
                refine pm_bf (cdf rfl) ?_
                conv => whnf
                refine pm_gd (by decide) ?_
                refine hZ0 _ _ ?_
                first
                  | exact Or.inl ⟨by omega, rfl, rfl⟩
                  | exact Or.inr ⟨by omega, rfl, rfl⟩
              · have h7 := (nc_gt _ _).mp h7
                try simp (disch := decide) only [ti_iv, ti_ivn, ti_n, ti_0, os_si, os_sj, va_up, upd, Nat.reduceEqDiff, reduceIte] at h7
                conv => whnf
                refine pm_gd (by decide) ?_
                refine hZ1 _ _ ?_
                conv => whnf
                refine pm_bt (cdt rfl) ?_
                conv => whnf
                refine pm_gd (gI (by first | exact (g01 (by omega) (by omega)).1 | exact (g01 (by omega) (by omega)).2) (by first | exact (g01 (by omega) (by omega)).1 | exact (g01 (by omega) (by omega)).2)) ?_
                conv => whnf
                refine pm_gd (gI (by first | exact (g01 (by omega) (by omega)).1 | exact (g01 (by omega) (by omega)).2) (by first | exact (g01 (by omega) (by omega)).1 | exact (g01 (by omega) (by omega)).2)) ?_
                conv => whnf
                refine pm_gd (by decide) ?_
                refine hZ0 _ _ ?_
                first
                  | exact Or.inl ⟨by omega, rfl, rfl⟩
                  | exact Or.inr ⟨by omega, rfl, rfl⟩
set_option maxRecDepth 20000 in
theorem x_person (σ : pm_S) (a1 a2 a3 : Int32) (g : 0 ≤ (σ.1 7 0).toInt ∧ (σ.1 7 0).toInt ≤ 10) : Sp 131 3 [.ref 0, .int a1, .int a2, .int a3] σ (fun r τ => ((0 ≤ a1.toInt ∧ a1.toInt < (σ.1 3 0).toInt ∧ 0 ≤ a2.toInt ∧ a2.toInt ≤ 99999 ∧ 0 ≤ a3.toInt ∧ a3.toInt ≤ 99 ∧ (σ.1 7 0).toInt < 10) ∧ r = some (.int (σ.1 7 0 + 1 - 1)) ∧ τ = ((va_up (va_up (va_up (va_up (va_up (va_up σ.1 8 (upd (σ.1 8) (σ.1 7 0).toNatClampNeg (a1))) 9 (upd (σ.1 9) (σ.1 7 0).toNatClampNeg (a2))) 10 (upd (σ.1 10) (σ.1 7 0).toNatClampNeg (a3))) 11 (upd (σ.1 11) (σ.1 7 0).toNatClampNeg (a1))) 12 (upd (σ.1 12) (σ.1 7 0).toNatClampNeg (-1))) 7 (upd (σ.1 7) 0 (σ.1 7 0 + 1))), σ.2)) ∨ (¬ (0 ≤ a1.toInt ∧ a1.toInt < (σ.1 3 0).toInt ∧ 0 ≤ a2.toInt ∧ a2.toInt ≤ 99999 ∧ 0 ≤ a3.toInt ∧ a3.toInt ≤ 99 ∧ (σ.1 7 0).toInt < 10) ∧ r = some (.int (-1)) ∧ τ = σ)) := by
  refine S_PaidWhereMade_person [] 400 rfl (fun R0 cl0 Z0 hR0 hcl0 hZ0 => ?_)
  conv => whnf
  refine hcl0 _ _ _ _ ?_
  refine S_Spots_has [] 400 rfl (fun R1 cl1 Z1 hR1 hcl1 hZ1 => ?_)
  conv => whnf
  refine ⟨fun h1 => ?_, fun h1 => ?_⟩
  · have h1 := (cc_lt _ _).mp h1
    try simp (disch := decide) only [ti_iv, ti_ivn, ti_n, ti_0, os_si, os_sj, va_up, upd, Nat.reduceEqDiff, reduceIte] at h1
    conv => whnf
    refine pm_gd (by decide) ?_
    refine hZ1 _ _ ?_
    conv => whnf
    refine pm_bt (cdt rfl) ?_
    conv => whnf
    refine hZ0 _ _ ?_
    first
      | exact Or.inl ⟨by omega, rfl, rfl⟩
      | exact Or.inr ⟨by omega, rfl, rfl⟩
  · have h1 := (nc_lt _ _).mp h1
    try simp (disch := decide) only [ti_iv, ti_ivn, ti_n, ti_0, os_si, os_sj, va_up, upd, Nat.reduceEqDiff, reduceIte] at h1
    conv => whnf
    refine ⟨fun h2 => ?_, fun h2 => ?_⟩
    · have h2 := (cc_ge _ _).mp h2
      try simp (disch := decide) only [ti_iv, ti_ivn, ti_n, ti_0, os_si, os_sj, va_up, upd, Nat.reduceEqDiff, reduceIte] at h2
      conv => whnf
      refine pm_gd (by decide) ?_
      refine hZ1 _ _ ?_
      conv => whnf
      refine pm_bt (cdt rfl) ?_
      conv => whnf
      refine hZ0 _ _ ?_
      first
        | exact Or.inl ⟨by omega, rfl, rfl⟩
        | exact Or.inr ⟨by omega, rfl, rfl⟩
    · have h2 := (nc_ge _ _).mp h2
      try simp (disch := decide) only [ti_iv, ti_ivn, ti_n, ti_0, os_si, os_sj, va_up, upd, Nat.reduceEqDiff, reduceIte] at h2
      conv => whnf
      refine pm_gd (by decide) ?_
      refine hZ1 _ _ ?_
      conv => whnf
      refine pm_bf (cdf rfl) ?_
      conv => whnf
      refine hcl0 _ _ _ _ ?_
      refine S_People_add [] 400 rfl (fun R1 cl1 Z1 hR1 hcl1 hZ1 => ?_)
      conv => whnf
      refine ⟨fun h3 => ?_, fun h3 => ?_⟩
      · have h3 := (cc_lt _ _).mp h3
        try simp (disch := decide) only [ti_iv, ti_ivn, ti_n, ti_0, os_si, os_sj, va_up, upd, Nat.reduceEqDiff, reduceIte] at h3
        conv => whnf
        refine pm_bt (cdt rfl) ?_
        conv => whnf
        refine hZ1 _ _ ?_
        conv => whnf
        refine hZ0 _ _ ?_
        first
          | exact Or.inl ⟨by omega, rfl, rfl⟩
          | exact Or.inr ⟨by omega, rfl, rfl⟩
      · have h3 := (nc_lt _ _).mp h3
        try simp (disch := decide) only [ti_iv, ti_ivn, ti_n, ti_0, os_si, os_sj, va_up, upd, Nat.reduceEqDiff, reduceIte] at h3
        conv => whnf
        refine ⟨fun h4 => ?_, fun h4 => ?_⟩
        · have h4 := (cc_gt _ _).mp h4
          try simp (disch := decide) only [ti_iv, ti_ivn, ti_n, ti_0, os_si, os_sj, va_up, upd, Nat.reduceEqDiff, reduceIte] at h4
          conv => whnf
          refine pm_bt (cdt rfl) ?_
          conv => whnf
          refine hZ1 _ _ ?_
          conv => whnf
          refine hZ0 _ _ ?_
          first
            | exact Or.inl ⟨by omega, rfl, rfl⟩
            | exact Or.inr ⟨by omega, rfl, rfl⟩
        · have h4 := (nc_gt _ _).mp h4
          try simp (disch := decide) only [ti_iv, ti_ivn, ti_n, ti_0, os_si, os_sj, va_up, upd, Nat.reduceEqDiff, reduceIte] at h4
          conv => whnf
          refine ⟨fun h5 => ?_, fun h5 => ?_⟩
          · have h5 := (cc_lt _ _).mp h5
            try simp (disch := decide) only [ti_iv, ti_ivn, ti_n, ti_0, os_si, os_sj, va_up, upd, Nat.reduceEqDiff, reduceIte] at h5
            conv => whnf
            refine pm_bt (cdt rfl) ?_
            conv => whnf
            refine hZ1 _ _ ?_
            conv => whnf
            refine hZ0 _ _ ?_
            first
              | exact Or.inl ⟨by omega, rfl, rfl⟩
              | exact Or.inr ⟨by omega, rfl, rfl⟩
          · have h5 := (nc_lt _ _).mp h5
            try simp (disch := decide) only [ti_iv, ti_ivn, ti_n, ti_0, os_si, os_sj, va_up, upd, Nat.reduceEqDiff, reduceIte] at h5
            conv => whnf
            refine ⟨fun h6 => ?_, fun h6 => ?_⟩
            · have h6 := (cc_gt _ _).mp h6
              try simp (disch := decide) only [ti_iv, ti_ivn, ti_n, ti_0, os_si, os_sj, va_up, upd, Nat.reduceEqDiff, reduceIte] at h6
              conv => whnf
              refine pm_bt (cdt rfl) ?_
              conv => whnf
              refine hZ1 _ _ ?_
              conv => whnf
              refine hZ0 _ _ ?_
              first
                | exact Or.inl ⟨by omega, rfl, rfl⟩
                | exact Or.inr ⟨by omega, rfl, rfl⟩
            · have h6 := (nc_gt _ _).mp h6
              try simp (disch := decide) only [ti_iv, ti_ivn, ti_n, ti_0, os_si, os_sj, va_up, upd, Nat.reduceEqDiff, reduceIte] at h6
              conv => whnf
              refine pm_bf (cdf rfl) ?_
              conv => whnf
              refine ⟨fun h7 => ?_, fun h7 => ?_⟩
              · have h7 := (cc_lt _ _).mp h7
                try simp (disch := decide) only [ti_iv, ti_ivn, ti_n, ti_0, os_si, os_sj, va_up, upd, Nat.reduceEqDiff, reduceIte] at h7
                conv => whnf
                refine pm_gd (gI (by (try simp (disch := decide) only [ti_iv, ti_ivn, ti_n, ti_0, os_si, os_sj, va_up, upd, Nat.reduceEqDiff, reduceIte]); omega) (by (try simp (disch := decide) only [ti_iv, ti_ivn, ti_n, ti_0, os_si, os_sj, va_up, upd, Nat.reduceEqDiff, reduceIte]); omega)) ?_
                conv => whnf
                refine pm_gd (gI (by (try simp (disch := decide) only [ti_iv, ti_ivn, ti_n, ti_0, os_si, os_sj, va_up, upd, Nat.reduceEqDiff, reduceIte]); omega) (by (try simp (disch := decide) only [ti_iv, ti_ivn, ti_n, ti_0, os_si, os_sj, va_up, upd, Nat.reduceEqDiff, reduceIte]); omega)) ?_
                conv => whnf
                refine pm_gd (gI (by (try simp (disch := decide) only [ti_iv, ti_ivn, ti_n, ti_0, os_si, os_sj, va_up, upd, Nat.reduceEqDiff, reduceIte]); omega) (by (try simp (disch := decide) only [ti_iv, ti_ivn, ti_n, ti_0, os_si, os_sj, va_up, upd, Nat.reduceEqDiff, reduceIte]); omega)) ?_
                conv => whnf
                refine pm_gd (gI (by (try simp (disch := decide) only [ti_iv, ti_ivn, ti_n, ti_0, os_si, os_sj, va_up, upd, Nat.reduceEqDiff, reduceIte]); omega) (by (try simp (disch := decide) only [ti_iv, ti_ivn, ti_n, ti_0, os_si, os_sj, va_up, upd, Nat.reduceEqDiff, reduceIte]); omega)) ?_
                conv => whnf
                refine pm_gd (gI (by (try simp (disch := decide) only [ti_iv, ti_ivn, ti_n, ti_0, os_si, os_sj, va_up, upd, Nat.reduceEqDiff, reduceIte]); omega) (by (try simp (disch := decide) only [ti_iv, ti_ivn, ti_n, ti_0, os_si, os_sj, va_up, upd, Nat.reduceEqDiff, reduceIte]); omega)) ?_
                conv => whnf
                refine hZ1 _ _ ?_
                conv => whnf
                refine hZ0 _ _ ?_
                first
                  | exact Or.inl ⟨by omega, rfl, rfl⟩
                  | exact Or.inr ⟨by omega, rfl, rfl⟩
              · have h7 := (nc_lt _ _).mp h7
                try simp (disch := decide) only [ti_iv, ti_ivn, ti_n, ti_0, os_si, os_sj, va_up, upd, Nat.reduceEqDiff, reduceIte] at h7
                conv => whnf
                refine hZ1 _ _ ?_
                conv => whnf
                refine hZ0 _ _ ?_
                first
                  | exact Or.inl ⟨by omega, rfl, rfl⟩
                  | exact Or.inr ⟨by omega, rfl, rfl⟩
set_option maxRecDepth 20000 in
theorem m_person (σ : pm_S) (a1 a2 a3 : Int32) (g : 0 ≤ (σ.1 93 5).toInt ∧ (σ.1 93 5).toInt ≤ 10) : Sp 168 3 [.ref 93, .int a1, .int a2, .int a3] σ (fun r τ => ((0 ≤ a1.toInt ∧ a1.toInt < (σ.1 93 2).toInt ∧ 0 ≤ a2.toInt ∧ a2.toInt ≤ 99999 ∧ 0 ≤ a3.toInt ∧ a3.toInt ≤ 99 ∧ (σ.1 93 5).toInt < 10) ∧ r = some (.int (σ.1 93 5 + 1 - 1)) ∧ τ = ((va_up (va_up (va_up (va_up (va_up (va_up σ.1 93 (upd (σ.1 93) 0 0)) 96 (upd (σ.1 96) (σ.1 93 5).toNatClampNeg (a1))) 97 (upd (σ.1 97) (σ.1 93 5).toNatClampNeg (a2))) 98 (upd (σ.1 98) (σ.1 93 5).toNatClampNeg (a3))) 99 (upd (σ.1 99) (σ.1 93 5).toNatClampNeg (a1))) 93 (upd (upd (σ.1 93) 0 0) 5 (σ.1 93 5 + 1))), σ.2)) ∨ (¬ (0 ≤ a1.toInt ∧ a1.toInt < (σ.1 93 2).toInt ∧ 0 ≤ a2.toInt ∧ a2.toInt ≤ 99999 ∧ 0 ≤ a3.toInt ∧ a3.toInt ≤ 99 ∧ (σ.1 93 5).toInt < 10) ∧ r = some (.int (-1)) ∧ τ = (va_up σ.1 93 (upd (σ.1 93) 0 0), σ.2))) := by
  refine S_Model_person [] 400 rfl (fun R0 cl0 Z0 hR0 hcl0 hZ0 => ?_)
  conv => whnf
  refine hcl0 _ _ _ _ ?_
  refine S_Model_isSpot [] 400 rfl (fun R1 cl1 Z1 hR1 hcl1 hZ1 => ?_)
  conv => whnf
  refine ⟨fun h1 => ?_, fun h1 => ?_⟩
  · have h1 := (cc_lt _ _).mp h1
    try simp (disch := decide) only [ti_iv, ti_ivn, ti_n, ti_0, os_si, os_sj, va_up, upd, Nat.reduceEqDiff, reduceIte] at h1
    conv => whnf
    refine pm_gd (by decide) ?_
    refine hZ1 _ _ ?_
    conv => whnf
    refine pm_bt (cdt rfl) ?_
    conv => whnf
    refine hZ0 _ _ ?_
    first
      | exact Or.inl ⟨by omega, rfl, rfl⟩
      | exact Or.inr ⟨by omega, rfl, rfl⟩
  · have h1 := (nc_lt _ _).mp h1
    try simp (disch := decide) only [ti_iv, ti_ivn, ti_n, ti_0, os_si, os_sj, va_up, upd, Nat.reduceEqDiff, reduceIte] at h1
    conv => whnf
    refine ⟨fun h2 => ?_, fun h2 => ?_⟩
    · have h2 := (cc_ge _ _).mp h2
      try simp (disch := decide) only [ti_iv, ti_ivn, ti_n, ti_0, os_si, os_sj, va_up, upd, Nat.reduceEqDiff, reduceIte] at h2
      conv => whnf
      refine pm_gd (by decide) ?_
      refine hZ1 _ _ ?_
      conv => whnf
      refine pm_bt (cdt rfl) ?_
      conv => whnf
      refine hZ0 _ _ ?_
      first
        | exact Or.inl ⟨by omega, rfl, rfl⟩
        | exact Or.inr ⟨by omega, rfl, rfl⟩
    · have h2 := (nc_ge _ _).mp h2
      try simp (disch := decide) only [ti_iv, ti_ivn, ti_n, ti_0, os_si, os_sj, va_up, upd, Nat.reduceEqDiff, reduceIte] at h2
      conv => whnf
      refine pm_gd (by decide) ?_
      refine hZ1 _ _ ?_
      conv => whnf
      refine pm_bf (cdf rfl) ?_
      conv => whnf
      refine hcl0 _ _ _ _ ?_
      refine S_Model_isIn [] 400 rfl (fun R1 cl1 Z1 hR1 hcl1 hZ1 => ?_)
      conv => whnf
      refine ⟨fun h3 => ?_, fun h3 => ?_⟩
      · have h3 := (cc_lt _ _).mp h3
        try simp (disch := decide) only [ti_iv, ti_ivn, ti_n, ti_0, os_si, os_sj, va_up, upd, Nat.reduceEqDiff, reduceIte] at h3
        conv => whnf
        refine pm_gd (by decide) ?_
        refine hZ1 _ _ ?_
        conv => whnf
        refine pm_bt (cdt rfl) ?_
        conv => whnf
        refine hZ0 _ _ ?_
        first
          | exact Or.inl ⟨by omega, rfl, rfl⟩
          | exact Or.inr ⟨by omega, rfl, rfl⟩
      · have h3 := (nc_lt _ _).mp h3
        try simp (disch := decide) only [ti_iv, ti_ivn, ti_n, ti_0, os_si, os_sj, va_up, upd, Nat.reduceEqDiff, reduceIte] at h3
        conv => whnf
        refine ⟨fun h4 => ?_, fun h4 => ?_⟩
        · have h4 := (cc_gt _ _).mp h4
          try simp (disch := decide) only [ti_iv, ti_ivn, ti_n, ti_0, os_si, os_sj, va_up, upd, Nat.reduceEqDiff, reduceIte] at h4
          conv => whnf
          refine pm_gd (by decide) ?_
          refine hZ1 _ _ ?_
          conv => whnf
          refine pm_bt (cdt rfl) ?_
          conv => whnf
          refine hZ0 _ _ ?_
          first
            | exact Or.inl ⟨by omega, rfl, rfl⟩
            | exact Or.inr ⟨by omega, rfl, rfl⟩
        · have h4 := (nc_gt _ _).mp h4
          try simp (disch := decide) only [ti_iv, ti_ivn, ti_n, ti_0, os_si, os_sj, va_up, upd, Nat.reduceEqDiff, reduceIte] at h4
          conv => whnf
          refine pm_gd (by decide) ?_
          refine hZ1 _ _ ?_
          conv => whnf
          refine pm_bf (cdf rfl) ?_
          conv => whnf
          refine hcl0 _ _ _ _ ?_
          refine S_Model_isIn [] 400 rfl (fun R1 cl1 Z1 hR1 hcl1 hZ1 => ?_)
          conv => whnf
          refine ⟨fun h5 => ?_, fun h5 => ?_⟩
          · have h5 := (cc_lt _ _).mp h5
            try simp (disch := decide) only [ti_iv, ti_ivn, ti_n, ti_0, os_si, os_sj, va_up, upd, Nat.reduceEqDiff, reduceIte] at h5
            conv => whnf
            refine pm_gd (by decide) ?_
            refine hZ1 _ _ ?_
            conv => whnf
            refine pm_bt (cdt rfl) ?_
            conv => whnf
            refine hZ0 _ _ ?_
            first
              | exact Or.inl ⟨by omega, rfl, rfl⟩
              | exact Or.inr ⟨by omega, rfl, rfl⟩
          · have h5 := (nc_lt _ _).mp h5
            try simp (disch := decide) only [ti_iv, ti_ivn, ti_n, ti_0, os_si, os_sj, va_up, upd, Nat.reduceEqDiff, reduceIte] at h5
            conv => whnf
            refine ⟨fun h6 => ?_, fun h6 => ?_⟩
            · have h6 := (cc_gt _ _).mp h6
              try simp (disch := decide) only [ti_iv, ti_ivn, ti_n, ti_0, os_si, os_sj, va_up, upd, Nat.reduceEqDiff, reduceIte] at h6
              conv => whnf
              refine pm_gd (by decide) ?_
              refine hZ1 _ _ ?_
              conv => whnf
              refine pm_bt (cdt rfl) ?_
              conv => whnf
              refine hZ0 _ _ ?_
              first
                | exact Or.inl ⟨by omega, rfl, rfl⟩
                | exact Or.inr ⟨by omega, rfl, rfl⟩
            · have h6 := (nc_gt _ _).mp h6
              try simp (disch := decide) only [ti_iv, ti_ivn, ti_n, ti_0, os_si, os_sj, va_up, upd, Nat.reduceEqDiff, reduceIte] at h6
              conv => whnf
              refine pm_gd (by decide) ?_
              refine hZ1 _ _ ?_
              conv => whnf
              refine pm_bf (cdf rfl) ?_
              conv => whnf
              refine ⟨fun h7 => ?_, fun h7 => ?_⟩
              · have h7 := (cc_ne _ _).mp h7
                try simp (disch := decide) only [ti_iv, ti_ivn, ti_n, ti_0, os_si, os_sj, va_up, upd, Nat.reduceEqDiff, reduceIte] at h7
                conv => whnf
                refine pm_gd (gI (by (try simp (disch := decide) only [ti_iv, ti_ivn, ti_n, ti_0, os_si, os_sj, va_up, upd, Nat.reduceEqDiff, reduceIte]); omega) (by (try simp (disch := decide) only [ti_iv, ti_ivn, ti_n, ti_0, os_si, os_sj, va_up, upd, Nat.reduceEqDiff, reduceIte]); omega)) ?_
                conv => whnf
                refine pm_gd (gI (by (try simp (disch := decide) only [ti_iv, ti_ivn, ti_n, ti_0, os_si, os_sj, va_up, upd, Nat.reduceEqDiff, reduceIte]); omega) (by (try simp (disch := decide) only [ti_iv, ti_ivn, ti_n, ti_0, os_si, os_sj, va_up, upd, Nat.reduceEqDiff, reduceIte]); omega)) ?_
                conv => whnf
                refine pm_gd (gI (by (try simp (disch := decide) only [ti_iv, ti_ivn, ti_n, ti_0, os_si, os_sj, va_up, upd, Nat.reduceEqDiff, reduceIte]); omega) (by (try simp (disch := decide) only [ti_iv, ti_ivn, ti_n, ti_0, os_si, os_sj, va_up, upd, Nat.reduceEqDiff, reduceIte]); omega)) ?_
                conv => whnf
                refine pm_gd (gI (by (try simp (disch := decide) only [ti_iv, ti_ivn, ti_n, ti_0, os_si, os_sj, va_up, upd, Nat.reduceEqDiff, reduceIte]); omega) (by (try simp (disch := decide) only [ti_iv, ti_ivn, ti_n, ti_0, os_si, os_sj, va_up, upd, Nat.reduceEqDiff, reduceIte]); omega)) ?_
                conv => whnf
                refine hZ0 _ _ ?_
                first
                  | exact Or.inl ⟨by omega, rfl, rfl⟩
                  | exact Or.inr ⟨by omega, rfl, rfl⟩
              · have h7 := (nc_ne _ _).mp h7
                try simp (disch := decide) only [ti_iv, ti_ivn, ti_n, ti_0, os_si, os_sj, va_up, upd, Nat.reduceEqDiff, reduceIte] at h7
                conv => whnf
                refine hZ0 _ _ ?_
                first
                  | exact Or.inl ⟨by omega, rfl, rfl⟩
                  | exact Or.inr ⟨by omega, rfl, rfl⟩
set_option maxRecDepth 20000 in
theorem x_debt (σ : pm_S) (a1 a2 a3 a4 : Int32) (g : 0 ≤ (σ.1 13 0).toInt ∧ (σ.1 13 0).toInt ≤ 30) : Sp 132 3 [.ref 0, .int a1, .int a2, .int a3, .int a4] σ (fun r τ => ((0 ≤ a1.toInt ∧ a1.toInt < (σ.1 7 0).toInt ∧ 0 ≤ a2.toInt ∧ a2.toInt < (σ.1 7 0).toInt ∧ ¬ a1.toInt = a2.toInt ∧ 1 ≤ a3.toInt ∧ a3.toInt ≤ 9999 ∧ 0 ≤ a4.toInt ∧ a4.toInt < (σ.1 3 0).toInt ∧ (σ.1 13 0).toInt < 30) ∧ r = some (.int (σ.1 13 0 + 1 - 1)) ∧ τ = ((va_up (va_up (va_up (va_up (va_up (va_up (va_up (va_up σ.1 14 (upd (σ.1 14) (σ.1 13 0).toNatClampNeg (a1))) 15 (upd (σ.1 15) (σ.1 13 0).toNatClampNeg (a2))) 16 (upd (σ.1 16) (σ.1 13 0).toNatClampNeg (a3))) 17 (upd (σ.1 17) (σ.1 13 0).toNatClampNeg (a4))) 18 (upd (σ.1 18) (σ.1 13 0).toNatClampNeg (σ.1 1 1))) 19 (upd (σ.1 19) (σ.1 13 0).toNatClampNeg (-1))) 20 (upd (σ.1 20) (σ.1 13 0).toNatClampNeg (0))) 13 (upd (σ.1 13) 0 (σ.1 13 0 + 1))), σ.2)) ∨ (¬ (0 ≤ a1.toInt ∧ a1.toInt < (σ.1 7 0).toInt ∧ 0 ≤ a2.toInt ∧ a2.toInt < (σ.1 7 0).toInt ∧ ¬ a1.toInt = a2.toInt ∧ 1 ≤ a3.toInt ∧ a3.toInt ≤ 9999 ∧ 0 ≤ a4.toInt ∧ a4.toInt < (σ.1 3 0).toInt ∧ (σ.1 13 0).toInt < 30) ∧ r = some (.int (-1)) ∧ τ = σ)) := by
  refine S_PaidWhereMade_debt [] 400 rfl (fun R0 cl0 Z0 hR0 hcl0 hZ0 => ?_)
  conv => whnf
  refine hcl0 _ _ _ _ ?_
  refine S_People_has [] 400 rfl (fun R1 cl1 Z1 hR1 hcl1 hZ1 => ?_)
  conv => whnf
  refine ⟨fun h1 => ?_, fun h1 => ?_⟩
  · have h1 := (cc_lt _ _).mp h1
    try simp (disch := decide) only [ti_iv, ti_ivn, ti_n, ti_0, os_si, os_sj, va_up, upd, Nat.reduceEqDiff, reduceIte] at h1
    conv => whnf
    refine pm_gd (by decide) ?_
    refine hZ1 _ _ ?_
    conv => whnf
    refine pm_bt (cdt rfl) ?_
    conv => whnf
    refine pm_bt (cdt rfl) ?_
    conv => whnf
    refine hZ0 _ _ ?_
    first
      | exact Or.inl ⟨by omega, rfl, rfl⟩
      | exact Or.inr ⟨by omega, rfl, rfl⟩
  · have h1 := (nc_lt _ _).mp h1
    try simp (disch := decide) only [ti_iv, ti_ivn, ti_n, ti_0, os_si, os_sj, va_up, upd, Nat.reduceEqDiff, reduceIte] at h1
    conv => whnf
    refine ⟨fun h2 => ?_, fun h2 => ?_⟩
    · have h2 := (cc_ge _ _).mp h2
      try simp (disch := decide) only [ti_iv, ti_ivn, ti_n, ti_0, os_si, os_sj, va_up, upd, Nat.reduceEqDiff, reduceIte] at h2
      conv => whnf
      refine pm_gd (by decide) ?_
      refine hZ1 _ _ ?_
      conv => whnf
      refine pm_bt (cdt rfl) ?_
      conv => whnf
      refine pm_bt (cdt rfl) ?_
      conv => whnf
      refine hZ0 _ _ ?_
      first
        | exact Or.inl ⟨by omega, rfl, rfl⟩
        | exact Or.inr ⟨by omega, rfl, rfl⟩
    · have h2 := (nc_ge _ _).mp h2
      try simp (disch := decide) only [ti_iv, ti_ivn, ti_n, ti_0, os_si, os_sj, va_up, upd, Nat.reduceEqDiff, reduceIte] at h2
      conv => whnf
      refine pm_gd (by decide) ?_
      refine hZ1 _ _ ?_
      conv => whnf
      refine pm_bf (cdf rfl) ?_
      conv => whnf
      refine hcl0 _ _ _ _ ?_
      refine S_People_has [] 400 rfl (fun R1 cl1 Z1 hR1 hcl1 hZ1 => ?_)
      conv => whnf
      refine ⟨fun h3 => ?_, fun h3 => ?_⟩
      · have h3 := (cc_lt _ _).mp h3
        try simp (disch := decide) only [ti_iv, ti_ivn, ti_n, ti_0, os_si, os_sj, va_up, upd, Nat.reduceEqDiff, reduceIte] at h3
        conv => whnf
        refine pm_gd (by decide) ?_
        refine hZ1 _ _ ?_
        conv => whnf
        refine pm_bt (cdt rfl) ?_
        conv => whnf
        refine pm_bt (cdt rfl) ?_
        conv => whnf
        refine hZ0 _ _ ?_
        first
          | exact Or.inl ⟨by omega, rfl, rfl⟩
          | exact Or.inr ⟨by omega, rfl, rfl⟩
      · have h3 := (nc_lt _ _).mp h3
        try simp (disch := decide) only [ti_iv, ti_ivn, ti_n, ti_0, os_si, os_sj, va_up, upd, Nat.reduceEqDiff, reduceIte] at h3
        conv => whnf
        refine ⟨fun h4 => ?_, fun h4 => ?_⟩
        · have h4 := (cc_ge _ _).mp h4
          try simp (disch := decide) only [ti_iv, ti_ivn, ti_n, ti_0, os_si, os_sj, va_up, upd, Nat.reduceEqDiff, reduceIte] at h4
          conv => whnf
          refine pm_gd (by decide) ?_
          refine hZ1 _ _ ?_
          conv => whnf
          refine pm_bt (cdt rfl) ?_
          conv => whnf
          refine pm_bt (cdt rfl) ?_
          conv => whnf
          refine hZ0 _ _ ?_
          first
            | exact Or.inl ⟨by omega, rfl, rfl⟩
            | exact Or.inr ⟨by omega, rfl, rfl⟩
        · have h4 := (nc_ge _ _).mp h4
          try simp (disch := decide) only [ti_iv, ti_ivn, ti_n, ti_0, os_si, os_sj, va_up, upd, Nat.reduceEqDiff, reduceIte] at h4
          conv => whnf
          refine pm_gd (by decide) ?_
          refine hZ1 _ _ ?_
          conv => whnf
          refine pm_bf (cdf rfl) ?_
          conv => whnf
          refine hcl0 _ _ _ _ ?_
          refine S_Spots_has [] 400 rfl (fun R1 cl1 Z1 hR1 hcl1 hZ1 => ?_)
          conv => whnf
          refine ⟨fun h5 => ?_, fun h5 => ?_⟩
          · have h5 := (cc_lt _ _).mp h5
            try simp (disch := decide) only [ti_iv, ti_ivn, ti_n, ti_0, os_si, os_sj, va_up, upd, Nat.reduceEqDiff, reduceIte] at h5
            conv => whnf
            refine pm_gd (by decide) ?_
            refine hZ1 _ _ ?_
            conv => whnf
            refine pm_bt (cdt rfl) ?_
            conv => whnf
            refine pm_bt (cdt rfl) ?_
            conv => whnf
            refine hZ0 _ _ ?_
            first
              | exact Or.inl ⟨by omega, rfl, rfl⟩
              | exact Or.inr ⟨by omega, rfl, rfl⟩
          · have h5 := (nc_lt _ _).mp h5
            try simp (disch := decide) only [ti_iv, ti_ivn, ti_n, ti_0, os_si, os_sj, va_up, upd, Nat.reduceEqDiff, reduceIte] at h5
            conv => whnf
            refine ⟨fun h6 => ?_, fun h6 => ?_⟩
            · have h6 := (cc_ge _ _).mp h6
              try simp (disch := decide) only [ti_iv, ti_ivn, ti_n, ti_0, os_si, os_sj, va_up, upd, Nat.reduceEqDiff, reduceIte] at h6
              conv => whnf
              refine pm_gd (by decide) ?_
              refine hZ1 _ _ ?_
              conv => whnf
              refine pm_bt (cdt rfl) ?_
              conv => whnf
              refine pm_bt (cdt rfl) ?_
              conv => whnf
              refine hZ0 _ _ ?_
              first
                | exact Or.inl ⟨by omega, rfl, rfl⟩
                | exact Or.inr ⟨by omega, rfl, rfl⟩
            · have h6 := (nc_ge _ _).mp h6
              try simp (disch := decide) only [ti_iv, ti_ivn, ti_n, ti_0, os_si, os_sj, va_up, upd, Nat.reduceEqDiff, reduceIte] at h6
              conv => whnf
              refine pm_gd (by decide) ?_
              refine hZ1 _ _ ?_
              conv => whnf
              refine pm_bf (cdf rfl) ?_
              conv => whnf
              refine pm_bf (cdf rfl) ?_
              conv => whnf
              refine hcl0 _ _ _ _ ?_
              refine S_Debts_add [] 400 rfl (fun R1 cl1 Z1 hR1 hcl1 hZ1 => ?_)
              conv => whnf
              refine ⟨fun h7 => ?_, fun h7 => ?_⟩
              · have h7 := (cc_eq _ _).mp h7
                try simp (disch := decide) only [ti_iv, ti_ivn, ti_n, ti_0, os_si, os_sj, va_up, upd, Nat.reduceEqDiff, reduceIte] at h7
                conv => whnf
                refine hZ1 _ _ ?_
                conv => whnf
                refine hZ0 _ _ ?_
                first
                  | exact Or.inl ⟨by omega, rfl, rfl⟩
                  | exact Or.inr ⟨by omega, rfl, rfl⟩
              · have h7 := (nc_eq _ _).mp h7
                try simp (disch := decide) only [ti_iv, ti_ivn, ti_n, ti_0, os_si, os_sj, va_up, upd, Nat.reduceEqDiff, reduceIte] at h7
                conv => whnf
                refine ⟨fun h8 => ?_, fun h8 => ?_⟩
                · have h8 := (cc_lt _ _).mp h8
                  try simp (disch := decide) only [ti_iv, ti_ivn, ti_n, ti_0, os_si, os_sj, va_up, upd, Nat.reduceEqDiff, reduceIte] at h8
                  conv => whnf
                  refine hZ1 _ _ ?_
                  conv => whnf
                  refine hZ0 _ _ ?_
                  first
                    | exact Or.inl ⟨by omega, rfl, rfl⟩
                    | exact Or.inr ⟨by omega, rfl, rfl⟩
                · have h8 := (nc_lt _ _).mp h8
                  try simp (disch := decide) only [ti_iv, ti_ivn, ti_n, ti_0, os_si, os_sj, va_up, upd, Nat.reduceEqDiff, reduceIte] at h8
                  conv => whnf
                  refine ⟨fun h9 => ?_, fun h9 => ?_⟩
                  · have h9 := (cc_gt _ _).mp h9
                    try simp (disch := decide) only [ti_iv, ti_ivn, ti_n, ti_0, os_si, os_sj, va_up, upd, Nat.reduceEqDiff, reduceIte] at h9
                    conv => whnf
                    refine hZ1 _ _ ?_
                    conv => whnf
                    refine hZ0 _ _ ?_
                    first
                      | exact Or.inl ⟨by omega, rfl, rfl⟩
                      | exact Or.inr ⟨by omega, rfl, rfl⟩
                  · have h9 := (nc_gt _ _).mp h9
                    try simp (disch := decide) only [ti_iv, ti_ivn, ti_n, ti_0, os_si, os_sj, va_up, upd, Nat.reduceEqDiff, reduceIte] at h9
                    conv => whnf
                    refine ⟨fun h10 => ?_, fun h10 => ?_⟩
                    · have h10 := (cc_lt _ _).mp h10
                      try simp (disch := decide) only [ti_iv, ti_ivn, ti_n, ti_0, os_si, os_sj, va_up, upd, Nat.reduceEqDiff, reduceIte] at h10
                      conv => whnf
                      refine pm_gd (gI (by (try simp (disch := decide) only [ti_iv, ti_ivn, ti_n, ti_0, os_si, os_sj, va_up, upd, Nat.reduceEqDiff, reduceIte]); omega) (by (try simp (disch := decide) only [ti_iv, ti_ivn, ti_n, ti_0, os_si, os_sj, va_up, upd, Nat.reduceEqDiff, reduceIte]); omega)) ?_
                      conv => whnf
                      refine pm_gd (gI (by (try simp (disch := decide) only [ti_iv, ti_ivn, ti_n, ti_0, os_si, os_sj, va_up, upd, Nat.reduceEqDiff, reduceIte]); omega) (by (try simp (disch := decide) only [ti_iv, ti_ivn, ti_n, ti_0, os_si, os_sj, va_up, upd, Nat.reduceEqDiff, reduceIte]); omega)) ?_
                      conv => whnf
                      refine pm_gd (gI (by (try simp (disch := decide) only [ti_iv, ti_ivn, ti_n, ti_0, os_si, os_sj, va_up, upd, Nat.reduceEqDiff, reduceIte]); omega) (by (try simp (disch := decide) only [ti_iv, ti_ivn, ti_n, ti_0, os_si, os_sj, va_up, upd, Nat.reduceEqDiff, reduceIte]); omega)) ?_
                      conv => whnf
                      refine pm_gd (gI (by (try simp (disch := decide) only [ti_iv, ti_ivn, ti_n, ti_0, os_si, os_sj, va_up, upd, Nat.reduceEqDiff, reduceIte]); omega) (by (try simp (disch := decide) only [ti_iv, ti_ivn, ti_n, ti_0, os_si, os_sj, va_up, upd, Nat.reduceEqDiff, reduceIte]); omega)) ?_
                      conv => whnf
                      refine pm_gd (gI (by (try simp (disch := decide) only [ti_iv, ti_ivn, ti_n, ti_0, os_si, os_sj, va_up, upd, Nat.reduceEqDiff, reduceIte]); omega) (by (try simp (disch := decide) only [ti_iv, ti_ivn, ti_n, ti_0, os_si, os_sj, va_up, upd, Nat.reduceEqDiff, reduceIte]); omega)) ?_
                      conv => whnf
                      refine pm_gd (gI (by (try simp (disch := decide) only [ti_iv, ti_ivn, ti_n, ti_0, os_si, os_sj, va_up, upd, Nat.reduceEqDiff, reduceIte]); omega) (by (try simp (disch := decide) only [ti_iv, ti_ivn, ti_n, ti_0, os_si, os_sj, va_up, upd, Nat.reduceEqDiff, reduceIte]); omega)) ?_
                      conv => whnf
                      refine pm_gd (gI (by (try simp (disch := decide) only [ti_iv, ti_ivn, ti_n, ti_0, os_si, os_sj, va_up, upd, Nat.reduceEqDiff, reduceIte]); omega) (by (try simp (disch := decide) only [ti_iv, ti_ivn, ti_n, ti_0, os_si, os_sj, va_up, upd, Nat.reduceEqDiff, reduceIte]); omega)) ?_
                      conv => whnf
                      refine hZ1 _ _ ?_
                      conv => whnf
                      refine hZ0 _ _ ?_
                      first
                        | exact Or.inl ⟨by omega, rfl, rfl⟩
                        | exact Or.inr ⟨by omega, rfl, rfl⟩
                    · have h10 := (nc_lt _ _).mp h10
                      try simp (disch := decide) only [ti_iv, ti_ivn, ti_n, ti_0, os_si, os_sj, va_up, upd, Nat.reduceEqDiff, reduceIte] at h10
                      conv => whnf
                      refine hZ1 _ _ ?_
                      conv => whnf
                      refine hZ0 _ _ ?_
                      first
                        | exact Or.inl ⟨by omega, rfl, rfl⟩
                        | exact Or.inr ⟨by omega, rfl, rfl⟩
set_option maxRecDepth 20000 in
theorem m_debt (σ : pm_S) (a1 a2 a3 a4 : Int32) (g : 0 ≤ (σ.1 93 11).toInt ∧ (σ.1 93 11).toInt ≤ 30) : Sp 169 3 [.ref 93, .int a1, .int a2, .int a3, .int a4] σ (fun r τ => ((0 ≤ a1.toInt ∧ a1.toInt < (σ.1 93 5).toInt ∧ 0 ≤ a2.toInt ∧ a2.toInt < (σ.1 93 5).toInt ∧ ¬ a1.toInt = a2.toInt ∧ 1 ≤ a3.toInt ∧ a3.toInt ≤ 9999 ∧ 0 ≤ a4.toInt ∧ a4.toInt < (σ.1 93 2).toInt ∧ (σ.1 93 11).toInt < 30) ∧ r = some (.int (σ.1 93 11 + 1 - 1)) ∧ τ = ((va_up (va_up (va_up (va_up (va_up (va_up (va_up (va_up (va_up σ.1 93 (upd (σ.1 93) 0 0)) 101 (upd (σ.1 101) (σ.1 93 11).toNatClampNeg (a1))) 102 (upd (σ.1 102) (σ.1 93 11).toNatClampNeg (a2))) 103 (upd (σ.1 103) (σ.1 93 11).toNatClampNeg (a3))) 104 (upd (σ.1 104) (σ.1 93 11).toNatClampNeg (a4))) 105 (upd (σ.1 105) (σ.1 93 11).toNatClampNeg (σ.1 93 19))) 106 (upd (σ.1 106) (σ.1 93 11).toNatClampNeg (-1))) 107 (upd (σ.1 107) (σ.1 93 11).toNatClampNeg (0))) 93 (upd (upd (σ.1 93) 0 0) 11 (σ.1 93 11 + 1))), σ.2)) ∨ (¬ (0 ≤ a1.toInt ∧ a1.toInt < (σ.1 93 5).toInt ∧ 0 ≤ a2.toInt ∧ a2.toInt < (σ.1 93 5).toInt ∧ ¬ a1.toInt = a2.toInt ∧ 1 ≤ a3.toInt ∧ a3.toInt ≤ 9999 ∧ 0 ≤ a4.toInt ∧ a4.toInt < (σ.1 93 2).toInt ∧ (σ.1 93 11).toInt < 30) ∧ r = some (.int (-1)) ∧ τ = (va_up σ.1 93 (upd (σ.1 93) 0 0), σ.2))) := by
  refine S_Model_debt [] 400 rfl (fun R0 cl0 Z0 hR0 hcl0 hZ0 => ?_)
  conv => whnf
  refine hcl0 _ _ _ _ ?_
  refine S_Model_isOne [] 400 rfl (fun R1 cl1 Z1 hR1 hcl1 hZ1 => ?_)
  conv => whnf
  refine ⟨fun h1 => ?_, fun h1 => ?_⟩
  · have h1 := (cc_lt _ _).mp h1
    try simp (disch := decide) only [ti_iv, ti_ivn, ti_n, ti_0, os_si, os_sj, va_up, upd, Nat.reduceEqDiff, reduceIte] at h1
    conv => whnf
    refine pm_gd (by decide) ?_
    refine hZ1 _ _ ?_
    conv => whnf
    refine pm_bt (cdt rfl) ?_
    conv => whnf
    refine hZ0 _ _ ?_
    first
      | exact Or.inl ⟨by omega, rfl, rfl⟩
      | exact Or.inr ⟨by omega, rfl, rfl⟩
  · have h1 := (nc_lt _ _).mp h1
    try simp (disch := decide) only [ti_iv, ti_ivn, ti_n, ti_0, os_si, os_sj, va_up, upd, Nat.reduceEqDiff, reduceIte] at h1
    conv => whnf
    refine ⟨fun h2 => ?_, fun h2 => ?_⟩
    · have h2 := (cc_ge _ _).mp h2
      try simp (disch := decide) only [ti_iv, ti_ivn, ti_n, ti_0, os_si, os_sj, va_up, upd, Nat.reduceEqDiff, reduceIte] at h2
      conv => whnf
      refine pm_gd (by decide) ?_
      refine hZ1 _ _ ?_
      conv => whnf
      refine pm_bt (cdt rfl) ?_
      conv => whnf
      refine hZ0 _ _ ?_
      first
        | exact Or.inl ⟨by omega, rfl, rfl⟩
        | exact Or.inr ⟨by omega, rfl, rfl⟩
    · have h2 := (nc_ge _ _).mp h2
      try simp (disch := decide) only [ti_iv, ti_ivn, ti_n, ti_0, os_si, os_sj, va_up, upd, Nat.reduceEqDiff, reduceIte] at h2
      conv => whnf
      refine pm_gd (by decide) ?_
      refine hZ1 _ _ ?_
      conv => whnf
      refine pm_bf (cdf rfl) ?_
      conv => whnf
      refine hcl0 _ _ _ _ ?_
      refine S_Model_isOne [] 400 rfl (fun R1 cl1 Z1 hR1 hcl1 hZ1 => ?_)
      conv => whnf
      refine ⟨fun h3 => ?_, fun h3 => ?_⟩
      · have h3 := (cc_lt _ _).mp h3
        try simp (disch := decide) only [ti_iv, ti_ivn, ti_n, ti_0, os_si, os_sj, va_up, upd, Nat.reduceEqDiff, reduceIte] at h3
        conv => whnf
        refine pm_gd (by decide) ?_
        refine hZ1 _ _ ?_
        conv => whnf
        refine pm_bt (cdt rfl) ?_
        conv => whnf
        refine hZ0 _ _ ?_
        first
          | exact Or.inl ⟨by omega, rfl, rfl⟩
          | exact Or.inr ⟨by omega, rfl, rfl⟩
      · have h3 := (nc_lt _ _).mp h3
        try simp (disch := decide) only [ti_iv, ti_ivn, ti_n, ti_0, os_si, os_sj, va_up, upd, Nat.reduceEqDiff, reduceIte] at h3
        conv => whnf
        refine ⟨fun h4 => ?_, fun h4 => ?_⟩
        · have h4 := (cc_ge _ _).mp h4
          try simp (disch := decide) only [ti_iv, ti_ivn, ti_n, ti_0, os_si, os_sj, va_up, upd, Nat.reduceEqDiff, reduceIte] at h4
          conv => whnf
          refine pm_gd (by decide) ?_
          refine hZ1 _ _ ?_
          conv => whnf
          refine pm_bt (cdt rfl) ?_
          conv => whnf
          refine hZ0 _ _ ?_
          first
            | exact Or.inl ⟨by omega, rfl, rfl⟩
            | exact Or.inr ⟨by omega, rfl, rfl⟩
        · have h4 := (nc_ge _ _).mp h4
          try simp (disch := decide) only [ti_iv, ti_ivn, ti_n, ti_0, os_si, os_sj, va_up, upd, Nat.reduceEqDiff, reduceIte] at h4
          conv => whnf
          refine pm_gd (by decide) ?_
          refine hZ1 _ _ ?_
          conv => whnf
          refine pm_bf (cdf rfl) ?_
          conv => whnf
          refine ⟨fun h5 => ?_, fun h5 => ?_⟩
          · have h5 := (cc_eq _ _).mp h5
            try simp (disch := decide) only [ti_iv, ti_ivn, ti_n, ti_0, os_si, os_sj, va_up, upd, Nat.reduceEqDiff, reduceIte] at h5
            conv => whnf
            refine hZ0 _ _ ?_
            first
              | exact Or.inl ⟨by omega, rfl, rfl⟩
              | exact Or.inr ⟨by omega, rfl, rfl⟩
          · have h5 := (nc_eq _ _).mp h5
            try simp (disch := decide) only [ti_iv, ti_ivn, ti_n, ti_0, os_si, os_sj, va_up, upd, Nat.reduceEqDiff, reduceIte] at h5
            conv => whnf
            refine hcl0 _ _ _ _ ?_
            refine S_Model_isIn [] 400 rfl (fun R1 cl1 Z1 hR1 hcl1 hZ1 => ?_)
            conv => whnf
            refine ⟨fun h6 => ?_, fun h6 => ?_⟩
            · have h6 := (cc_lt _ _).mp h6
              try simp (disch := decide) only [ti_iv, ti_ivn, ti_n, ti_0, os_si, os_sj, va_up, upd, Nat.reduceEqDiff, reduceIte] at h6
              conv => whnf
              refine pm_gd (by decide) ?_
              refine hZ1 _ _ ?_
              conv => whnf
              refine pm_bt (cdt rfl) ?_
              conv => whnf
              refine hZ0 _ _ ?_
              first
                | exact Or.inl ⟨by omega, rfl, rfl⟩
                | exact Or.inr ⟨by omega, rfl, rfl⟩
            · have h6 := (nc_lt _ _).mp h6
              try simp (disch := decide) only [ti_iv, ti_ivn, ti_n, ti_0, os_si, os_sj, va_up, upd, Nat.reduceEqDiff, reduceIte] at h6
              conv => whnf
              refine ⟨fun h7 => ?_, fun h7 => ?_⟩
              · have h7 := (cc_gt _ _).mp h7
                try simp (disch := decide) only [ti_iv, ti_ivn, ti_n, ti_0, os_si, os_sj, va_up, upd, Nat.reduceEqDiff, reduceIte] at h7
                conv => whnf
                refine pm_gd (by decide) ?_
                refine hZ1 _ _ ?_
                conv => whnf
                refine pm_bt (cdt rfl) ?_
                conv => whnf
                refine hZ0 _ _ ?_
                first
                  | exact Or.inl ⟨by omega, rfl, rfl⟩
                  | exact Or.inr ⟨by omega, rfl, rfl⟩
              · have h7 := (nc_gt _ _).mp h7
                try simp (disch := decide) only [ti_iv, ti_ivn, ti_n, ti_0, os_si, os_sj, va_up, upd, Nat.reduceEqDiff, reduceIte] at h7
                conv => whnf
                refine pm_gd (by decide) ?_
                refine hZ1 _ _ ?_
                conv => whnf
                refine pm_bf (cdf rfl) ?_
                conv => whnf
                refine hcl0 _ _ _ _ ?_
                refine S_Model_isSpot [] 400 rfl (fun R1 cl1 Z1 hR1 hcl1 hZ1 => ?_)
                conv => whnf
                refine ⟨fun h8 => ?_, fun h8 => ?_⟩
                · have h8 := (cc_lt _ _).mp h8
                  try simp (disch := decide) only [ti_iv, ti_ivn, ti_n, ti_0, os_si, os_sj, va_up, upd, Nat.reduceEqDiff, reduceIte] at h8
                  conv => whnf
                  refine pm_gd (by decide) ?_
                  refine hZ1 _ _ ?_
                  conv => whnf
                  refine pm_bt (cdt rfl) ?_
                  conv => whnf
                  refine hZ0 _ _ ?_
                  first
                    | exact Or.inl ⟨by omega, rfl, rfl⟩
                    | exact Or.inr ⟨by omega, rfl, rfl⟩
                · have h8 := (nc_lt _ _).mp h8
                  try simp (disch := decide) only [ti_iv, ti_ivn, ti_n, ti_0, os_si, os_sj, va_up, upd, Nat.reduceEqDiff, reduceIte] at h8
                  conv => whnf
                  refine ⟨fun h9 => ?_, fun h9 => ?_⟩
                  · have h9 := (cc_ge _ _).mp h9
                    try simp (disch := decide) only [ti_iv, ti_ivn, ti_n, ti_0, os_si, os_sj, va_up, upd, Nat.reduceEqDiff, reduceIte] at h9
                    conv => whnf
                    refine pm_gd (by decide) ?_
                    refine hZ1 _ _ ?_
                    conv => whnf
                    refine pm_bt (cdt rfl) ?_
                    conv => whnf
                    refine hZ0 _ _ ?_
                    first
                      | exact Or.inl ⟨by omega, rfl, rfl⟩
                      | exact Or.inr ⟨by omega, rfl, rfl⟩
                  · have h9 := (nc_ge _ _).mp h9
                    try simp (disch := decide) only [ti_iv, ti_ivn, ti_n, ti_0, os_si, os_sj, va_up, upd, Nat.reduceEqDiff, reduceIte] at h9
                    conv => whnf
                    refine pm_gd (by decide) ?_
                    refine hZ1 _ _ ?_
                    conv => whnf
                    refine pm_bf (cdf rfl) ?_
                    conv => whnf
                    refine ⟨fun h10 => ?_, fun h10 => ?_⟩
                    · have h10 := (cc_ne _ _).mp h10
                      try simp (disch := decide) only [ti_iv, ti_ivn, ti_n, ti_0, os_si, os_sj, va_up, upd, Nat.reduceEqDiff, reduceIte] at h10
                      conv => whnf
                      refine pm_gd (gI (by (try simp (disch := decide) only [ti_iv, ti_ivn, ti_n, ti_0, os_si, os_sj, va_up, upd, Nat.reduceEqDiff, reduceIte]); omega) (by (try simp (disch := decide) only [ti_iv, ti_ivn, ti_n, ti_0, os_si, os_sj, va_up, upd, Nat.reduceEqDiff, reduceIte]); omega)) ?_
                      conv => whnf
                      refine pm_gd (gI (by (try simp (disch := decide) only [ti_iv, ti_ivn, ti_n, ti_0, os_si, os_sj, va_up, upd, Nat.reduceEqDiff, reduceIte]); omega) (by (try simp (disch := decide) only [ti_iv, ti_ivn, ti_n, ti_0, os_si, os_sj, va_up, upd, Nat.reduceEqDiff, reduceIte]); omega)) ?_
                      conv => whnf
                      refine pm_gd (gI (by (try simp (disch := decide) only [ti_iv, ti_ivn, ti_n, ti_0, os_si, os_sj, va_up, upd, Nat.reduceEqDiff, reduceIte]); omega) (by (try simp (disch := decide) only [ti_iv, ti_ivn, ti_n, ti_0, os_si, os_sj, va_up, upd, Nat.reduceEqDiff, reduceIte]); omega)) ?_
                      conv => whnf
                      refine pm_gd (gI (by (try simp (disch := decide) only [ti_iv, ti_ivn, ti_n, ti_0, os_si, os_sj, va_up, upd, Nat.reduceEqDiff, reduceIte]); omega) (by (try simp (disch := decide) only [ti_iv, ti_ivn, ti_n, ti_0, os_si, os_sj, va_up, upd, Nat.reduceEqDiff, reduceIte]); omega)) ?_
                      conv => whnf
                      refine pm_gd (gI (by (try simp (disch := decide) only [ti_iv, ti_ivn, ti_n, ti_0, os_si, os_sj, va_up, upd, Nat.reduceEqDiff, reduceIte]); omega) (by (try simp (disch := decide) only [ti_iv, ti_ivn, ti_n, ti_0, os_si, os_sj, va_up, upd, Nat.reduceEqDiff, reduceIte]); omega)) ?_
                      conv => whnf
                      refine pm_gd (gI (by (try simp (disch := decide) only [ti_iv, ti_ivn, ti_n, ti_0, os_si, os_sj, va_up, upd, Nat.reduceEqDiff, reduceIte]); omega) (by (try simp (disch := decide) only [ti_iv, ti_ivn, ti_n, ti_0, os_si, os_sj, va_up, upd, Nat.reduceEqDiff, reduceIte]); omega)) ?_
                      conv => whnf
                      refine pm_gd (gI (by (try simp (disch := decide) only [ti_iv, ti_ivn, ti_n, ti_0, os_si, os_sj, va_up, upd, Nat.reduceEqDiff, reduceIte]); omega) (by (try simp (disch := decide) only [ti_iv, ti_ivn, ti_n, ti_0, os_si, os_sj, va_up, upd, Nat.reduceEqDiff, reduceIte]); omega)) ?_
                      conv => whnf
                      refine hZ0 _ _ ?_
                      first
                        | exact Or.inl ⟨by omega, rfl, rfl⟩
                        | exact Or.inr ⟨by omega, rfl, rfl⟩
                    · have h10 := (nc_ne _ _).mp h10
                      try simp (disch := decide) only [ti_iv, ti_ivn, ti_n, ti_0, os_si, os_sj, va_up, upd, Nat.reduceEqDiff, reduceIte] at h10
                      conv => whnf
                      refine hZ0 _ _ ?_
                      first
                        | exact Or.inl ⟨by omega, rfl, rfl⟩
                        | exact Or.inr ⟨by omega, rfl, rfl⟩
set_option maxRecDepth 20000 in
theorem x_goal (σ : pm_S) (a1 a2 : Int32) (g : 0 ≤ (σ.1 7 0).toInt ∧ (σ.1 7 0).toInt ≤ 10) : Sp 134 3 [.ref 0, .int a1, .int a2] σ (fun r τ => ((0 ≤ a1.toInt ∧ a1.toInt < (σ.1 7 0).toInt ∧ 0 ≤ a2.toInt ∧ a2.toInt < (σ.1 3 0).toInt) ∧ r = some (.int 1) ∧ τ = ((va_up σ.1 11 (upd (σ.1 11) (a1).toNatClampNeg (a2))), σ.2)) ∨ (¬ (0 ≤ a1.toInt ∧ a1.toInt < (σ.1 7 0).toInt ∧ 0 ≤ a2.toInt ∧ a2.toInt < (σ.1 3 0).toInt) ∧ r = some (.int 0) ∧ τ = σ)) := by
  refine S_PaidWhereMade_goal [] 400 rfl (fun R0 cl0 Z0 hR0 hcl0 hZ0 => ?_)
  conv => whnf
  refine hcl0 _ _ _ _ ?_
  refine S_People_has [] 400 rfl (fun R1 cl1 Z1 hR1 hcl1 hZ1 => ?_)
  conv => whnf
  refine ⟨fun h1 => ?_, fun h1 => ?_⟩
  · have h1 := (cc_lt _ _).mp h1
    try simp (disch := decide) only [ti_iv, ti_ivn, ti_n, ti_0, os_si, os_sj, va_up, upd, Nat.reduceEqDiff, reduceIte] at h1
    conv => whnf
    refine pm_gd (by decide) ?_
    refine hZ1 _ _ ?_
    conv => whnf
    refine pm_bt (cdt rfl) ?_
    conv => whnf
    refine pm_gd (by decide) ?_
    refine hZ0 _ _ ?_
    first
      | exact Or.inl ⟨by omega, rfl, rfl⟩
      | exact Or.inr ⟨by omega, rfl, rfl⟩
  · have h1 := (nc_lt _ _).mp h1
    try simp (disch := decide) only [ti_iv, ti_ivn, ti_n, ti_0, os_si, os_sj, va_up, upd, Nat.reduceEqDiff, reduceIte] at h1
    conv => whnf
    refine ⟨fun h2 => ?_, fun h2 => ?_⟩
    · have h2 := (cc_ge _ _).mp h2
      try simp (disch := decide) only [ti_iv, ti_ivn, ti_n, ti_0, os_si, os_sj, va_up, upd, Nat.reduceEqDiff, reduceIte] at h2
      conv => whnf
      refine pm_gd (by decide) ?_
      refine hZ1 _ _ ?_
      conv => whnf
      refine pm_bt (cdt rfl) ?_
      conv => whnf
      refine pm_gd (by decide) ?_
      refine hZ0 _ _ ?_
      first
        | exact Or.inl ⟨by omega, rfl, rfl⟩
        | exact Or.inr ⟨by omega, rfl, rfl⟩
    · have h2 := (nc_ge _ _).mp h2
      try simp (disch := decide) only [ti_iv, ti_ivn, ti_n, ti_0, os_si, os_sj, va_up, upd, Nat.reduceEqDiff, reduceIte] at h2
      conv => whnf
      refine pm_gd (by decide) ?_
      refine hZ1 _ _ ?_
      conv => whnf
      refine pm_bf (cdf rfl) ?_
      conv => whnf
      refine hcl0 _ _ _ _ ?_
      refine S_Spots_has [] 400 rfl (fun R1 cl1 Z1 hR1 hcl1 hZ1 => ?_)
      conv => whnf
      refine ⟨fun h3 => ?_, fun h3 => ?_⟩
      · have h3 := (cc_lt _ _).mp h3
        try simp (disch := decide) only [ti_iv, ti_ivn, ti_n, ti_0, os_si, os_sj, va_up, upd, Nat.reduceEqDiff, reduceIte] at h3
        conv => whnf
        refine pm_gd (by decide) ?_
        refine hZ1 _ _ ?_
        conv => whnf
        refine pm_bf (cdf rfl) ?_
        conv => whnf
        refine pm_gd (by decide) ?_
        refine hZ0 _ _ ?_
        first
          | exact Or.inl ⟨by omega, rfl, rfl⟩
          | exact Or.inr ⟨by omega, rfl, rfl⟩
      · have h3 := (nc_lt _ _).mp h3
        try simp (disch := decide) only [ti_iv, ti_ivn, ti_n, ti_0, os_si, os_sj, va_up, upd, Nat.reduceEqDiff, reduceIte] at h3
        conv => whnf
        refine ⟨fun h4 => ?_, fun h4 => ?_⟩
        · have h4 := (cc_ge _ _).mp h4
          try simp (disch := decide) only [ti_iv, ti_ivn, ti_n, ti_0, os_si, os_sj, va_up, upd, Nat.reduceEqDiff, reduceIte] at h4
          conv => whnf
          refine pm_gd (by decide) ?_
          refine hZ1 _ _ ?_
          conv => whnf
          refine pm_bf (cdf rfl) ?_
          conv => whnf
          refine pm_gd (by decide) ?_
          refine hZ0 _ _ ?_
          first
            | exact Or.inl ⟨by omega, rfl, rfl⟩
            | exact Or.inr ⟨by omega, rfl, rfl⟩
        · have h4 := (nc_ge _ _).mp h4
          try simp (disch := decide) only [ti_iv, ti_ivn, ti_n, ti_0, os_si, os_sj, va_up, upd, Nat.reduceEqDiff, reduceIte] at h4
          conv => whnf
          refine pm_gd (by decide) ?_
          refine hZ1 _ _ ?_
          conv => whnf
          refine pm_bt (cdt rfl) ?_
          conv => whnf
          refine pm_gd (gI (by (try simp (disch := decide) only [ti_iv, ti_ivn, ti_n, ti_0, os_si, os_sj, va_up, upd, Nat.reduceEqDiff, reduceIte]); omega) (by (try simp (disch := decide) only [ti_iv, ti_ivn, ti_n, ti_0, os_si, os_sj, va_up, upd, Nat.reduceEqDiff, reduceIte]); omega)) ?_
          conv => whnf
          refine pm_gd (by decide) ?_
          refine hZ0 _ _ ?_
          first
            | exact Or.inl ⟨by omega, rfl, rfl⟩
            | exact Or.inr ⟨by omega, rfl, rfl⟩
set_option maxRecDepth 20000 in
theorem m_goal (σ : pm_S) (a1 a2 : Int32) (g : 0 ≤ (σ.1 93 5).toInt ∧ (σ.1 93 5).toInt ≤ 10) : Sp 173 3 [.ref 93, .int a1, .int a2] σ (fun r τ => ((0 ≤ a1.toInt ∧ a1.toInt < (σ.1 93 5).toInt ∧ 0 ≤ a2.toInt ∧ a2.toInt < (σ.1 93 2).toInt) ∧ r = some (.int 1) ∧ τ = ((va_up (va_up σ.1 93 (upd (σ.1 93) 0 0)) 99 (upd (σ.1 99) (a1).toNatClampNeg (a2))), σ.2)) ∨ (¬ (0 ≤ a1.toInt ∧ a1.toInt < (σ.1 93 5).toInt ∧ 0 ≤ a2.toInt ∧ a2.toInt < (σ.1 93 2).toInt) ∧ r = some (.int 0) ∧ τ = (va_up σ.1 93 (upd (σ.1 93) 0 0), σ.2))) := by
  refine S_Model_goal [] 400 rfl (fun R0 cl0 Z0 hR0 hcl0 hZ0 => ?_)
  conv => whnf
  refine hcl0 _ _ _ _ ?_
  refine S_Model_isOne [] 400 rfl (fun R1 cl1 Z1 hR1 hcl1 hZ1 => ?_)
  conv => whnf
  refine ⟨fun h1 => ?_, fun h1 => ?_⟩
  · have h1 := (cc_lt _ _).mp h1
    try simp (disch := decide) only [ti_iv, ti_ivn, ti_n, ti_0, os_si, os_sj, va_up, upd, Nat.reduceEqDiff, reduceIte] at h1
    conv => whnf
    refine pm_gd (by decide) ?_
    refine hZ1 _ _ ?_
    conv => whnf
    refine pm_bt (cdt rfl) ?_
    conv => whnf
    refine pm_gd (by decide) ?_
    refine hZ0 _ _ ?_
    first
      | exact Or.inl ⟨by omega, rfl, rfl⟩
      | exact Or.inr ⟨by omega, rfl, rfl⟩
  · have h1 := (nc_lt _ _).mp h1
    try simp (disch := decide) only [ti_iv, ti_ivn, ti_n, ti_0, os_si, os_sj, va_up, upd, Nat.reduceEqDiff, reduceIte] at h1
    conv => whnf
    refine ⟨fun h2 => ?_, fun h2 => ?_⟩
    · have h2 := (cc_ge _ _).mp h2
      try simp (disch := decide) only [ti_iv, ti_ivn, ti_n, ti_0, os_si, os_sj, va_up, upd, Nat.reduceEqDiff, reduceIte] at h2
      conv => whnf
      refine pm_gd (by decide) ?_
      refine hZ1 _ _ ?_
      conv => whnf
      refine pm_bt (cdt rfl) ?_
      conv => whnf
      refine pm_gd (by decide) ?_
      refine hZ0 _ _ ?_
      first
        | exact Or.inl ⟨by omega, rfl, rfl⟩
        | exact Or.inr ⟨by omega, rfl, rfl⟩
    · have h2 := (nc_ge _ _).mp h2
      try simp (disch := decide) only [ti_iv, ti_ivn, ti_n, ti_0, os_si, os_sj, va_up, upd, Nat.reduceEqDiff, reduceIte] at h2
      conv => whnf
      refine pm_gd (by decide) ?_
      refine hZ1 _ _ ?_
      conv => whnf
      refine pm_bf (cdf rfl) ?_
      conv => whnf
      refine hcl0 _ _ _ _ ?_
      refine S_Model_isSpot [] 400 rfl (fun R1 cl1 Z1 hR1 hcl1 hZ1 => ?_)
      conv => whnf
      refine ⟨fun h3 => ?_, fun h3 => ?_⟩
      · have h3 := (cc_lt _ _).mp h3
        try simp (disch := decide) only [ti_iv, ti_ivn, ti_n, ti_0, os_si, os_sj, va_up, upd, Nat.reduceEqDiff, reduceIte] at h3
        conv => whnf
        refine pm_gd (by decide) ?_
        refine hZ1 _ _ ?_
        conv => whnf
        refine pm_bf (cdf rfl) ?_
        conv => whnf
        refine pm_gd (by decide) ?_
        refine hZ0 _ _ ?_
        first
          | exact Or.inl ⟨by omega, rfl, rfl⟩
          | exact Or.inr ⟨by omega, rfl, rfl⟩
      · have h3 := (nc_lt _ _).mp h3
        try simp (disch := decide) only [ti_iv, ti_ivn, ti_n, ti_0, os_si, os_sj, va_up, upd, Nat.reduceEqDiff, reduceIte] at h3
        conv => whnf
        refine ⟨fun h4 => ?_, fun h4 => ?_⟩
        · have h4 := (cc_ge _ _).mp h4
          try simp (disch := decide) only [ti_iv, ti_ivn, ti_n, ti_0, os_si, os_sj, va_up, upd, Nat.reduceEqDiff, reduceIte] at h4
          conv => whnf
          refine pm_gd (by decide) ?_
          refine hZ1 _ _ ?_
          conv => whnf
          refine pm_bf (cdf rfl) ?_
          conv => whnf
          refine pm_gd (by decide) ?_
          refine hZ0 _ _ ?_
          first
            | exact Or.inl ⟨by omega, rfl, rfl⟩
            | exact Or.inr ⟨by omega, rfl, rfl⟩
        · have h4 := (nc_ge _ _).mp h4
          try simp (disch := decide) only [ti_iv, ti_ivn, ti_n, ti_0, os_si, os_sj, va_up, upd, Nat.reduceEqDiff, reduceIte] at h4
          conv => whnf
          refine pm_gd (by decide) ?_
          refine hZ1 _ _ ?_
          conv => whnf
          refine pm_bt (cdt rfl) ?_
          conv => whnf
          refine pm_gd (gI (by (try simp (disch := decide) only [ti_iv, ti_ivn, ti_n, ti_0, os_si, os_sj, va_up, upd, Nat.reduceEqDiff, reduceIte]); omega) (by (try simp (disch := decide) only [ti_iv, ti_ivn, ti_n, ti_0, os_si, os_sj, va_up, upd, Nat.reduceEqDiff, reduceIte]); omega)) ?_
          conv => whnf
          refine pm_gd (by decide) ?_
          refine hZ0 _ _ ?_
          first
            | exact Or.inl ⟨by omega, rfl, rfl⟩
            | exact Or.inr ⟨by omega, rfl, rfl⟩
set_option maxRecDepth 20000 in
theorem x_end (σ : pm_S) (a1 : Int32) (g : 0 ≤ (σ.1 67 2).toInt ∧ (σ.1 67 2).toInt ≤ 400) : Sp 136 3 [.ref 0, .int a1] σ (fun r τ => ((0 ≤ a1.toInt ∧ a1.toInt ≤ (σ.1 67 2).toInt) ∧ r = some (.int 1) ∧ τ = ((va_up σ.1 67 (upd (σ.1 67) 2 a1)), σ.2)) ∨ (¬ (0 ≤ a1.toInt ∧ a1.toInt ≤ (σ.1 67 2).toInt) ∧ r = some (.int 0) ∧ τ = σ)) := by
  refine S_PaidWhereMade_end [] 400 rfl (fun R0 cl0 Z0 hR0 hcl0 hZ0 => ?_)
  conv => whnf
  refine hcl0 _ _ _ _ ?_
  refine S_LawReader_cut [] 400 rfl (fun R1 cl1 Z1 hR1 hcl1 hZ1 => ?_)
  conv => whnf
  refine ⟨fun h1 => ?_, fun h1 => ?_⟩
  · have h1 := (cc_lt _ _).mp h1
    try simp (disch := decide) only [ti_iv, ti_ivn, ti_n, ti_0, os_si, os_sj, va_up, upd, Nat.reduceEqDiff, reduceIte] at h1
    conv => whnf
    refine pm_gd (by decide) ?_
    refine hZ1 _ _ ?_
    conv => whnf
    refine pm_gd (by decide) ?_
    refine hZ0 _ _ ?_
    first
      | exact Or.inl ⟨by omega, rfl, rfl⟩
      | exact Or.inr ⟨by omega, rfl, rfl⟩
  · have h1 := (nc_lt _ _).mp h1
    try simp (disch := decide) only [ti_iv, ti_ivn, ti_n, ti_0, os_si, os_sj, va_up, upd, Nat.reduceEqDiff, reduceIte] at h1
    conv => whnf
    refine ⟨fun h2 => ?_, fun h2 => ?_⟩
    · have h2 := (cc_le _ _).mp h2
      try simp (disch := decide) only [ti_iv, ti_ivn, ti_n, ti_0, os_si, os_sj, va_up, upd, Nat.reduceEqDiff, reduceIte] at h2
      conv => whnf
      refine pm_gd (by decide) ?_
      refine hZ1 _ _ ?_
      conv => whnf
      refine pm_gd (by decide) ?_
      refine hZ0 _ _ ?_
      first
        | exact Or.inl ⟨by omega, rfl, rfl⟩
        | exact Or.inr ⟨by omega, rfl, rfl⟩
    · have h2 := (nc_le _ _).mp h2
      try simp (disch := decide) only [ti_iv, ti_ivn, ti_n, ti_0, os_si, os_sj, va_up, upd, Nat.reduceEqDiff, reduceIte] at h2
      conv => whnf
      refine pm_gd (by decide) ?_
      refine hZ1 _ _ ?_
      conv => whnf
      refine pm_gd (by decide) ?_
      refine hZ0 _ _ ?_
      first
        | exact Or.inl ⟨by omega, rfl, rfl⟩
        | exact Or.inr ⟨by omega, rfl, rfl⟩
set_option maxRecDepth 20000 in
theorem m_end (σ : pm_S) (a1 : Int32) (g : 0 ≤ (σ.1 93 30).toInt ∧ (σ.1 93 30).toInt ≤ 400) : Sp 176 3 [.ref 93, .int a1] σ (fun r τ => ((0 ≤ a1.toInt ∧ a1.toInt ≤ (σ.1 93 30).toInt) ∧ r = some (.int 1) ∧ τ = ((va_up (va_up σ.1 93 (upd (σ.1 93) 0 0)) 93 (upd (upd (σ.1 93) 0 0) 30 a1)), σ.2)) ∨ (¬ (0 ≤ a1.toInt ∧ a1.toInt ≤ (σ.1 93 30).toInt) ∧ r = some (.int 0) ∧ τ = (va_up σ.1 93 (upd (σ.1 93) 0 0), σ.2))) := by
  refine S_Model_end [] 400 rfl (fun R0 cl0 Z0 hR0 hcl0 hZ0 => ?_)
  conv => whnf
  refine hcl0 _ _ _ _ ?_
  refine S_Model_isIn [] 400 rfl (fun R1 cl1 Z1 hR1 hcl1 hZ1 => ?_)
  conv => whnf
  refine ⟨fun h1 => ?_, fun h1 => ?_⟩
  · have h1 := (cc_lt _ _).mp h1
    try simp (disch := decide) only [ti_iv, ti_ivn, ti_n, ti_0, os_si, os_sj, va_up, upd, Nat.reduceEqDiff, reduceIte] at h1
    conv => whnf
    refine pm_gd (by decide) ?_
    refine hZ1 _ _ ?_
    conv => whnf
    refine pm_bf (cdf rfl) ?_
    conv => whnf
    refine pm_gd (by decide) ?_
    refine hZ0 _ _ ?_
    first
      | exact Or.inl ⟨by omega, rfl, rfl⟩
      | exact Or.inr ⟨by omega, rfl, rfl⟩
  · have h1 := (nc_lt _ _).mp h1
    try simp (disch := decide) only [ti_iv, ti_ivn, ti_n, ti_0, os_si, os_sj, va_up, upd, Nat.reduceEqDiff, reduceIte] at h1
    conv => whnf
    refine ⟨fun h2 => ?_, fun h2 => ?_⟩
    · have h2 := (cc_gt _ _).mp h2
      try simp (disch := decide) only [ti_iv, ti_ivn, ti_n, ti_0, os_si, os_sj, va_up, upd, Nat.reduceEqDiff, reduceIte] at h2
      conv => whnf
      refine pm_gd (by decide) ?_
      refine hZ1 _ _ ?_
      conv => whnf
      refine pm_bf (cdf rfl) ?_
      conv => whnf
      refine pm_gd (by decide) ?_
      refine hZ0 _ _ ?_
      first
        | exact Or.inl ⟨by omega, rfl, rfl⟩
        | exact Or.inr ⟨by omega, rfl, rfl⟩
    · have h2 := (nc_gt _ _).mp h2
      try simp (disch := decide) only [ti_iv, ti_ivn, ti_n, ti_0, os_si, os_sj, va_up, upd, Nat.reduceEqDiff, reduceIte] at h2
      conv => whnf
      refine pm_gd (by decide) ?_
      refine hZ1 _ _ ?_
      conv => whnf
      refine pm_bt (cdt rfl) ?_
      conv => whnf
      refine pm_gd (by decide) ?_
      refine hZ0 _ _ ?_
      first
        | exact Or.inl ⟨by omega, rfl, rfl⟩
        | exact Or.inr ⟨by omega, rfl, rfl⟩
