set_option maxRecDepth 20000 in
theorem x_set (σ : pm_S) (a1 a2 : Int32) (g : True) : Sp 133 3 [.ref 0, .int a1, .int a2] σ (fun r τ => (((a1.toInt = 0 ∧ 0 ≤ a2.toInt ∧ a2.toInt ≤ 100) ∨ (a1.toInt = 1 ∧ 0 ≤ a2.toInt ∧ a2.toInt ≤ 99) ∨ (a1.toInt = 2 ∧ 0 ≤ a2.toInt ∧ a2.toInt ≤ 1) ∨ (a1.toInt = 3 ∧ 1 ≤ a2.toInt ∧ a2.toInt ≤ 52)) ∧ r = some (.int 1) ∧ τ = ((va_up σ.1 2 (upd (σ.1 2) (a1).toNatClampNeg (a2))), σ.2)) ∨ (¬ ((a1.toInt = 0 ∧ 0 ≤ a2.toInt ∧ a2.toInt ≤ 100) ∨ (a1.toInt = 1 ∧ 0 ≤ a2.toInt ∧ a2.toInt ≤ 99) ∨ (a1.toInt = 2 ∧ 0 ≤ a2.toInt ∧ a2.toInt ≤ 1) ∨ (a1.toInt = 3 ∧ 1 ≤ a2.toInt ∧ a2.toInt ≤ 52)) ∧ r = some (.int 0) ∧ τ = σ)) := by
  refine S_PaidWhereMade_set [] 400 rfl (fun R0 cl0 Z0 hR0 hcl0 hZ0 => ?_)
  conv => whnf
  refine hcl0 _ _ _ _ ?_
  refine S_Town_tellSetting [] 400 rfl (fun R1 cl1 Z1 hR1 hcl1 hZ1 => ?_)
  conv => whnf
  refine ⟨fun h1 => ?_, fun h1 => ?_⟩
  · have h1 := (cc_lt _ _).mp h1
    try simp (disch := decide) only [ti_iv, ti_ivn, ti_n, ti_0, os_si, os_sj, va_up, upd, Nat.reduceEqDiff, reduceIte] at h1
    conv => whnf
    refine pm_gd (by decide) ?_
    refine hZ1 _ _ ?_
    conv => whnf
    refine pm_gd (by decide) ?_
    refine hZ0 _ _ ?_
    first
      | exact Or.inl ⟨by omega, rfl, rfl⟩
      | exact Or.inr ⟨by omega, rfl, rfl⟩
  · have h1 := (nc_lt _ _).mp h1
    try simp (disch := decide) only [ti_iv, ti_ivn, ti_n, ti_0, os_si, os_sj, va_up, upd, Nat.reduceEqDiff, reduceIte] at h1
    conv => whnf
    refine ⟨fun h2 => ?_, fun h2 => ?_⟩
    · have h2 := (cc_ge _ _).mp h2
      try simp (disch := decide) only [ti_iv, ti_ivn, ti_n, ti_0, os_si, os_sj, va_up, upd, Nat.reduceEqDiff, reduceIte] at h2
      conv => whnf
      refine pm_gd (by decide) ?_
      refine hZ1 _ _ ?_
      conv => whnf
      refine pm_gd (by decide) ?_
      refine hZ0 _ _ ?_
      first
        | exact Or.inl ⟨by omega, rfl, rfl⟩
        | exact Or.inr ⟨by omega, rfl, rfl⟩
    · have h2 := (nc_ge _ _).mp h2
      try simp (disch := decide) only [ti_iv, ti_ivn, ti_n, ti_0, os_si, os_sj, va_up, upd, Nat.reduceEqDiff, reduceIte] at h2
      conv => whnf
      refine hcl1 _ _ _ _ ?_
      refine S_Town_leastSetting [] 400 rfl (fun R2 cl2 Z2 hR2 hcl2 hZ2 => ?_)
      conv => whnf
      refine ⟨fun h3 => ?_, fun h3 => ?_⟩
      · have h3 := (cc_ne _ _).mp h3
        try simp (disch := decide) only [ti_iv, ti_ivn, ti_n, ti_0, os_si, os_sj, va_up, upd, Nat.reduceEqDiff, reduceIte] at h3
        conv => whnf
        refine hZ2 _ _ ?_
        conv => whnf
        refine ⟨fun h4 => ?_, fun h4 => ?_⟩
        · have h4 := (cc_lt _ _).mp h4
          try simp (disch := decide) only [ti_iv, ti_ivn, ti_n, ti_0, os_si, os_sj, va_up, upd, Nat.reduceEqDiff, reduceIte] at h4
          conv => whnf
          refine pm_gd (by decide) ?_
          refine hZ1 _ _ ?_
          conv => whnf
          refine pm_gd (by decide) ?_
          refine hZ0 _ _ ?_
          first
            | exact Or.inl ⟨by omega, rfl, rfl⟩
            | exact Or.inr ⟨by omega, rfl, rfl⟩
        · have h4 := (nc_lt _ _).mp h4
          try simp (disch := decide) only [ti_iv, ti_ivn, ti_n, ti_0, os_si, os_sj, va_up, upd, Nat.reduceEqDiff, reduceIte] at h4
          conv => whnf
          refine hcl1 _ _ _ _ ?_
          refine S_Town_greatestSetting [] 400 rfl (fun R2 cl2 Z2 hR2 hcl2 hZ2 => ?_)
          conv => whnf
          refine ⟨fun h5 => ?_, fun h5 => ?_⟩
          · have h5 : _ = (0 : Int) := (pm_ofInt (by decide) (by decide)).mp h5
            conv => whnf
            refine hZ2 _ _ ?_
            conv => whnf
            refine ⟨fun h6 => ?_, fun h6 => ?_⟩
            · have h6 := (cc_le _ _).mp h6
              try simp (disch := decide) only [ti_iv, ti_ivn, ti_n, ti_0, os_si, os_sj, va_up, upd, Nat.reduceEqDiff, reduceIte] at h6
              conv => whnf
              refine pm_gd (gI (by (try simp (disch := decide) only [ti_iv, ti_ivn, ti_n, ti_0, os_si, os_sj, va_up, upd, Nat.reduceEqDiff, reduceIte]); omega) (by (try simp (disch := decide) only [ti_iv, ti_ivn, ti_n, ti_0, os_si, os_sj, va_up, upd, Nat.reduceEqDiff, reduceIte]); omega)) ?_
              conv => whnf
              refine pm_gd (by decide) ?_
              refine hZ1 _ _ ?_
              conv => whnf
              refine pm_gd (by decide) ?_
              refine hZ0 _ _ ?_
              first
                | exact Or.inl ⟨by omega, rfl, rfl⟩
                | exact Or.inr ⟨by omega, rfl, rfl⟩
            · have h6 := (nc_le _ _).mp h6
              try simp (disch := decide) only [ti_iv, ti_ivn, ti_n, ti_0, os_si, os_sj, va_up, upd, Nat.reduceEqDiff, reduceIte] at h6
              conv => whnf
              refine pm_gd (by decide) ?_
              refine hZ1 _ _ ?_
              conv => whnf
              refine pm_gd (by decide) ?_
              refine hZ0 _ _ ?_
              first
                | exact Or.inl ⟨by omega, rfl, rfl⟩
                | exact Or.inr ⟨by omega, rfl, rfl⟩
          have h5 : ¬ _ = (0 : Int) := mt (pm_ofInt (by decide) (by decide)).mpr h5
          conv => whnf
          refine ⟨fun h7 => ?_, fun h7 => ?_⟩
          · have h7 : _ = (1 : Int) := (pm_ofInt (by decide) (by decide)).mp h7
            conv => whnf
            refine hZ2 _ _ ?_
            conv => whnf
            refine ⟨fun h8 => ?_, fun h8 => ?_⟩
            · have h8 := (cc_le _ _).mp h8
              try simp (disch := decide) only [ti_iv, ti_ivn, ti_n, ti_0, os_si, os_sj, va_up, upd, Nat.reduceEqDiff, reduceIte] at h8
              conv => whnf
              refine pm_gd (gI (by (try simp (disch := decide) only [ti_iv, ti_ivn, ti_n, ti_0, os_si, os_sj, va_up, upd, Nat.reduceEqDiff, reduceIte]); omega) (by (try simp (disch := decide) only [ti_iv, ti_ivn, ti_n, ti_0, os_si, os_sj, va_up, upd, Nat.reduceEqDiff, reduceIte]); omega)) ?_
              conv => whnf
              refine pm_gd (by decide) ?_
              refine hZ1 _ _ ?_
              conv => whnf
              refine pm_gd (by decide) ?_
              refine hZ0 _ _ ?_
              first
                | exact Or.inl ⟨by omega, rfl, rfl⟩
                | exact Or.inr ⟨by omega, rfl, rfl⟩
            · have h8 := (nc_le _ _).mp h8
              try simp (disch := decide) only [ti_iv, ti_ivn, ti_n, ti_0, os_si, os_sj, va_up, upd, Nat.reduceEqDiff, reduceIte] at h8
              conv => whnf
              refine pm_gd (by decide) ?_
              refine hZ1 _ _ ?_
              conv => whnf
              refine pm_gd (by decide) ?_
              refine hZ0 _ _ ?_
              first
                | exact Or.inl ⟨by omega, rfl, rfl⟩
                | exact Or.inr ⟨by omega, rfl, rfl⟩
          have h7 : ¬ _ = (1 : Int) := mt (pm_ofInt (by decide) (by decide)).mpr h7
          conv => whnf
          refine ⟨fun h9 => ?_, fun h9 => ?_⟩
          · have h9 : _ = (2 : Int) := (pm_ofInt (by decide) (by decide)).mp h9
            conv => whnf
            refine hZ2 _ _ ?_
            conv => whnf
            refine ⟨fun h10 => ?_, fun h10 => ?_⟩
            · have h10 := (cc_le _ _).mp h10
              try simp (disch := decide) only [ti_iv, ti_ivn, ti_n, ti_0, os_si, os_sj, va_up, upd, Nat.reduceEqDiff, reduceIte] at h10
              conv => whnf
              refine pm_gd (gI (by (try simp (disch := decide) only [ti_iv, ti_ivn, ti_n, ti_0, os_si, os_sj, va_up, upd, Nat.reduceEqDiff, reduceIte]); omega) (by (try simp (disch := decide) only [ti_iv, ti_ivn, ti_n, ti_0, os_si, os_sj, va_up, upd, Nat.reduceEqDiff, reduceIte]); omega)) ?_
              conv => whnf
              refine pm_gd (by decide) ?_
              refine hZ1 _ _ ?_
              conv => whnf
              refine pm_gd (by decide) ?_
              refine hZ0 _ _ ?_
              first
                | exact Or.inl ⟨by omega, rfl, rfl⟩
                | exact Or.inr ⟨by omega, rfl, rfl⟩
            · have h10 := (nc_le _ _).mp h10
              try simp (disch := decide) only [ti_iv, ti_ivn, ti_n, ti_0, os_si, os_sj, va_up, upd, Nat.reduceEqDiff, reduceIte] at h10
              conv => whnf
              refine pm_gd (by decide) ?_
              refine hZ1 _ _ ?_
              conv => whnf
              refine pm_gd (by decide) ?_
              refine hZ0 _ _ ?_
              first
                | exact Or.inl ⟨by omega, rfl, rfl⟩
                | exact Or.inr ⟨by omega, rfl, rfl⟩
          have h9 : ¬ _ = (2 : Int) := mt (pm_ofInt (by decide) (by decide)).mpr h9
          conv => whnf
          conv => whnf
          refine hZ2 _ _ ?_
          conv => whnf
          refine ⟨fun h11 => ?_, fun h11 => ?_⟩
          · have h11 := (cc_le _ _).mp h11
            try simp (disch := decide) only [ti_iv, ti_ivn, ti_n, ti_0, os_si, os_sj, va_up, upd, Nat.reduceEqDiff, reduceIte] at h11
            conv => whnf
            refine pm_gd (gI (by (try simp (disch := decide) only [ti_iv, ti_ivn, ti_n, ti_0, os_si, os_sj, va_up, upd, Nat.reduceEqDiff, reduceIte]); omega) (by (try simp (disch := decide) only [ti_iv, ti_ivn, ti_n, ti_0, os_si, os_sj, va_up, upd, Nat.reduceEqDiff, reduceIte]); omega)) ?_
            conv => whnf
            refine pm_gd (by decide) ?_
            refine hZ1 _ _ ?_
            conv => whnf
            refine pm_gd (by decide) ?_
            refine hZ0 _ _ ?_
            first
              | exact Or.inl ⟨by omega, rfl, rfl⟩
              | exact Or.inr ⟨by omega, rfl, rfl⟩
          · have h11 := (nc_le _ _).mp h11
            try simp (disch := decide) only [ti_iv, ti_ivn, ti_n, ti_0, os_si, os_sj, va_up, upd, Nat.reduceEqDiff, reduceIte] at h11
            conv => whnf
            refine pm_gd (by decide) ?_
            refine hZ1 _ _ ?_
            conv => whnf
            refine pm_gd (by decide) ?_
            refine hZ0 _ _ ?_
            first
              | exact Or.inl ⟨by omega, rfl, rfl⟩
              | exact Or.inr ⟨by omega, rfl, rfl⟩
      · have h3 := (nc_ne _ _).mp h3
        try simp (disch := decide) only [ti_iv, ti_ivn, ti_n, ti_0, os_si, os_sj, va_up, upd, Nat.reduceEqDiff, reduceIte] at h3
        conv => whnf
        refine hZ2 _ _ ?_
        conv => whnf
        refine ⟨fun h12 => ?_, fun h12 => ?_⟩
        · have h12 := (cc_lt _ _).mp h12
          try simp (disch := decide) only [ti_iv, ti_ivn, ti_n, ti_0, os_si, os_sj, va_up, upd, Nat.reduceEqDiff, reduceIte] at h12
          conv => whnf
          refine pm_gd (by decide) ?_
          refine hZ1 _ _ ?_
          conv => whnf
          refine pm_gd (by decide) ?_
          refine hZ0 _ _ ?_
          first
            | exact Or.inl ⟨by omega, rfl, rfl⟩
            | exact Or.inr ⟨by omega, rfl, rfl⟩
        · have h12 := (nc_lt _ _).mp h12
          try simp (disch := decide) only [ti_iv, ti_ivn, ti_n, ti_0, os_si, os_sj, va_up, upd, Nat.reduceEqDiff, reduceIte] at h12
          conv => whnf
          refine hcl1 _ _ _ _ ?_
          refine S_Town_greatestSetting [] 400 rfl (fun R2 cl2 Z2 hR2 hcl2 hZ2 => ?_)
          conv => whnf
          refine ⟨fun h13 => ?_, fun h13 => ?_⟩
          · have h13 : _ = (0 : Int) := (pm_ofInt (by decide) (by decide)).mp h13
            conv => whnf
            refine hZ2 _ _ ?_
            conv => whnf
            refine ⟨fun h14 => ?_, fun h14 => ?_⟩
            · have h14 := (cc_le _ _).mp h14
              try simp (disch := decide) only [ti_iv, ti_ivn, ti_n, ti_0, os_si, os_sj, va_up, upd, Nat.reduceEqDiff, reduceIte] at h14
              conv => whnf
              refine pm_gd (gI (by (try simp (disch := decide) only [ti_iv, ti_ivn, ti_n, ti_0, os_si, os_sj, va_up, upd, Nat.reduceEqDiff, reduceIte]); omega) (by (try simp (disch := decide) only [ti_iv, ti_ivn, ti_n, ti_0, os_si, os_sj, va_up, upd, Nat.reduceEqDiff, reduceIte]); omega)) ?_
              conv => whnf
              refine pm_gd (by decide) ?_
              refine hZ1 _ _ ?_
              conv => whnf
              refine pm_gd (by decide) ?_
              refine hZ0 _ _ ?_
              first
                | exact Or.inl ⟨by omega, rfl, rfl⟩
                | exact Or.inr ⟨by omega, rfl, rfl⟩
            · have h14 := (nc_le _ _).mp h14
              try simp (disch := decide) only [ti_iv, ti_ivn, ti_n, ti_0, os_si, os_sj, va_up, upd, Nat.reduceEqDiff, reduceIte] at h14
              conv => whnf
              refine pm_gd (by decide) ?_
              refine hZ1 _ _ ?_
              conv => whnf
              refine pm_gd (by decide) ?_
              refine hZ0 _ _ ?_
              first
                | exact Or.inl ⟨by omega, rfl, rfl⟩
                | exact Or.inr ⟨by omega, rfl, rfl⟩
          have h13 : ¬ _ = (0 : Int) := mt (pm_ofInt (by decide) (by decide)).mpr h13
          conv => whnf
          refine ⟨fun h15 => ?_, fun h15 => ?_⟩
          · have h15 : _ = (1 : Int) := (pm_ofInt (by decide) (by decide)).mp h15
            conv => whnf
            refine hZ2 _ _ ?_
            conv => whnf
            refine ⟨fun h16 => ?_, fun h16 => ?_⟩
            · have h16 := (cc_le _ _).mp h16
              try simp (disch := decide) only [ti_iv, ti_ivn, ti_n, ti_0, os_si, os_sj, va_up, upd, Nat.reduceEqDiff, reduceIte] at h16
              conv => whnf
              refine pm_gd (gI (by (try simp (disch := decide) only [ti_iv, ti_ivn, ti_n, ti_0, os_si, os_sj, va_up, upd, Nat.reduceEqDiff, reduceIte]); omega) (by (try simp (disch := decide) only [ti_iv, ti_ivn, ti_n, ti_0, os_si, os_sj, va_up, upd, Nat.reduceEqDiff, reduceIte]); omega)) ?_
              conv => whnf
              refine pm_gd (by decide) ?_
              refine hZ1 _ _ ?_
              conv => whnf
              refine pm_gd (by decide) ?_
              refine hZ0 _ _ ?_
              first
                | exact Or.inl ⟨by omega, rfl, rfl⟩
                | exact Or.inr ⟨by omega, rfl, rfl⟩
            · have h16 := (nc_le _ _).mp h16
              try simp (disch := decide) only [ti_iv, ti_ivn, ti_n, ti_0, os_si, os_sj, va_up, upd, Nat.reduceEqDiff, reduceIte] at h16
              conv => whnf
              refine pm_gd (by decide) ?_
              refine hZ1 _ _ ?_
              conv => whnf
              refine pm_gd (by decide) ?_
              refine hZ0 _ _ ?_
              first
                | exact Or.inl ⟨by omega, rfl, rfl⟩
                | exact Or.inr ⟨by omega, rfl, rfl⟩
          have h15 : ¬ _ = (1 : Int) := mt (pm_ofInt (by decide) (by decide)).mpr h15
          conv => whnf
          refine ⟨fun h17 => ?_, fun h17 => ?_⟩
          · have h17 : _ = (2 : Int) := (pm_ofInt (by decide) (by decide)).mp h17
            conv => whnf
            refine hZ2 _ _ ?_
            conv => whnf
            refine ⟨fun h18 => ?_, fun h18 => ?_⟩
            · have h18 := (cc_le _ _).mp h18
              try simp (disch := decide) only [ti_iv, ti_ivn, ti_n, ti_0, os_si, os_sj, va_up, upd, Nat.reduceEqDiff, reduceIte] at h18
              conv => whnf
              refine pm_gd (gI (by (try simp (disch := decide) only [ti_iv, ti_ivn, ti_n, ti_0, os_si, os_sj, va_up, upd, Nat.reduceEqDiff, reduceIte]); omega) (by (try simp (disch := decide) only [ti_iv, ti_ivn, ti_n, ti_0, os_si, os_sj, va_up, upd, Nat.reduceEqDiff, reduceIte]); omega)) ?_
              conv => whnf
              refine pm_gd (by decide) ?_
              refine hZ1 _ _ ?_
              conv => whnf
              refine pm_gd (by decide) ?_
              refine hZ0 _ _ ?_
              first
                | exact Or.inl ⟨by omega, rfl, rfl⟩
                | exact Or.inr ⟨by omega, rfl, rfl⟩
            · have h18 := (nc_le _ _).mp h18
              try simp (disch := decide) only [ti_iv, ti_ivn, ti_n, ti_0, os_si, os_sj, va_up, upd, Nat.reduceEqDiff, reduceIte] at h18
              conv => whnf
              refine pm_gd (by decide) ?_
              refine hZ1 _ _ ?_
              conv => whnf
              refine pm_gd (by decide) ?_
              refine hZ0 _ _ ?_
              first
                | exact Or.inl ⟨by omega, rfl, rfl⟩
                | exact Or.inr ⟨by omega, rfl, rfl⟩
          have h17 : ¬ _ = (2 : Int) := mt (pm_ofInt (by decide) (by decide)).mpr h17
          conv => whnf
          conv => whnf
          refine hZ2 _ _ ?_
          conv => whnf
          refine ⟨fun h19 => ?_, fun h19 => ?_⟩
          · have h19 := (cc_le _ _).mp h19
            try simp (disch := decide) only [ti_iv, ti_ivn, ti_n, ti_0, os_si, os_sj, va_up, upd, Nat.reduceEqDiff, reduceIte] at h19
            conv => whnf
            refine pm_gd (gI (by (try simp (disch := decide) only [ti_iv, ti_ivn, ti_n, ti_0, os_si, os_sj, va_up, upd, Nat.reduceEqDiff, reduceIte]); omega) (by (try simp (disch := decide) only [ti_iv, ti_ivn, ti_n, ti_0, os_si, os_sj, va_up, upd, Nat.reduceEqDiff, reduceIte]); omega)) ?_
            conv => whnf
            refine pm_gd (by decide) ?_
            refine hZ1 _ _ ?_
            conv => whnf
            refine pm_gd (by decide) ?_
            refine hZ0 _ _ ?_
            first
              | exact Or.inl ⟨by omega, rfl, rfl⟩
              | exact Or.inr ⟨by omega, rfl, rfl⟩
          · have h19 := (nc_le _ _).mp h19
            try simp (disch := decide) only [ti_iv, ti_ivn, ti_n, ti_0, os_si, os_sj, va_up, upd, Nat.reduceEqDiff, reduceIte] at h19
            conv => whnf
            refine pm_gd (by decide) ?_
            refine hZ1 _ _ ?_
            conv => whnf
            refine pm_gd (by decide) ?_
            refine hZ0 _ _ ?_
            first
              | exact Or.inl ⟨by omega, rfl, rfl⟩
              | exact Or.inr ⟨by omega, rfl, rfl⟩
set_option maxRecDepth 20000 in
theorem m_set (σ : pm_S) (a1 a2 : Int32) (g : True) : Sp 172 3 [.ref 93, .int a1, .int a2] σ (fun r τ => (((a1.toInt = 0 ∧ 0 ≤ a2.toInt ∧ a2.toInt ≤ 100) ∨ (a1.toInt = 1 ∧ 0 ≤ a2.toInt ∧ a2.toInt ≤ 99) ∨ (a1.toInt = 2 ∧ 0 ≤ a2.toInt ∧ a2.toInt ≤ 1) ∨ (a1.toInt = 3 ∧ 1 ≤ a2.toInt ∧ a2.toInt ≤ 52)) ∧ r = some (.int 1) ∧ τ = ((va_up (va_up σ.1 93 (upd (σ.1 93) 0 0)) 108 (upd (σ.1 108) (a1).toNatClampNeg (a2))), σ.2)) ∨ (¬ ((a1.toInt = 0 ∧ 0 ≤ a2.toInt ∧ a2.toInt ≤ 100) ∨ (a1.toInt = 1 ∧ 0 ≤ a2.toInt ∧ a2.toInt ≤ 99) ∨ (a1.toInt = 2 ∧ 0 ≤ a2.toInt ∧ a2.toInt ≤ 1) ∨ (a1.toInt = 3 ∧ 1 ≤ a2.toInt ∧ a2.toInt ≤ 52)) ∧ r = some (.int 0) ∧ τ = (va_up σ.1 93 (upd (σ.1 93) 0 0), σ.2))) := by
  refine S_Model_set [] 400 rfl (fun R0 cl0 Z0 hR0 hcl0 hZ0 => ?_)
  conv => whnf
  refine hcl0 _ _ _ _ ?_
  refine S_Model_isIn [] 400 rfl (fun R1 cl1 Z1 hR1 hcl1 hZ1 => ?_)
  conv => whnf
  refine ⟨fun h1 => ?_, fun h1 => ?_⟩
  · have h1 := (cc_lt _ _).mp h1
    try simp (disch := decide) only [ti_iv, ti_ivn, ti_n, ti_0, os_si, os_sj, va_up, upd, Nat.reduceEqDiff, reduceIte] at h1
    conv => whnf
    refine pm_gd (by decide) ?_
    refine hZ1 _ _ ?_
    conv => whnf
    refine pm_bt (cdt rfl) ?_
    conv => whnf
    refine pm_gd (by decide) ?_
    refine hZ0 _ _ ?_
    first
      | exact Or.inl ⟨by omega, rfl, rfl⟩
      | exact Or.inr ⟨by omega, rfl, rfl⟩
  · have h1 := (nc_lt _ _).mp h1
    try simp (disch := decide) only [ti_iv, ti_ivn, ti_n, ti_0, os_si, os_sj, va_up, upd, Nat.reduceEqDiff, reduceIte] at h1
    conv => whnf
    refine ⟨fun h2 => ?_, fun h2 => ?_⟩
    · have h2 := (cc_gt _ _).mp h2
      try simp (disch := decide) only [ti_iv, ti_ivn, ti_n, ti_0, os_si, os_sj, va_up, upd, Nat.reduceEqDiff, reduceIte] at h2
      conv => whnf
      refine pm_gd (by decide) ?_
      refine hZ1 _ _ ?_
      conv => whnf
      refine pm_bt (cdt rfl) ?_
      conv => whnf
      refine pm_gd (by decide) ?_
      refine hZ0 _ _ ?_
      first
        | exact Or.inl ⟨by omega, rfl, rfl⟩
        | exact Or.inr ⟨by omega, rfl, rfl⟩
    · have h2 := (nc_gt _ _).mp h2
      try simp (disch := decide) only [ti_iv, ti_ivn, ti_n, ti_0, os_si, os_sj, va_up, upd, Nat.reduceEqDiff, reduceIte] at h2
      conv => whnf
      refine pm_gd (by decide) ?_
      refine hZ1 _ _ ?_
      conv => whnf
      refine pm_bf (cdf rfl) ?_
      conv => whnf
      refine hcl0 _ _ _ _ ?_
      refine S_Model_leastOf [] 400 rfl (fun R1 cl1 Z1 hR1 hcl1 hZ1 => ?_)
      conv => whnf
      refine ⟨fun h3 => ?_, fun h3 => ?_⟩
      · have h3 := (cc_ne _ _).mp h3
        try simp (disch := decide) only [ti_iv, ti_ivn, ti_n, ti_0, os_si, os_sj, va_up, upd, Nat.reduceEqDiff, reduceIte] at h3
        conv => whnf
        refine hZ1 _ _ ?_
        conv => whnf
        refine hcl0 _ _ _ _ ?_
        refine S_Model_mostOf [] 400 rfl (fun R1 cl1 Z1 hR1 hcl1 hZ1 => ?_)
        conv => whnf
        refine ⟨fun h4 => ?_, fun h4 => ?_⟩
        · have h4 := (cc_ne _ _).mp h4
          try simp (disch := decide) only [ti_iv, ti_ivn, ti_n, ti_0, os_si, os_sj, va_up, upd, Nat.reduceEqDiff, reduceIte] at h4
          conv => whnf
          refine ⟨fun h5 => ?_, fun h5 => ?_⟩
          · have h5 := (cc_ne _ _).mp h5
            try simp (disch := decide) only [ti_iv, ti_ivn, ti_n, ti_0, os_si, os_sj, va_up, upd, Nat.reduceEqDiff, reduceIte] at h5
            conv => whnf
            refine ⟨fun h6 => ?_, fun h6 => ?_⟩
            · have h6 := (cc_ne _ _).mp h6
              try simp (disch := decide) only [ti_iv, ti_ivn, ti_n, ti_0, os_si, os_sj, va_up, upd, Nat.reduceEqDiff, reduceIte] at h6
              conv => whnf
              refine hZ1 _ _ ?_
              conv => whnf
              refine hcl0 _ _ _ _ ?_
              refine S_Model_isIn [] 400 rfl (fun R1 cl1 Z1 hR1 hcl1 hZ1 => ?_)
              conv => whnf
              refine ⟨fun h7 => ?_, fun h7 => ?_⟩
              · have h7 := (cc_lt _ _).mp h7
                try simp (disch := decide) only [ti_iv, ti_ivn, ti_n, ti_0, os_si, os_sj, va_up, upd, Nat.reduceEqDiff, reduceIte] at h7
                conv => whnf
                refine pm_gd (by decide) ?_
                refine hZ1 _ _ ?_
                conv => whnf
                refine pm_bf (cdf rfl) ?_
                conv => whnf
                refine pm_gd (by decide) ?_
                refine hZ0 _ _ ?_
                first
                  | exact Or.inl ⟨by omega, rfl, rfl⟩
                  | exact Or.inr ⟨by omega, rfl, rfl⟩
              · have h7 := (nc_lt _ _).mp h7
                try simp (disch := decide) only [ti_iv, ti_ivn, ti_n, ti_0, os_si, os_sj, va_up, upd, Nat.reduceEqDiff, reduceIte] at h7
                conv => whnf
                refine ⟨fun h8 => ?_, fun h8 => ?_⟩
                · have h8 := (cc_gt _ _).mp h8
                  try simp (disch := decide) only [ti_iv, ti_ivn, ti_n, ti_0, os_si, os_sj, va_up, upd, Nat.reduceEqDiff, reduceIte] at h8
                  conv => whnf
                  refine pm_gd (by decide) ?_
                  refine hZ1 _ _ ?_
                  conv => whnf
                  refine pm_bf (cdf rfl) ?_
                  conv => whnf
                  refine pm_gd (by decide) ?_
                  refine hZ0 _ _ ?_
                  first
                    | exact Or.inl ⟨by omega, rfl, rfl⟩
                    | exact Or.inr ⟨by omega, rfl, rfl⟩
                · have h8 := (nc_gt _ _).mp h8
                  try simp (disch := decide) only [ti_iv, ti_ivn, ti_n, ti_0, os_si, os_sj, va_up, upd, Nat.reduceEqDiff, reduceIte] at h8
                  conv => whnf
                  refine pm_gd (by decide) ?_
                  refine hZ1 _ _ ?_
                  conv => whnf
                  refine pm_bt (cdt rfl) ?_
                  conv => whnf
                  refine pm_gd (gI (by (try simp (disch := decide) only [ti_iv, ti_ivn, ti_n, ti_0, os_si, os_sj, va_up, upd, Nat.reduceEqDiff, reduceIte]); omega) (by (try simp (disch := decide) only [ti_iv, ti_ivn, ti_n, ti_0, os_si, os_sj, va_up, upd, Nat.reduceEqDiff, reduceIte]); omega)) ?_
                  conv => whnf
                  refine pm_gd (by decide) ?_
                  refine hZ0 _ _ ?_
                  first
                    | exact Or.inl ⟨by omega, rfl, rfl⟩
                    | exact Or.inr ⟨by omega, rfl, rfl⟩
            · have h6 := (nc_ne _ _).mp h6
              try simp (disch := decide) only [ti_iv, ti_ivn, ti_n, ti_0, os_si, os_sj, va_up, upd, Nat.reduceEqDiff, reduceIte] at h6
              conv => whnf
              refine hZ1 _ _ ?_
              conv => whnf
              refine hcl0 _ _ _ _ ?_
              refine S_Model_isIn [] 400 rfl (fun R1 cl1 Z1 hR1 hcl1 hZ1 => ?_)
              conv => whnf
              refine ⟨fun h9 => ?_, fun h9 => ?_⟩
              · have h9 := (cc_lt _ _).mp h9
                try simp (disch := decide) only [ti_iv, ti_ivn, ti_n, ti_0, os_si, os_sj, va_up, upd, Nat.reduceEqDiff, reduceIte] at h9
                conv => whnf
                refine pm_gd (by decide) ?_
                refine hZ1 _ _ ?_
                conv => whnf
                refine pm_bf (cdf rfl) ?_
                conv => whnf
                refine pm_gd (by decide) ?_
                refine hZ0 _ _ ?_
                first
                  | exact Or.inl ⟨by omega, rfl, rfl⟩
                  | exact Or.inr ⟨by omega, rfl, rfl⟩
              · have h9 := (nc_lt _ _).mp h9
                try simp (disch := decide) only [ti_iv, ti_ivn, ti_n, ti_0, os_si, os_sj, va_up, upd, Nat.reduceEqDiff, reduceIte] at h9
                conv => whnf
                refine ⟨fun h10 => ?_, fun h10 => ?_⟩
                · have h10 := (cc_gt _ _).mp h10
                  try simp (disch := decide) only [ti_iv, ti_ivn, ti_n, ti_0, os_si, os_sj, va_up, upd, Nat.reduceEqDiff, reduceIte] at h10
                  conv => whnf
                  refine pm_gd (by decide) ?_
                  refine hZ1 _ _ ?_
                  conv => whnf
                  refine pm_bf (cdf rfl) ?_
                  conv => whnf
                  refine pm_gd (by decide) ?_
                  refine hZ0 _ _ ?_
                  first
                    | exact Or.inl ⟨by omega, rfl, rfl⟩
                    | exact Or.inr ⟨by omega, rfl, rfl⟩
                · have h10 := (nc_gt _ _).mp h10
                  try simp (disch := decide) only [ti_iv, ti_ivn, ti_n, ti_0, os_si, os_sj, va_up, upd, Nat.reduceEqDiff, reduceIte] at h10
                  conv => whnf
                  refine pm_gd (by decide) ?_
                  refine hZ1 _ _ ?_
                  conv => whnf
                  refine pm_bt (cdt rfl) ?_
                  conv => whnf
                  refine pm_gd (gI (by (try simp (disch := decide) only [ti_iv, ti_ivn, ti_n, ti_0, os_si, os_sj, va_up, upd, Nat.reduceEqDiff, reduceIte]); omega) (by (try simp (disch := decide) only [ti_iv, ti_ivn, ti_n, ti_0, os_si, os_sj, va_up, upd, Nat.reduceEqDiff, reduceIte]); omega)) ?_
                  conv => whnf
                  refine pm_gd (by decide) ?_
                  refine hZ0 _ _ ?_
                  first
                    | exact Or.inl ⟨by omega, rfl, rfl⟩
                    | exact Or.inr ⟨by omega, rfl, rfl⟩
          · have h5 := (nc_ne _ _).mp h5
            try simp (disch := decide) only [ti_iv, ti_ivn, ti_n, ti_0, os_si, os_sj, va_up, upd, Nat.reduceEqDiff, reduceIte] at h5
            conv => whnf
            refine hZ1 _ _ ?_
            conv => whnf
            refine hcl0 _ _ _ _ ?_
            refine S_Model_isIn [] 400 rfl (fun R1 cl1 Z1 hR1 hcl1 hZ1 => ?_)
            conv => whnf
            refine ⟨fun h11 => ?_, fun h11 => ?_⟩
            · have h11 := (cc_lt _ _).mp h11
              try simp (disch := decide) only [ti_iv, ti_ivn, ti_n, ti_0, os_si, os_sj, va_up, upd, Nat.reduceEqDiff, reduceIte] at h11
              conv => whnf
              refine pm_gd (by decide) ?_
              refine hZ1 _ _ ?_
              conv => whnf
              refine pm_bf (cdf rfl) ?_
              conv => whnf
              refine pm_gd (by decide) ?_
              refine hZ0 _ _ ?_
              first
                | exact Or.inl ⟨by omega, rfl, rfl⟩
                | exact Or.inr ⟨by omega, rfl, rfl⟩
            · have h11 := (nc_lt _ _).mp h11
              try simp (disch := decide) only [ti_iv, ti_ivn, ti_n, ti_0, os_si, os_sj, va_up, upd, Nat.reduceEqDiff, reduceIte] at h11
              conv => whnf
              refine ⟨fun h12 => ?_, fun h12 => ?_⟩
              · have h12 := (cc_gt _ _).mp h12
                try simp (disch := decide) only [ti_iv, ti_ivn, ti_n, ti_0, os_si, os_sj, va_up, upd, Nat.reduceEqDiff, reduceIte] at h12
                conv => whnf
                refine pm_gd (by decide) ?_
                refine hZ1 _ _ ?_
                conv => whnf
                refine pm_bf (cdf rfl) ?_
                conv => whnf
                refine pm_gd (by decide) ?_
                refine hZ0 _ _ ?_
                first
                  | exact Or.inl ⟨by omega, rfl, rfl⟩
                  | exact Or.inr ⟨by omega, rfl, rfl⟩
              · have h12 := (nc_gt _ _).mp h12
                try simp (disch := decide) only [ti_iv, ti_ivn, ti_n, ti_0, os_si, os_sj, va_up, upd, Nat.reduceEqDiff, reduceIte] at h12
                conv => whnf
                refine pm_gd (by decide) ?_
                refine hZ1 _ _ ?_
                conv => whnf
                refine pm_bt (cdt rfl) ?_
                conv => whnf
                refine pm_gd (gI (by (try simp (disch := decide) only [ti_iv, ti_ivn, ti_n, ti_0, os_si, os_sj, va_up, upd, Nat.reduceEqDiff, reduceIte]); omega) (by (try simp (disch := decide) only [ti_iv, ti_ivn, ti_n, ti_0, os_si, os_sj, va_up, upd, Nat.reduceEqDiff, reduceIte]); omega)) ?_
                conv => whnf
                refine pm_gd (by decide) ?_
                refine hZ0 _ _ ?_
                first
                  | exact Or.inl ⟨by omega, rfl, rfl⟩
                  | exact Or.inr ⟨by omega, rfl, rfl⟩
        · have h4 := (nc_ne _ _).mp h4
          try simp (disch := decide) only [ti_iv, ti_ivn, ti_n, ti_0, os_si, os_sj, va_up, upd, Nat.reduceEqDiff, reduceIte] at h4
          conv => whnf
          refine hZ1 _ _ ?_
          conv => whnf
          refine hcl0 _ _ _ _ ?_
          refine S_Model_isIn [] 400 rfl (fun R1 cl1 Z1 hR1 hcl1 hZ1 => ?_)
          conv => whnf
          refine ⟨fun h13 => ?_, fun h13 => ?_⟩
          · have h13 := (cc_lt _ _).mp h13
            try simp (disch := decide) only [ti_iv, ti_ivn, ti_n, ti_0, os_si, os_sj, va_up, upd, Nat.reduceEqDiff, reduceIte] at h13
            conv => whnf
            refine pm_gd (by decide) ?_
            refine hZ1 _ _ ?_
            conv => whnf
            refine pm_bf (cdf rfl) ?_
            conv => whnf
            refine pm_gd (by decide) ?_
            refine hZ0 _ _ ?_
            first
              | exact Or.inl ⟨by omega, rfl, rfl⟩
              | exact Or.inr ⟨by omega, rfl, rfl⟩
          · have h13 := (nc_lt _ _).mp h13
            try simp (disch := decide) only [ti_iv, ti_ivn, ti_n, ti_0, os_si, os_sj, va_up, upd, Nat.reduceEqDiff, reduceIte] at h13
            conv => whnf
            refine ⟨fun h14 => ?_, fun h14 => ?_⟩
            · have h14 := (cc_gt _ _).mp h14
              try simp (disch := decide) only [ti_iv, ti_ivn, ti_n, ti_0, os_si, os_sj, va_up, upd, Nat.reduceEqDiff, reduceIte] at h14
              conv => whnf
              refine pm_gd (by decide) ?_
              refine hZ1 _ _ ?_
              conv => whnf
              refine pm_bf (cdf rfl) ?_
              conv => whnf
              refine pm_gd (by decide) ?_
              refine hZ0 _ _ ?_
              first
                | exact Or.inl ⟨by omega, rfl, rfl⟩
                | exact Or.inr ⟨by omega, rfl, rfl⟩
            · have h14 := (nc_gt _ _).mp h14
              try simp (disch := decide) only [ti_iv, ti_ivn, ti_n, ti_0, os_si, os_sj, va_up, upd, Nat.reduceEqDiff, reduceIte] at h14
              conv => whnf
              refine pm_gd (by decide) ?_
              refine hZ1 _ _ ?_
              conv => whnf
              refine pm_bt (cdt rfl) ?_
              conv => whnf
              refine pm_gd (gI (by (try simp (disch := decide) only [ti_iv, ti_ivn, ti_n, ti_0, os_si, os_sj, va_up, upd, Nat.reduceEqDiff, reduceIte]); omega) (by (try simp (disch := decide) only [ti_iv, ti_ivn, ti_n, ti_0, os_si, os_sj, va_up, upd, Nat.reduceEqDiff, reduceIte]); omega)) ?_
              conv => whnf
              refine pm_gd (by decide) ?_
              refine hZ0 _ _ ?_
              first
                | exact Or.inl ⟨by omega, rfl, rfl⟩
                | exact Or.inr ⟨by omega, rfl, rfl⟩
      · have h3 := (nc_ne _ _).mp h3
        try simp (disch := decide) only [ti_iv, ti_ivn, ti_n, ti_0, os_si, os_sj, va_up, upd, Nat.reduceEqDiff, reduceIte] at h3
        conv => whnf
        refine hZ1 _ _ ?_
        conv => whnf
        refine hcl0 _ _ _ _ ?_
        refine S_Model_mostOf [] 400 rfl (fun R1 cl1 Z1 hR1 hcl1 hZ1 => ?_)
        conv => whnf
        refine ⟨fun h15 => ?_, fun h15 => ?_⟩
        · have h15 := (cc_ne _ _).mp h15
          try simp (disch := decide) only [ti_iv, ti_ivn, ti_n, ti_0, os_si, os_sj, va_up, upd, Nat.reduceEqDiff, reduceIte] at h15
          conv => whnf
          refine ⟨fun h16 => ?_, fun h16 => ?_⟩
          · have h16 := (cc_ne _ _).mp h16
            try simp (disch := decide) only [ti_iv, ti_ivn, ti_n, ti_0, os_si, os_sj, va_up, upd, Nat.reduceEqDiff, reduceIte] at h16
            conv => whnf
            refine ⟨fun h17 => ?_, fun h17 => ?_⟩
            · have h17 := (cc_ne _ _).mp h17
              try simp (disch := decide) only [ti_iv, ti_ivn, ti_n, ti_0, os_si, os_sj, va_up, upd, Nat.reduceEqDiff, reduceIte] at h17
              conv => whnf
              refine hZ1 _ _ ?_
              conv => whnf
              refine hcl0 _ _ _ _ ?_
              refine S_Model_isIn [] 400 rfl (fun R1 cl1 Z1 hR1 hcl1 hZ1 => ?_)
              conv => whnf
              refine ⟨fun h18 => ?_, fun h18 => ?_⟩
              · have h18 := (cc_lt _ _).mp h18
                try simp (disch := decide) only [ti_iv, ti_ivn, ti_n, ti_0, os_si, os_sj, va_up, upd, Nat.reduceEqDiff, reduceIte] at h18
                conv => whnf
                refine pm_gd (by decide) ?_
                refine hZ1 _ _ ?_
                conv => whnf
                refine pm_bf (cdf rfl) ?_
                conv => whnf
                refine pm_gd (by decide) ?_
                refine hZ0 _ _ ?_
                first
                  | exact Or.inl ⟨by omega, rfl, rfl⟩
                  | exact Or.inr ⟨by omega, rfl, rfl⟩
              · have h18 := (nc_lt _ _).mp h18
                try simp (disch := decide) only [ti_iv, ti_ivn, ti_n, ti_0, os_si, os_sj, va_up, upd, Nat.reduceEqDiff, reduceIte] at h18
                conv => whnf
                refine ⟨fun h19 => ?_, fun h19 => ?_⟩
                · have h19 := (cc_gt _ _).mp h19
                  try simp (disch := decide) only [ti_iv, ti_ivn, ti_n, ti_0, os_si, os_sj, va_up, upd, Nat.reduceEqDiff, reduceIte] at h19
                  conv => whnf
                  refine pm_gd (by decide) ?_
                  refine hZ1 _ _ ?_
                  conv => whnf
                  refine pm_bf (cdf rfl) ?_
                  conv => whnf
                  refine pm_gd (by decide) ?_
                  refine hZ0 _ _ ?_
                  first
                    | exact Or.inl ⟨by omega, rfl, rfl⟩
                    | exact Or.inr ⟨by omega, rfl, rfl⟩
                · have h19 := (nc_gt _ _).mp h19
                  try simp (disch := decide) only [ti_iv, ti_ivn, ti_n, ti_0, os_si, os_sj, va_up, upd, Nat.reduceEqDiff, reduceIte] at h19
                  conv => whnf
                  refine pm_gd (by decide) ?_
                  refine hZ1 _ _ ?_
                  conv => whnf
                  refine pm_bt (cdt rfl) ?_
                  conv => whnf
                  refine pm_gd (gI (by (try simp (disch := decide) only [ti_iv, ti_ivn, ti_n, ti_0, os_si, os_sj, va_up, upd, Nat.reduceEqDiff, reduceIte]); omega) (by (try simp (disch := decide) only [ti_iv, ti_ivn, ti_n, ti_0, os_si, os_sj, va_up, upd, Nat.reduceEqDiff, reduceIte]); omega)) ?_
                  conv => whnf
                  refine pm_gd (by decide) ?_
                  refine hZ0 _ _ ?_
                  first
                    | exact Or.inl ⟨by omega, rfl, rfl⟩
                    | exact Or.inr ⟨by omega, rfl, rfl⟩
            · have h17 := (nc_ne _ _).mp h17
              try simp (disch := decide) only [ti_iv, ti_ivn, ti_n, ti_0, os_si, os_sj, va_up, upd, Nat.reduceEqDiff, reduceIte] at h17
              conv => whnf
              refine hZ1 _ _ ?_
              conv => whnf
              refine hcl0 _ _ _ _ ?_
              refine S_Model_isIn [] 400 rfl (fun R1 cl1 Z1 hR1 hcl1 hZ1 => ?_)
              conv => whnf
              refine ⟨fun h20 => ?_, fun h20 => ?_⟩
              · have h20 := (cc_lt _ _).mp h20
                try simp (disch := decide) only [ti_iv, ti_ivn, ti_n, ti_0, os_si, os_sj, va_up, upd, Nat.reduceEqDiff, reduceIte] at h20
                conv => whnf
                refine pm_gd (by decide) ?_
                refine hZ1 _ _ ?_
                conv => whnf
                refine pm_bf (cdf rfl) ?_
                conv => whnf
                refine pm_gd (by decide) ?_
                refine hZ0 _ _ ?_
                first
                  | exact Or.inl ⟨by omega, rfl, rfl⟩
                  | exact Or.inr ⟨by omega, rfl, rfl⟩
              · have h20 := (nc_lt _ _).mp h20
                try simp (disch := decide) only [ti_iv, ti_ivn, ti_n, ti_0, os_si, os_sj, va_up, upd, Nat.reduceEqDiff, reduceIte] at h20
                conv => whnf
                refine ⟨fun h21 => ?_, fun h21 => ?_⟩
                · have h21 := (cc_gt _ _).mp h21
                  try simp (disch := decide) only [ti_iv, ti_ivn, ti_n, ti_0, os_si, os_sj, va_up, upd, Nat.reduceEqDiff, reduceIte] at h21
                  conv => whnf
                  refine pm_gd (by decide) ?_
                  refine hZ1 _ _ ?_
                  conv => whnf
                  refine pm_bf (cdf rfl) ?_
                  conv => whnf
                  refine pm_gd (by decide) ?_
                  refine hZ0 _ _ ?_
                  first
                    | exact Or.inl ⟨by omega, rfl, rfl⟩
                    | exact Or.inr ⟨by omega, rfl, rfl⟩
                · have h21 := (nc_gt _ _).mp h21
                  try simp (disch := decide) only [ti_iv, ti_ivn, ti_n, ti_0, os_si, os_sj, va_up, upd, Nat.reduceEqDiff, reduceIte] at h21
                  conv => whnf
                  refine pm_gd (by decide) ?_
                  refine hZ1 _ _ ?_
                  conv => whnf
                  refine pm_bt (cdt rfl) ?_
                  conv => whnf
                  refine pm_gd (gI (by (try simp (disch := decide) only [ti_iv, ti_ivn, ti_n, ti_0, os_si, os_sj, va_up, upd, Nat.reduceEqDiff, reduceIte]); omega) (by (try simp (disch := decide) only [ti_iv, ti_ivn, ti_n, ti_0, os_si, os_sj, va_up, upd, Nat.reduceEqDiff, reduceIte]); omega)) ?_
                  conv => whnf
                  refine pm_gd (by decide) ?_
                  refine hZ0 _ _ ?_
                  first
                    | exact Or.inl ⟨by omega, rfl, rfl⟩
                    | exact Or.inr ⟨by omega, rfl, rfl⟩
          · have h16 := (nc_ne _ _).mp h16
            try simp (disch := decide) only [ti_iv, ti_ivn, ti_n, ti_0, os_si, os_sj, va_up, upd, Nat.reduceEqDiff, reduceIte] at h16
            conv => whnf
            refine hZ1 _ _ ?_
            conv => whnf
            refine hcl0 _ _ _ _ ?_
            refine S_Model_isIn [] 400 rfl (fun R1 cl1 Z1 hR1 hcl1 hZ1 => ?_)
            conv => whnf
            refine ⟨fun h22 => ?_, fun h22 => ?_⟩
            · have h22 := (cc_lt _ _).mp h22
              try simp (disch := decide) only [ti_iv, ti_ivn, ti_n, ti_0, os_si, os_sj, va_up, upd, Nat.reduceEqDiff, reduceIte] at h22
              conv => whnf
              refine pm_gd (by decide) ?_
              refine hZ1 _ _ ?_
              conv => whnf
              refine pm_bf (cdf rfl) ?_
              conv => whnf
              refine pm_gd (by decide) ?_
              refine hZ0 _ _ ?_
              first
                | exact Or.inl ⟨by omega, rfl, rfl⟩
                | exact Or.inr ⟨by omega, rfl, rfl⟩
            · have h22 := (nc_lt _ _).mp h22
              try simp (disch := decide) only [ti_iv, ti_ivn, ti_n, ti_0, os_si, os_sj, va_up, upd, Nat.reduceEqDiff, reduceIte] at h22
              conv => whnf
              refine ⟨fun h23 => ?_, fun h23 => ?_⟩
              · have h23 := (cc_gt _ _).mp h23
                try simp (disch := decide) only [ti_iv, ti_ivn, ti_n, ti_0, os_si, os_sj, va_up, upd, Nat.reduceEqDiff, reduceIte] at h23
                conv => whnf
                refine pm_gd (by decide) ?_
                refine hZ1 _ _ ?_
                conv => whnf
                refine pm_bf (cdf rfl) ?_
                conv => whnf
                refine pm_gd (by decide) ?_
                refine hZ0 _ _ ?_
                first
                  | exact Or.inl ⟨by omega, rfl, rfl⟩
                  | exact Or.inr ⟨by omega, rfl, rfl⟩
              · have h23 := (nc_gt _ _).mp h23
                try simp (disch := decide) only [ti_iv, ti_ivn, ti_n, ti_0, os_si, os_sj, va_up, upd, Nat.reduceEqDiff, reduceIte] at h23
                conv => whnf
                refine pm_gd (by decide) ?_
                refine hZ1 _ _ ?_
                conv => whnf
                refine pm_bt (cdt rfl) ?_
                conv => whnf
                refine pm_gd (gI (by (try simp (disch := decide) only [ti_iv, ti_ivn, ti_n, ti_0, os_si, os_sj, va_up, upd, Nat.reduceEqDiff, reduceIte]); omega) (by (try simp (disch := decide) only [ti_iv, ti_ivn, ti_n, ti_0, os_si, os_sj, va_up, upd, Nat.reduceEqDiff, reduceIte]); omega)) ?_
                conv => whnf
                refine pm_gd (by decide) ?_
                refine hZ0 _ _ ?_
                first
                  | exact Or.inl ⟨by omega, rfl, rfl⟩
                  | exact Or.inr ⟨by omega, rfl, rfl⟩
        · have h15 := (nc_ne _ _).mp h15
          try simp (disch := decide) only [ti_iv, ti_ivn, ti_n, ti_0, os_si, os_sj, va_up, upd, Nat.reduceEqDiff, reduceIte] at h15
          conv => whnf
          refine hZ1 _ _ ?_
          conv => whnf
          refine hcl0 _ _ _ _ ?_
          refine S_Model_isIn [] 400 rfl (fun R1 cl1 Z1 hR1 hcl1 hZ1 => ?_)
          conv => whnf
          refine ⟨fun h24 => ?_, fun h24 => ?_⟩
          · have h24 := (cc_lt _ _).mp h24
            try simp (disch := decide) only [ti_iv, ti_ivn, ti_n, ti_0, os_si, os_sj, va_up, upd, Nat.reduceEqDiff, reduceIte] at h24
            conv => whnf
            refine pm_gd (by decide) ?_
            refine hZ1 _ _ ?_
            conv => whnf
            refine pm_bf (cdf rfl) ?_
            conv => whnf
            refine pm_gd (by decide) ?_
            refine hZ0 _ _ ?_
            first
              | exact Or.inl ⟨by omega, rfl, rfl⟩
              | exact Or.inr ⟨by omega, rfl, rfl⟩
          · have h24 := (nc_lt _ _).mp h24
            try simp (disch := decide) only [ti_iv, ti_ivn, ti_n, ti_0, os_si, os_sj, va_up, upd, Nat.reduceEqDiff, reduceIte] at h24
            conv => whnf
            refine ⟨fun h25 => ?_, fun h25 => ?_⟩
            · have h25 := (cc_gt _ _).mp h25
              try simp (disch := decide) only [ti_iv, ti_ivn, ti_n, ti_0, os_si, os_sj, va_up, upd, Nat.reduceEqDiff, reduceIte] at h25
              conv => whnf
              refine pm_gd (by decide) ?_
              refine hZ1 _ _ ?_
              conv => whnf
              refine pm_bf (cdf rfl) ?_
              conv => whnf
              refine pm_gd (by decide) ?_
              refine hZ0 _ _ ?_
              first
                | exact Or.inl ⟨by omega, rfl, rfl⟩
                | exact Or.inr ⟨by omega, rfl, rfl⟩
            · have h25 := (nc_gt _ _).mp h25
              try simp (disch := decide) only [ti_iv, ti_ivn, ti_n, ti_0, os_si, os_sj, va_up, upd, Nat.reduceEqDiff, reduceIte] at h25
              conv => whnf
              refine pm_gd (by decide) ?_
              refine hZ1 _ _ ?_
              conv => whnf
              refine pm_bt (cdt rfl) ?_
              conv => whnf
              refine pm_gd (gI (by (try simp (disch := decide) only [ti_iv, ti_ivn, ti_n, ti_0, os_si, os_sj, va_up, upd, Nat.reduceEqDiff, reduceIte]); omega) (by (try simp (disch := decide) only [ti_iv, ti_ivn, ti_n, ti_0, os_si, os_sj, va_up, upd, Nat.reduceEqDiff, reduceIte]); omega)) ?_
              conv => whnf
              refine pm_gd (by decide) ?_
              refine hZ0 _ _ ?_
              first
                | exact Or.inl ⟨by omega, rfl, rfl⟩
                | exact Or.inr ⟨by omega, rfl, rfl⟩
set_option maxRecDepth 20000 in
theorem x_fault (σ : pm_S) (a1 : Int32) (g : True) : Sp 138 1 [.ref 0, .int a1] σ (fun r τ => (a1.toInt = 0 ∧ r = some (.int (σ.1 67 0)) ∧ τ = σ) ∨ (a1.toInt = 1 ∧ r = some (.int (σ.1 67 1)) ∧ τ = σ) ∨ (¬ a1.toInt = 0 ∧ ¬ a1.toInt = 1 ∧ r = some (.int (-1)) ∧ τ = σ)) := by
  refine S_PaidWhereMade_fault [] 400 rfl (fun R0 cl0 Z0 hR0 hcl0 hZ0 => ?_)
  conv => whnf
  refine ⟨fun h1 => ?_, fun h1 => ?_⟩
  · have h1 : _ = (0 : Int) := (pm_ofInt (by decide) (by decide)).mp h1
    conv => whnf
    refine hZ0 _ _ ?_
    first
      | exact Or.inl ⟨by omega, rfl, rfl⟩
      | exact Or.inr (Or.inl ⟨by omega, rfl, rfl⟩)
      | exact Or.inr (Or.inr ⟨by omega, by omega, rfl, rfl⟩)
  have h1 : ¬ _ = (0 : Int) := mt (pm_ofInt (by decide) (by decide)).mpr h1
  conv => whnf
  refine ⟨fun h2 => ?_, fun h2 => ?_⟩
  · have h2 : _ = (1 : Int) := (pm_ofInt (by decide) (by decide)).mp h2
    conv => whnf
    refine hZ0 _ _ ?_
    first
      | exact Or.inl ⟨by omega, rfl, rfl⟩
      | exact Or.inr (Or.inl ⟨by omega, rfl, rfl⟩)
      | exact Or.inr (Or.inr ⟨by omega, by omega, rfl, rfl⟩)
  have h2 : ¬ _ = (1 : Int) := mt (pm_ofInt (by decide) (by decide)).mpr h2
  conv => whnf
  conv => whnf
  refine hZ0 _ _ ?_
  first
    | exact Or.inl ⟨by omega, rfl, rfl⟩
    | exact Or.inr (Or.inl ⟨by omega, rfl, rfl⟩)
    | exact Or.inr (Or.inr ⟨by omega, by omega, rfl, rfl⟩)
set_option maxRecDepth 20000 in
theorem m_fault (σ : pm_S) (a1 : Int32) (g : True) : Sp 196 1 [.ref 93, .int a1] σ (fun r τ => ((a1.toInt = 0 ∧ r = some (.int (σ.1 93 48))) ∨ (a1.toInt = 1 ∧ r = some (.int (σ.1 93 49))) ∨ (¬ a1.toInt = 0 ∧ ¬ a1.toInt = 1 ∧ r = some (.int (-1)))) ∧ τ = (va_up σ.1 93 (upd (σ.1 93) 0 0), σ.2)) := by
  refine S_Model_fault [] 400 rfl (fun R0 cl0 Z0 hR0 hcl0 hZ0 => ?_)
  conv => whnf
  refine ⟨fun h1 => ?_, fun h1 => ?_⟩
  · have h1 := (cc_ne _ _).mp h1
    try simp (disch := decide) only [ti_iv, ti_ivn, ti_n, ti_0, os_si, os_sj, va_up, upd, Nat.reduceEqDiff, reduceIte] at h1
    conv => whnf
    refine ⟨fun h2 => ?_, fun h2 => ?_⟩
    · have h2 := (cc_ne _ _).mp h2
      try simp (disch := decide) only [ti_iv, ti_ivn, ti_n, ti_0, os_si, os_sj, va_up, upd, Nat.reduceEqDiff, reduceIte] at h2
      conv => whnf
      refine hZ0 _ _ ?_
      first
        | exact ⟨Or.inl ⟨by omega, rfl⟩, rfl⟩
        | exact ⟨Or.inr (Or.inl ⟨by omega, rfl⟩), rfl⟩
        | exact ⟨Or.inr (Or.inr ⟨by omega, by omega, rfl⟩), rfl⟩
    · have h2 := (nc_ne _ _).mp h2
      try simp (disch := decide) only [ti_iv, ti_ivn, ti_n, ti_0, os_si, os_sj, va_up, upd, Nat.reduceEqDiff, reduceIte] at h2
      conv => whnf
      refine hZ0 _ _ ?_
      first
        | exact ⟨Or.inl ⟨by omega, rfl⟩, rfl⟩
        | exact ⟨Or.inr (Or.inl ⟨by omega, rfl⟩), rfl⟩
        | exact ⟨Or.inr (Or.inr ⟨by omega, by omega, rfl⟩), rfl⟩
  · have h1 := (nc_ne _ _).mp h1
    try simp (disch := decide) only [ti_iv, ti_ivn, ti_n, ti_0, os_si, os_sj, va_up, upd, Nat.reduceEqDiff, reduceIte] at h1
    conv => whnf
    refine hZ0 _ _ ?_
    first
      | exact ⟨Or.inl ⟨by omega, rfl⟩, rfl⟩
      | exact ⟨Or.inr (Or.inl ⟨by omega, rfl⟩), rfl⟩
      | exact ⟨Or.inr (Or.inr ⟨by omega, by omega, rfl⟩), rfl⟩
set_option maxRecDepth 20000 in
theorem x_line (σ : pm_S) (a1 a2 a3 a4 : Int32) (g : 0 ≤ (σ.1 21 0).toInt ∧ (σ.1 21 0).toInt ≤ 30) : Sp 149 3 [.ref 0, .int a1, .int a2, .int a3, .int a4] σ (fun r τ => ((0 ≤ a1.toInt ∧ a1.toInt ≤ 9999 ∧ 0 ≤ a2.toInt ∧ a2.toInt < (σ.1 7 0).toInt ∧ ((a3.toInt = -1 ∧ 0 ≤ a4.toInt ∧ a4.toInt < (σ.1 3 0).toInt) ∨ (a4.toInt = -1 ∧ 0 ≤ a3.toInt ∧ a3.toInt < (σ.1 7 0).toInt ∧ ¬ a2.toInt = a3.toInt)) ∧ (σ.1 21 0).toInt < 30) ∧ r = some (.int (σ.1 21 0 + 1 - 1)) ∧ τ = ((va_up (va_up (va_up (va_up (va_up σ.1 22 (upd (σ.1 22) (σ.1 21 0).toNatClampNeg (a1))) 23 (upd (σ.1 23) (σ.1 21 0).toNatClampNeg (a2))) 24 (upd (σ.1 24) (σ.1 21 0).toNatClampNeg (a3))) 25 (upd (σ.1 25) (σ.1 21 0).toNatClampNeg (a4))) 21 (upd (σ.1 21) 0 (σ.1 21 0 + 1))), σ.2)) ∨ (¬ (0 ≤ a1.toInt ∧ a1.toInt ≤ 9999 ∧ 0 ≤ a2.toInt ∧ a2.toInt < (σ.1 7 0).toInt ∧ ((a3.toInt = -1 ∧ 0 ≤ a4.toInt ∧ a4.toInt < (σ.1 3 0).toInt) ∨ (a4.toInt = -1 ∧ 0 ≤ a3.toInt ∧ a3.toInt < (σ.1 7 0).toInt ∧ ¬ a2.toInt = a3.toInt)) ∧ (σ.1 21 0).toInt < 30) ∧ r = some (.int (-1)) ∧ τ = σ)) := by
  refine S_PaidWhereMade_line [] 400 rfl (fun R0 cl0 Z0 hR0 hcl0 hZ0 => ?_)
  conv => whnf
  refine ⟨fun h1 => ?_, fun h1 => ?_⟩
  · have h1 := (cc_ne _ _).mp h1
    try simp (disch := decide) only [ti_iv, ti_ivn, ti_n, ti_0, os_si, os_sj, va_up, upd, Nat.reduceEqDiff, reduceIte] at h1
    conv => whnf
    refine ⟨fun h2 => ?_, fun h2 => ?_⟩
    · have h2 := (cc_ne _ _).mp h2
      try simp (disch := decide) only [ti_iv, ti_ivn, ti_n, ti_0, os_si, os_sj, va_up, upd, Nat.reduceEqDiff, reduceIte] at h2
      conv => whnf
      refine hcl0 _ _ _ _ ?_
      refine S_PaidWhereMade_isSunday [] 400 rfl (fun R1 cl1 Z1 hR1 hcl1 hZ1 => ?_)
      conv => whnf
      refine ⟨fun h3 => ?_, fun h3 => ?_⟩
      · have h3 := (cc_lt _ _).mp h3
        try simp (disch := decide) only [ti_iv, ti_ivn, ti_n, ti_0, os_si, os_sj, va_up, upd, Nat.reduceEqDiff, reduceIte] at h3
        conv => whnf
        refine pm_gd (by decide) ?_
        refine hZ1 _ _ ?_
        conv => whnf
        refine pm_bt (cdt rfl) ?_
        conv => whnf
        refine hZ0 _ _ ?_
        first
          | exact Or.inl ⟨by omega, rfl, rfl⟩
          | exact Or.inr ⟨by omega, rfl, rfl⟩
      · have h3 := (nc_lt _ _).mp h3
        try simp (disch := decide) only [ti_iv, ti_ivn, ti_n, ti_0, os_si, os_sj, va_up, upd, Nat.reduceEqDiff, reduceIte] at h3
        conv => whnf
        refine ⟨fun h4 => ?_, fun h4 => ?_⟩
        · have h4 := (cc_gt _ _).mp h4
          try simp (disch := decide) only [ti_iv, ti_ivn, ti_n, ti_0, os_si, os_sj, va_up, upd, Nat.reduceEqDiff, reduceIte] at h4
          conv => whnf
          refine pm_gd (by decide) ?_
          refine hZ1 _ _ ?_
          conv => whnf
          refine pm_bt (cdt rfl) ?_
          conv => whnf
          refine hZ0 _ _ ?_
          first
            | exact Or.inl ⟨by omega, rfl, rfl⟩
            | exact Or.inr ⟨by omega, rfl, rfl⟩
        · have h4 := (nc_gt _ _).mp h4
          try simp (disch := decide) only [ti_iv, ti_ivn, ti_n, ti_0, os_si, os_sj, va_up, upd, Nat.reduceEqDiff, reduceIte] at h4
          conv => whnf
          refine pm_gd (by decide) ?_
          refine hZ1 _ _ ?_
          conv => whnf
          refine pm_bf (cdf rfl) ?_
          conv => whnf
          refine hcl0 _ _ _ _ ?_
          refine S_People_has [] 400 rfl (fun R1 cl1 Z1 hR1 hcl1 hZ1 => ?_)
          conv => whnf
          refine ⟨fun h5 => ?_, fun h5 => ?_⟩
          · have h5 := (cc_lt _ _).mp h5
            try simp (disch := decide) only [ti_iv, ti_ivn, ti_n, ti_0, os_si, os_sj, va_up, upd, Nat.reduceEqDiff, reduceIte] at h5
            conv => whnf
            refine pm_gd (by decide) ?_
            refine hZ1 _ _ ?_
            conv => whnf
            refine pm_bt (cdt rfl) ?_
            conv => whnf
            refine hZ0 _ _ ?_
            first
              | exact Or.inl ⟨by omega, rfl, rfl⟩
              | exact Or.inr ⟨by omega, rfl, rfl⟩
          · have h5 := (nc_lt _ _).mp h5
            try simp (disch := decide) only [ti_iv, ti_ivn, ti_n, ti_0, os_si, os_sj, va_up, upd, Nat.reduceEqDiff, reduceIte] at h5
            conv => whnf
            refine ⟨fun h6 => ?_, fun h6 => ?_⟩
            · have h6 := (cc_ge _ _).mp h6
              try simp (disch := decide) only [ti_iv, ti_ivn, ti_n, ti_0, os_si, os_sj, va_up, upd, Nat.reduceEqDiff, reduceIte] at h6
              conv => whnf
              refine pm_gd (by decide) ?_
              refine hZ1 _ _ ?_
              conv => whnf
              refine pm_bt (cdt rfl) ?_
              conv => whnf
              refine hZ0 _ _ ?_
              first
                | exact Or.inl ⟨by omega, rfl, rfl⟩
                | exact Or.inr ⟨by omega, rfl, rfl⟩
            · have h6 := (nc_ge _ _).mp h6
              try simp (disch := decide) only [ti_iv, ti_ivn, ti_n, ti_0, os_si, os_sj, va_up, upd, Nat.reduceEqDiff, reduceIte] at h6
              conv => whnf
              refine pm_gd (by decide) ?_
              refine hZ1 _ _ ?_
              conv => whnf
              refine pm_bf (cdf rfl) ?_
              conv => whnf
              refine pm_bf (cdf rfl) ?_
              conv => whnf
              refine pm_bf (cdf rfl) ?_
              conv => whnf
              refine hZ0 _ _ ?_
              first
                | exact Or.inl ⟨by omega, rfl, rfl⟩
                | exact Or.inr ⟨by omega, rfl, rfl⟩
    · have h2 := (nc_ne _ _).mp h2
      try simp (disch := decide) only [ti_iv, ti_ivn, ti_n, ti_0, os_si, os_sj, va_up, upd, Nat.reduceEqDiff, reduceIte] at h2
      conv => whnf
      refine hcl0 _ _ _ _ ?_
      refine S_People_has [] 400 rfl (fun R1 cl1 Z1 hR1 hcl1 hZ1 => ?_)
      conv => whnf
      refine ⟨fun h7 => ?_, fun h7 => ?_⟩
      · have h7 := (cc_lt _ _).mp h7
        try simp (disch := decide) only [ti_iv, ti_ivn, ti_n, ti_0, os_si, os_sj, va_up, upd, Nat.reduceEqDiff, reduceIte] at h7
        conv => whnf
        refine pm_gd (by decide) ?_
        refine hZ1 _ _ ?_
        conv => whnf
        refine pm_bt (cdt rfl) ?_
        conv => whnf
        refine hcl0 _ _ _ _ ?_
        refine S_PaidWhereMade_isSunday [] 400 rfl (fun R1 cl1 Z1 hR1 hcl1 hZ1 => ?_)
        conv => whnf
        refine ⟨fun h8 => ?_, fun h8 => ?_⟩
        · have h8 := (cc_lt _ _).mp h8
          try simp (disch := decide) only [ti_iv, ti_ivn, ti_n, ti_0, os_si, os_sj, va_up, upd, Nat.reduceEqDiff, reduceIte] at h8
          conv => whnf
          refine pm_gd (by decide) ?_
          refine hZ1 _ _ ?_
          conv => whnf
          refine pm_bt (cdt rfl) ?_
          conv => whnf
          refine hZ0 _ _ ?_
          first
            | exact Or.inl ⟨by omega, rfl, rfl⟩
            | exact Or.inr ⟨by omega, rfl, rfl⟩
        · have h8 := (nc_lt _ _).mp h8
          try simp (disch := decide) only [ti_iv, ti_ivn, ti_n, ti_0, os_si, os_sj, va_up, upd, Nat.reduceEqDiff, reduceIte] at h8
          conv => whnf
          refine ⟨fun h9 => ?_, fun h9 => ?_⟩
          · have h9 := (cc_gt _ _).mp h9
            try simp (disch := decide) only [ti_iv, ti_ivn, ti_n, ti_0, os_si, os_sj, va_up, upd, Nat.reduceEqDiff, reduceIte] at h9
            conv => whnf
            refine pm_gd (by decide) ?_
            refine hZ1 _ _ ?_
            conv => whnf
            refine pm_bt (cdt rfl) ?_
            conv => whnf
            refine hZ0 _ _ ?_
            first
              | exact Or.inl ⟨by omega, rfl, rfl⟩
              | exact Or.inr ⟨by omega, rfl, rfl⟩
          · have h9 := (nc_gt _ _).mp h9
            try simp (disch := decide) only [ti_iv, ti_ivn, ti_n, ti_0, os_si, os_sj, va_up, upd, Nat.reduceEqDiff, reduceIte] at h9
            conv => whnf
            refine pm_gd (by decide) ?_
            refine hZ1 _ _ ?_
            conv => whnf
            refine pm_bf (cdf rfl) ?_
            conv => whnf
            refine hcl0 _ _ _ _ ?_
            refine S_People_has [] 400 rfl (fun R1 cl1 Z1 hR1 hcl1 hZ1 => ?_)
            conv => whnf
            refine ⟨fun h10 => ?_, fun h10 => ?_⟩
            · have h10 := (cc_lt _ _).mp h10
              try simp (disch := decide) only [ti_iv, ti_ivn, ti_n, ti_0, os_si, os_sj, va_up, upd, Nat.reduceEqDiff, reduceIte] at h10
              conv => whnf
              refine pm_gd (by decide) ?_
              refine hZ1 _ _ ?_
              conv => whnf
              refine pm_bt (cdt rfl) ?_
              conv => whnf
              refine hZ0 _ _ ?_
              first
                | exact Or.inl ⟨by omega, rfl, rfl⟩
                | exact Or.inr ⟨by omega, rfl, rfl⟩
            · have h10 := (nc_lt _ _).mp h10
              try simp (disch := decide) only [ti_iv, ti_ivn, ti_n, ti_0, os_si, os_sj, va_up, upd, Nat.reduceEqDiff, reduceIte] at h10
              conv => whnf
              refine ⟨fun h11 => ?_, fun h11 => ?_⟩
              · have h11 := (cc_ge _ _).mp h11
                try simp (disch := decide) only [ti_iv, ti_ivn, ti_n, ti_0, os_si, os_sj, va_up, upd, Nat.reduceEqDiff, reduceIte] at h11
                conv => whnf
                refine pm_gd (by decide) ?_
                refine hZ1 _ _ ?_
                conv => whnf
                refine pm_bt (cdt rfl) ?_
                conv => whnf
                refine hZ0 _ _ ?_
                first
                  | exact Or.inl ⟨by omega, rfl, rfl⟩
                  | exact Or.inr ⟨by omega, rfl, rfl⟩
              · have h11 := (nc_ge _ _).mp h11
                try simp (disch := decide) only [ti_iv, ti_ivn, ti_n, ti_0, os_si, os_sj, va_up, upd, Nat.reduceEqDiff, reduceIte] at h11
                conv => whnf
                refine pm_gd (by decide) ?_
                refine hZ1 _ _ ?_
                conv => whnf
                refine pm_bf (cdf rfl) ?_
                conv => whnf
                refine pm_bf (cdf rfl) ?_
                conv => whnf
                refine pm_bf (cdf rfl) ?_
                conv => whnf
                refine hZ0 _ _ ?_
                first
                  | exact Or.inl ⟨by omega, rfl, rfl⟩
                  | exact Or.inr ⟨by omega, rfl, rfl⟩
      · have h7 := (nc_lt _ _).mp h7
        try simp (disch := decide) only [ti_iv, ti_ivn, ti_n, ti_0, os_si, os_sj, va_up, upd, Nat.reduceEqDiff, reduceIte] at h7
        conv => whnf
        refine ⟨fun h12 => ?_, fun h12 => ?_⟩
        · have h12 := (cc_ge _ _).mp h12
          try simp (disch := decide) only [ti_iv, ti_ivn, ti_n, ti_0, os_si, os_sj, va_up, upd, Nat.reduceEqDiff, reduceIte] at h12
          conv => whnf
          refine pm_gd (by decide) ?_
          refine hZ1 _ _ ?_
          conv => whnf
          refine pm_bt (cdt rfl) ?_
          conv => whnf
          refine hcl0 _ _ _ _ ?_
          refine S_PaidWhereMade_isSunday [] 400 rfl (fun R1 cl1 Z1 hR1 hcl1 hZ1 => ?_)
          conv => whnf
          refine ⟨fun h13 => ?_, fun h13 => ?_⟩
          · have h13 := (cc_lt _ _).mp h13
            try simp (disch := decide) only [ti_iv, ti_ivn, ti_n, ti_0, os_si, os_sj, va_up, upd, Nat.reduceEqDiff, reduceIte] at h13
            conv => whnf
            refine pm_gd (by decide) ?_
            refine hZ1 _ _ ?_
            conv => whnf
            refine pm_bt (cdt rfl) ?_
            conv => whnf
            refine hZ0 _ _ ?_
            first
              | exact Or.inl ⟨by omega, rfl, rfl⟩
              | exact Or.inr ⟨by omega, rfl, rfl⟩
          · have h13 := (nc_lt _ _).mp h13
            try simp (disch := decide) only [ti_iv, ti_ivn, ti_n, ti_0, os_si, os_sj, va_up, upd, Nat.reduceEqDiff, reduceIte] at h13
            conv => whnf
            refine ⟨fun h14 => ?_, fun h14 => ?_⟩
            · have h14 := (cc_gt _ _).mp h14
              try simp (disch := decide) only [ti_iv, ti_ivn, ti_n, ti_0, os_si, os_sj, va_up, upd, Nat.reduceEqDiff, reduceIte] at h14
              conv => whnf
              refine pm_gd (by decide) ?_
              refine hZ1 _ _ ?_
              conv => whnf
              refine pm_bt (cdt rfl) ?_
              conv => whnf
              refine hZ0 _ _ ?_
              first
                | exact Or.inl ⟨by omega, rfl, rfl⟩
                | exact Or.inr ⟨by omega, rfl, rfl⟩
            · have h14 := (nc_gt _ _).mp h14
              try simp (disch := decide) only [ti_iv, ti_ivn, ti_n, ti_0, os_si, os_sj, va_up, upd, Nat.reduceEqDiff, reduceIte] at h14
              conv => whnf
              refine pm_gd (by decide) ?_
              refine hZ1 _ _ ?_
              conv => whnf
              refine pm_bf (cdf rfl) ?_
              conv => whnf
              refine hcl0 _ _ _ _ ?_
              refine S_People_has [] 400 rfl (fun R1 cl1 Z1 hR1 hcl1 hZ1 => ?_)
              conv => whnf
              refine ⟨fun h15 => ?_, fun h15 => ?_⟩
              · have h15 := (cc_lt _ _).mp h15
                try simp (disch := decide) only [ti_iv, ti_ivn, ti_n, ti_0, os_si, os_sj, va_up, upd, Nat.reduceEqDiff, reduceIte] at h15
                conv => whnf
                refine pm_gd (by decide) ?_
                refine hZ1 _ _ ?_
                conv => whnf
                refine pm_bt (cdt rfl) ?_
                conv => whnf
                refine hZ0 _ _ ?_
                first
                  | exact Or.inl ⟨by omega, rfl, rfl⟩
                  | exact Or.inr ⟨by omega, rfl, rfl⟩
              · have h15 := (nc_lt _ _).mp h15
                try simp (disch := decide) only [ti_iv, ti_ivn, ti_n, ti_0, os_si, os_sj, va_up, upd, Nat.reduceEqDiff, reduceIte] at h15
                conv => whnf
                refine ⟨fun h16 => ?_, fun h16 => ?_⟩
                · have h16 := (cc_ge _ _).mp h16
                  try simp (disch := decide) only [ti_iv, ti_ivn, ti_n, ti_0, os_si, os_sj, va_up, upd, Nat.reduceEqDiff, reduceIte] at h16
                  conv => whnf
                  refine pm_gd (by decide) ?_
                  refine hZ1 _ _ ?_
                  conv => whnf
                  refine pm_bt (cdt rfl) ?_
                  conv => whnf
                  refine hZ0 _ _ ?_
                  first
                    | exact Or.inl ⟨by omega, rfl, rfl⟩
                    | exact Or.inr ⟨by omega, rfl, rfl⟩
                · have h16 := (nc_ge _ _).mp h16
                  try simp (disch := decide) only [ti_iv, ti_ivn, ti_n, ti_0, os_si, os_sj, va_up, upd, Nat.reduceEqDiff, reduceIte] at h16
                  conv => whnf
                  refine pm_gd (by decide) ?_
                  refine hZ1 _ _ ?_
                  conv => whnf
                  refine pm_bf (cdf rfl) ?_
                  conv => whnf
                  refine pm_bf (cdf rfl) ?_
                  conv => whnf
                  refine pm_bf (cdf rfl) ?_
                  conv => whnf
                  refine hZ0 _ _ ?_
                  first
                    | exact Or.inl ⟨by omega, rfl, rfl⟩
                    | exact Or.inr ⟨by omega, rfl, rfl⟩
        · have h12 := (nc_ge _ _).mp h12
          try simp (disch := decide) only [ti_iv, ti_ivn, ti_n, ti_0, os_si, os_sj, va_up, upd, Nat.reduceEqDiff, reduceIte] at h12
          conv => whnf
          refine pm_gd (by decide) ?_
          refine hZ1 _ _ ?_
          conv => whnf
          refine pm_bf (cdf rfl) ?_
          conv => whnf
          refine ⟨fun h17 => ?_, fun h17 => ?_⟩
          · have h17 := (cc_eq _ _).mp h17
            try simp (disch := decide) only [ti_iv, ti_ivn, ti_n, ti_0, os_si, os_sj, va_up, upd, Nat.reduceEqDiff, reduceIte] at h17
            conv => whnf
            refine hcl0 _ _ _ _ ?_
            refine S_PaidWhereMade_isSunday [] 400 rfl (fun R1 cl1 Z1 hR1 hcl1 hZ1 => ?_)
            conv => whnf
            refine ⟨fun h18 => ?_, fun h18 => ?_⟩
            · have h18 := (cc_lt _ _).mp h18
              try simp (disch := decide) only [ti_iv, ti_ivn, ti_n, ti_0, os_si, os_sj, va_up, upd, Nat.reduceEqDiff, reduceIte] at h18
              conv => whnf
              refine pm_gd (by decide) ?_
              refine hZ1 _ _ ?_
              conv => whnf
              refine pm_bt (cdt rfl) ?_
              conv => whnf
              refine hZ0 _ _ ?_
              first
                | exact Or.inl ⟨by omega, rfl, rfl⟩
                | exact Or.inr ⟨by omega, rfl, rfl⟩
            · have h18 := (nc_lt _ _).mp h18
              try simp (disch := decide) only [ti_iv, ti_ivn, ti_n, ti_0, os_si, os_sj, va_up, upd, Nat.reduceEqDiff, reduceIte] at h18
              conv => whnf
              refine ⟨fun h19 => ?_, fun h19 => ?_⟩
              · have h19 := (cc_gt _ _).mp h19
                try simp (disch := decide) only [ti_iv, ti_ivn, ti_n, ti_0, os_si, os_sj, va_up, upd, Nat.reduceEqDiff, reduceIte] at h19
                conv => whnf
                refine pm_gd (by decide) ?_
                refine hZ1 _ _ ?_
                conv => whnf
                refine pm_bt (cdt rfl) ?_
                conv => whnf
                refine hZ0 _ _ ?_
                first
                  | exact Or.inl ⟨by omega, rfl, rfl⟩
                  | exact Or.inr ⟨by omega, rfl, rfl⟩
              · have h19 := (nc_gt _ _).mp h19
                try simp (disch := decide) only [ti_iv, ti_ivn, ti_n, ti_0, os_si, os_sj, va_up, upd, Nat.reduceEqDiff, reduceIte] at h19
                conv => whnf
                refine pm_gd (by decide) ?_
                refine hZ1 _ _ ?_
                conv => whnf
                refine pm_bf (cdf rfl) ?_
                conv => whnf
                refine hcl0 _ _ _ _ ?_
                refine S_People_has [] 400 rfl (fun R1 cl1 Z1 hR1 hcl1 hZ1 => ?_)
                conv => whnf
                refine ⟨fun h20 => ?_, fun h20 => ?_⟩
                · have h20 := (cc_lt _ _).mp h20
                  try simp (disch := decide) only [ti_iv, ti_ivn, ti_n, ti_0, os_si, os_sj, va_up, upd, Nat.reduceEqDiff, reduceIte] at h20
                  conv => whnf
                  refine pm_gd (by decide) ?_
                  refine hZ1 _ _ ?_
                  conv => whnf
                  refine pm_bt (cdt rfl) ?_
                  conv => whnf
                  refine hZ0 _ _ ?_
                  first
                    | exact Or.inl ⟨by omega, rfl, rfl⟩
                    | exact Or.inr ⟨by omega, rfl, rfl⟩
                · have h20 := (nc_lt _ _).mp h20
                  try simp (disch := decide) only [ti_iv, ti_ivn, ti_n, ti_0, os_si, os_sj, va_up, upd, Nat.reduceEqDiff, reduceIte] at h20
                  conv => whnf
                  refine ⟨fun h21 => ?_, fun h21 => ?_⟩
                  · have h21 := (cc_ge _ _).mp h21
                    try simp (disch := decide) only [ti_iv, ti_ivn, ti_n, ti_0, os_si, os_sj, va_up, upd, Nat.reduceEqDiff, reduceIte] at h21
                    conv => whnf
                    refine pm_gd (by decide) ?_
                    refine hZ1 _ _ ?_
                    conv => whnf
                    refine pm_bt (cdt rfl) ?_
                    conv => whnf
                    refine hZ0 _ _ ?_
                    first
                      | exact Or.inl ⟨by omega, rfl, rfl⟩
                      | exact Or.inr ⟨by omega, rfl, rfl⟩
                  · have h21 := (nc_ge _ _).mp h21
                    try simp (disch := decide) only [ti_iv, ti_ivn, ti_n, ti_0, os_si, os_sj, va_up, upd, Nat.reduceEqDiff, reduceIte] at h21
                    conv => whnf
                    refine pm_gd (by decide) ?_
                    refine hZ1 _ _ ?_
                    conv => whnf
                    refine pm_bf (cdf rfl) ?_
                    conv => whnf
                    refine pm_bf (cdf rfl) ?_
                    conv => whnf
                    refine pm_bf (cdf rfl) ?_
                    conv => whnf
                    refine hZ0 _ _ ?_
                    first
                      | exact Or.inl ⟨by omega, rfl, rfl⟩
                      | exact Or.inr ⟨by omega, rfl, rfl⟩
          · have h17 := (nc_eq _ _).mp h17
            try simp (disch := decide) only [ti_iv, ti_ivn, ti_n, ti_0, os_si, os_sj, va_up, upd, Nat.reduceEqDiff, reduceIte] at h17
            conv => whnf
            refine hcl0 _ _ _ _ ?_
            refine S_PaidWhereMade_isSunday [] 400 rfl (fun R1 cl1 Z1 hR1 hcl1 hZ1 => ?_)
            conv => whnf
            refine ⟨fun h22 => ?_, fun h22 => ?_⟩
            · have h22 := (cc_lt _ _).mp h22
              try simp (disch := decide) only [ti_iv, ti_ivn, ti_n, ti_0, os_si, os_sj, va_up, upd, Nat.reduceEqDiff, reduceIte] at h22
              conv => whnf
              refine pm_gd (by decide) ?_
              refine hZ1 _ _ ?_
              conv => whnf
              refine pm_bt (cdt rfl) ?_
              conv => whnf
              refine hZ0 _ _ ?_
              first
                | exact Or.inl ⟨by omega, rfl, rfl⟩
                | exact Or.inr ⟨by omega, rfl, rfl⟩
            · have h22 := (nc_lt _ _).mp h22
              try simp (disch := decide) only [ti_iv, ti_ivn, ti_n, ti_0, os_si, os_sj, va_up, upd, Nat.reduceEqDiff, reduceIte] at h22
              conv => whnf
              refine ⟨fun h23 => ?_, fun h23 => ?_⟩
              · have h23 := (cc_gt _ _).mp h23
                try simp (disch := decide) only [ti_iv, ti_ivn, ti_n, ti_0, os_si, os_sj, va_up, upd, Nat.reduceEqDiff, reduceIte] at h23
                conv => whnf
                refine pm_gd (by decide) ?_
                refine hZ1 _ _ ?_
                conv => whnf
                refine pm_bt (cdt rfl) ?_
                conv => whnf
                refine hZ0 _ _ ?_
                first
                  | exact Or.inl ⟨by omega, rfl, rfl⟩
                  | exact Or.inr ⟨by omega, rfl, rfl⟩
              · have h23 := (nc_gt _ _).mp h23
                try simp (disch := decide) only [ti_iv, ti_ivn, ti_n, ti_0, os_si, os_sj, va_up, upd, Nat.reduceEqDiff, reduceIte] at h23
                conv => whnf
                refine pm_gd (by decide) ?_
                refine hZ1 _ _ ?_
                conv => whnf
                refine pm_bf (cdf rfl) ?_
                conv => whnf
                refine hcl0 _ _ _ _ ?_
                refine S_People_has [] 400 rfl (fun R1 cl1 Z1 hR1 hcl1 hZ1 => ?_)
                conv => whnf
                refine ⟨fun h24 => ?_, fun h24 => ?_⟩
                · have h24 := (cc_lt _ _).mp h24
                  try simp (disch := decide) only [ti_iv, ti_ivn, ti_n, ti_0, os_si, os_sj, va_up, upd, Nat.reduceEqDiff, reduceIte] at h24
                  conv => whnf
                  refine pm_gd (by decide) ?_
                  refine hZ1 _ _ ?_
                  conv => whnf
                  refine pm_bt (cdt rfl) ?_
                  conv => whnf
                  refine hZ0 _ _ ?_
                  first
                    | exact Or.inl ⟨by omega, rfl, rfl⟩
                    | exact Or.inr ⟨by omega, rfl, rfl⟩
                · have h24 := (nc_lt _ _).mp h24
                  try simp (disch := decide) only [ti_iv, ti_ivn, ti_n, ti_0, os_si, os_sj, va_up, upd, Nat.reduceEqDiff, reduceIte] at h24
                  conv => whnf
                  refine ⟨fun h25 => ?_, fun h25 => ?_⟩
                  · have h25 := (cc_ge _ _).mp h25
                    try simp (disch := decide) only [ti_iv, ti_ivn, ti_n, ti_0, os_si, os_sj, va_up, upd, Nat.reduceEqDiff, reduceIte] at h25
                    conv => whnf
                    refine pm_gd (by decide) ?_
                    refine hZ1 _ _ ?_
                    conv => whnf
                    refine pm_bt (cdt rfl) ?_
                    conv => whnf
                    refine hZ0 _ _ ?_
                    first
                      | exact Or.inl ⟨by omega, rfl, rfl⟩
                      | exact Or.inr ⟨by omega, rfl, rfl⟩
                  · have h25 := (nc_ge _ _).mp h25
                    try simp (disch := decide) only [ti_iv, ti_ivn, ti_n, ti_0, os_si, os_sj, va_up, upd, Nat.reduceEqDiff, reduceIte] at h25
                    conv => whnf
                    refine pm_gd (by decide) ?_
                    refine hZ1 _ _ ?_
                    conv => whnf
                    refine pm_bf (cdf rfl) ?_
                    conv => whnf
                    refine pm_bf (cdf rfl) ?_
                    conv => whnf
                    refine pm_bt (cdt rfl) ?_
                    conv => whnf
                    refine hcl0 _ _ _ _ ?_
                    refine S_Lines_add [] 400 rfl (fun R1 cl1 Z1 hR1 hcl1 hZ1 => ?_)
                    conv => whnf
                    refine ⟨fun h26 => ?_, fun h26 => ?_⟩
                    · have h26 := (cc_lt _ _).mp h26
                      try simp (disch := decide) only [ti_iv, ti_ivn, ti_n, ti_0, os_si, os_sj, va_up, upd, Nat.reduceEqDiff, reduceIte] at h26
                      conv => whnf
                      refine pm_gd (gI (by (try simp (disch := decide) only [ti_iv, ti_ivn, ti_n, ti_0, os_si, os_sj, va_up, upd, Nat.reduceEqDiff, reduceIte]); omega) (by (try simp (disch := decide) only [ti_iv, ti_ivn, ti_n, ti_0, os_si, os_sj, va_up, upd, Nat.reduceEqDiff, reduceIte]); omega)) ?_
                      conv => whnf
                      refine pm_gd (gI (by (try simp (disch := decide) only [ti_iv, ti_ivn, ti_n, ti_0, os_si, os_sj, va_up, upd, Nat.reduceEqDiff, reduceIte]); omega) (by (try simp (disch := decide) only [ti_iv, ti_ivn, ti_n, ti_0, os_si, os_sj, va_up, upd, Nat.reduceEqDiff, reduceIte]); omega)) ?_
                      conv => whnf
                      refine pm_gd (gI (by (try simp (disch := decide) only [ti_iv, ti_ivn, ti_n, ti_0, os_si, os_sj, va_up, upd, Nat.reduceEqDiff, reduceIte]); omega) (by (try simp (disch := decide) only [ti_iv, ti_ivn, ti_n, ti_0, os_si, os_sj, va_up, upd, Nat.reduceEqDiff, reduceIte]); omega)) ?_
                      conv => whnf
                      refine pm_gd (gI (by (try simp (disch := decide) only [ti_iv, ti_ivn, ti_n, ti_0, os_si, os_sj, va_up, upd, Nat.reduceEqDiff, reduceIte]); omega) (by (try simp (disch := decide) only [ti_iv, ti_ivn, ti_n, ti_0, os_si, os_sj, va_up, upd, Nat.reduceEqDiff, reduceIte]); omega)) ?_
                      conv => whnf
                      refine hZ1 _ _ ?_
                      conv => whnf
                      refine hZ0 _ _ ?_
                      first
                        | exact Or.inl ⟨by omega, rfl, rfl⟩
                        | exact Or.inr ⟨by omega, rfl, rfl⟩
                    · have h26 := (nc_lt _ _).mp h26
                      try simp (disch := decide) only [ti_iv, ti_ivn, ti_n, ti_0, os_si, os_sj, va_up, upd, Nat.reduceEqDiff, reduceIte] at h26
                      conv => whnf
                      refine hZ1 _ _ ?_
                      conv => whnf
                      refine hZ0 _ _ ?_
                      first
                        | exact Or.inl ⟨by omega, rfl, rfl⟩
                        | exact Or.inr ⟨by omega, rfl, rfl⟩
  · have h1 := (nc_ne _ _).mp h1
    try simp (disch := decide) only [ti_iv, ti_ivn, ti_n, ti_0, os_si, os_sj, va_up, upd, Nat.reduceEqDiff, reduceIte] at h1
    conv => whnf
    refine hcl0 _ _ _ _ ?_
    refine S_Spots_has [] 400 rfl (fun R1 cl1 Z1 hR1 hcl1 hZ1 => ?_)
    conv => whnf
    refine ⟨fun h27 => ?_, fun h27 => ?_⟩
    · have h27 := (cc_lt _ _).mp h27
      try simp (disch := decide) only [ti_iv, ti_ivn, ti_n, ti_0, os_si, os_sj, va_up, upd, Nat.reduceEqDiff, reduceIte] at h27
      conv => whnf
      refine pm_gd (by decide) ?_
      refine hZ1 _ _ ?_
      conv => whnf
      refine pm_bt (cdt rfl) ?_
      conv => whnf
      refine ⟨fun h28 => ?_, fun h28 => ?_⟩
      · have h28 := (cc_ne _ _).mp h28
        try simp (disch := decide) only [ti_iv, ti_ivn, ti_n, ti_0, os_si, os_sj, va_up, upd, Nat.reduceEqDiff, reduceIte] at h28
        conv => whnf
        refine hcl0 _ _ _ _ ?_
        refine S_PaidWhereMade_isSunday [] 400 rfl (fun R1 cl1 Z1 hR1 hcl1 hZ1 => ?_)
        conv => whnf
        refine ⟨fun h29 => ?_, fun h29 => ?_⟩
        · have h29 := (cc_lt _ _).mp h29
          try simp (disch := decide) only [ti_iv, ti_ivn, ti_n, ti_0, os_si, os_sj, va_up, upd, Nat.reduceEqDiff, reduceIte] at h29
          conv => whnf
          refine pm_gd (by decide) ?_
          refine hZ1 _ _ ?_
          conv => whnf
          refine pm_bt (cdt rfl) ?_
          conv => whnf
          refine hZ0 _ _ ?_
          first
            | exact Or.inl ⟨by omega, rfl, rfl⟩
            | exact Or.inr ⟨by omega, rfl, rfl⟩
        · have h29 := (nc_lt _ _).mp h29
          try simp (disch := decide) only [ti_iv, ti_ivn, ti_n, ti_0, os_si, os_sj, va_up, upd, Nat.reduceEqDiff, reduceIte] at h29
          conv => whnf
          refine ⟨fun h30 => ?_, fun h30 => ?_⟩
          · have h30 := (cc_gt _ _).mp h30
            try simp (disch := decide) only [ti_iv, ti_ivn, ti_n, ti_0, os_si, os_sj, va_up, upd, Nat.reduceEqDiff, reduceIte] at h30
            conv => whnf
            refine pm_gd (by decide) ?_
            refine hZ1 _ _ ?_
            conv => whnf
            refine pm_bt (cdt rfl) ?_
            conv => whnf
            refine hZ0 _ _ ?_
            first
              | exact Or.inl ⟨by omega, rfl, rfl⟩
              | exact Or.inr ⟨by omega, rfl, rfl⟩
          · have h30 := (nc_gt _ _).mp h30
            try simp (disch := decide) only [ti_iv, ti_ivn, ti_n, ti_0, os_si, os_sj, va_up, upd, Nat.reduceEqDiff, reduceIte] at h30
            conv => whnf
            refine pm_gd (by decide) ?_
            refine hZ1 _ _ ?_
            conv => whnf
            refine pm_bf (cdf rfl) ?_
            conv => whnf
            refine hcl0 _ _ _ _ ?_
            refine S_People_has [] 400 rfl (fun R1 cl1 Z1 hR1 hcl1 hZ1 => ?_)
            conv => whnf
            refine ⟨fun h31 => ?_, fun h31 => ?_⟩
            · have h31 := (cc_lt _ _).mp h31
              try simp (disch := decide) only [ti_iv, ti_ivn, ti_n, ti_0, os_si, os_sj, va_up, upd, Nat.reduceEqDiff, reduceIte] at h31
              conv => whnf
              refine pm_gd (by decide) ?_
              refine hZ1 _ _ ?_
              conv => whnf
              refine pm_bt (cdt rfl) ?_
              conv => whnf
              refine hZ0 _ _ ?_
              first
                | exact Or.inl ⟨by omega, rfl, rfl⟩
                | exact Or.inr ⟨by omega, rfl, rfl⟩
            · have h31 := (nc_lt _ _).mp h31
              try simp (disch := decide) only [ti_iv, ti_ivn, ti_n, ti_0, os_si, os_sj, va_up, upd, Nat.reduceEqDiff, reduceIte] at h31
              conv => whnf
              refine ⟨fun h32 => ?_, fun h32 => ?_⟩
              · have h32 := (cc_ge _ _).mp h32
                try simp (disch := decide) only [ti_iv, ti_ivn, ti_n, ti_0, os_si, os_sj, va_up, upd, Nat.reduceEqDiff, reduceIte] at h32
                conv => whnf
                refine pm_gd (by decide) ?_
                refine hZ1 _ _ ?_
                conv => whnf
                refine pm_bt (cdt rfl) ?_
                conv => whnf
                refine hZ0 _ _ ?_
                first
                  | exact Or.inl ⟨by omega, rfl, rfl⟩
                  | exact Or.inr ⟨by omega, rfl, rfl⟩
              · have h32 := (nc_ge _ _).mp h32
                try simp (disch := decide) only [ti_iv, ti_ivn, ti_n, ti_0, os_si, os_sj, va_up, upd, Nat.reduceEqDiff, reduceIte] at h32
                conv => whnf
                refine pm_gd (by decide) ?_
                refine hZ1 _ _ ?_
                conv => whnf
                refine pm_bf (cdf rfl) ?_
                conv => whnf
                refine pm_bf (cdf rfl) ?_
                conv => whnf
                refine pm_bf (cdf rfl) ?_
                conv => whnf
                refine hZ0 _ _ ?_
                first
                  | exact Or.inl ⟨by omega, rfl, rfl⟩
                  | exact Or.inr ⟨by omega, rfl, rfl⟩
      · have h28 := (nc_ne _ _).mp h28
        try simp (disch := decide) only [ti_iv, ti_ivn, ti_n, ti_0, os_si, os_sj, va_up, upd, Nat.reduceEqDiff, reduceIte] at h28
        conv => whnf
        refine hcl0 _ _ _ _ ?_
        refine S_People_has [] 400 rfl (fun R1 cl1 Z1 hR1 hcl1 hZ1 => ?_)
        conv => whnf
        refine ⟨fun h33 => ?_, fun h33 => ?_⟩
        · have h33 := (cc_lt _ _).mp h33
          try simp (disch := decide) only [ti_iv, ti_ivn, ti_n, ti_0, os_si, os_sj, va_up, upd, Nat.reduceEqDiff, reduceIte] at h33
          conv => whnf
          refine pm_gd (by decide) ?_
          refine hZ1 _ _ ?_
          conv => whnf
          refine pm_bt (cdt rfl) ?_
          conv => whnf
          refine hcl0 _ _ _ _ ?_
          refine S_PaidWhereMade_isSunday [] 400 rfl (fun R1 cl1 Z1 hR1 hcl1 hZ1 => ?_)
          conv => whnf
          refine ⟨fun h34 => ?_, fun h34 => ?_⟩
          · have h34 := (cc_lt _ _).mp h34
            try simp (disch := decide) only [ti_iv, ti_ivn, ti_n, ti_0, os_si, os_sj, va_up, upd, Nat.reduceEqDiff, reduceIte] at h34
            conv => whnf
            refine pm_gd (by decide) ?_
            refine hZ1 _ _ ?_
            conv => whnf
            refine pm_bt (cdt rfl) ?_
            conv => whnf
            refine hZ0 _ _ ?_
            first
              | exact Or.inl ⟨by omega, rfl, rfl⟩
              | exact Or.inr ⟨by omega, rfl, rfl⟩
          · have h34 := (nc_lt _ _).mp h34
            try simp (disch := decide) only [ti_iv, ti_ivn, ti_n, ti_0, os_si, os_sj, va_up, upd, Nat.reduceEqDiff, reduceIte] at h34
            conv => whnf
            refine ⟨fun h35 => ?_, fun h35 => ?_⟩
            · have h35 := (cc_gt _ _).mp h35
              try simp (disch := decide) only [ti_iv, ti_ivn, ti_n, ti_0, os_si, os_sj, va_up, upd, Nat.reduceEqDiff, reduceIte] at h35
              conv => whnf
              refine pm_gd (by decide) ?_
              refine hZ1 _ _ ?_
              conv => whnf
              refine pm_bt (cdt rfl) ?_
              conv => whnf
              refine hZ0 _ _ ?_
              first
                | exact Or.inl ⟨by omega, rfl, rfl⟩
                | exact Or.inr ⟨by omega, rfl, rfl⟩
            · have h35 := (nc_gt _ _).mp h35
              try simp (disch := decide) only [ti_iv, ti_ivn, ti_n, ti_0, os_si, os_sj, va_up, upd, Nat.reduceEqDiff, reduceIte] at h35
              conv => whnf
              refine pm_gd (by decide) ?_
              refine hZ1 _ _ ?_
              conv => whnf
              refine pm_bf (cdf rfl) ?_
              conv => whnf
              refine hcl0 _ _ _ _ ?_
              refine S_People_has [] 400 rfl (fun R1 cl1 Z1 hR1 hcl1 hZ1 => ?_)
              conv => whnf
              refine ⟨fun h36 => ?_, fun h36 => ?_⟩
              · have h36 := (cc_lt _ _).mp h36
                try simp (disch := decide) only [ti_iv, ti_ivn, ti_n, ti_0, os_si, os_sj, va_up, upd, Nat.reduceEqDiff, reduceIte] at h36
                conv => whnf
                refine pm_gd (by decide) ?_
                refine hZ1 _ _ ?_
                conv => whnf
                refine pm_bt (cdt rfl) ?_
                conv => whnf
                refine hZ0 _ _ ?_
                first
                  | exact Or.inl ⟨by omega, rfl, rfl⟩
                  | exact Or.inr ⟨by omega, rfl, rfl⟩
              · have h36 := (nc_lt _ _).mp h36
                try simp (disch := decide) only [ti_iv, ti_ivn, ti_n, ti_0, os_si, os_sj, va_up, upd, Nat.reduceEqDiff, reduceIte] at h36
                conv => whnf
                refine ⟨fun h37 => ?_, fun h37 => ?_⟩
                · have h37 := (cc_ge _ _).mp h37
                  try simp (disch := decide) only [ti_iv, ti_ivn, ti_n, ti_0, os_si, os_sj, va_up, upd, Nat.reduceEqDiff, reduceIte] at h37
                  conv => whnf
                  refine pm_gd (by decide) ?_
                  refine hZ1 _ _ ?_
                  conv => whnf
                  refine pm_bt (cdt rfl) ?_
                  conv => whnf
                  refine hZ0 _ _ ?_
                  first
                    | exact Or.inl ⟨by omega, rfl, rfl⟩
                    | exact Or.inr ⟨by omega, rfl, rfl⟩
                · have h37 := (nc_ge _ _).mp h37
                  try simp (disch := decide) only [ti_iv, ti_ivn, ti_n, ti_0, os_si, os_sj, va_up, upd, Nat.reduceEqDiff, reduceIte] at h37
                  conv => whnf
                  refine pm_gd (by decide) ?_
                  refine hZ1 _ _ ?_
                  conv => whnf
                  refine pm_bf (cdf rfl) ?_
                  conv => whnf
                  refine pm_bf (cdf rfl) ?_
                  conv => whnf
                  refine pm_bf (cdf rfl) ?_
                  conv => whnf
                  refine hZ0 _ _ ?_
                  first
                    | exact Or.inl ⟨by omega, rfl, rfl⟩
                    | exact Or.inr ⟨by omega, rfl, rfl⟩
        · have h33 := (nc_lt _ _).mp h33
          try simp (disch := decide) only [ti_iv, ti_ivn, ti_n, ti_0, os_si, os_sj, va_up, upd, Nat.reduceEqDiff, reduceIte] at h33
          conv => whnf
          refine ⟨fun h38 => ?_, fun h38 => ?_⟩
          · have h38 := (cc_ge _ _).mp h38
            try simp (disch := decide) only [ti_iv, ti_ivn, ti_n, ti_0, os_si, os_sj, va_up, upd, Nat.reduceEqDiff, reduceIte] at h38
            conv => whnf
            refine pm_gd (by decide) ?_
            refine hZ1 _ _ ?_
            conv => whnf
            refine pm_bt (cdt rfl) ?_
            conv => whnf
            refine hcl0 _ _ _ _ ?_
            refine S_PaidWhereMade_isSunday [] 400 rfl (fun R1 cl1 Z1 hR1 hcl1 hZ1 => ?_)
            conv => whnf
            refine ⟨fun h39 => ?_, fun h39 => ?_⟩
            · have h39 := (cc_lt _ _).mp h39
              try simp (disch := decide) only [ti_iv, ti_ivn, ti_n, ti_0, os_si, os_sj, va_up, upd, Nat.reduceEqDiff, reduceIte] at h39
              conv => whnf
              refine pm_gd (by decide) ?_
              refine hZ1 _ _ ?_
              conv => whnf
              refine pm_bt (cdt rfl) ?_
              conv => whnf
              refine hZ0 _ _ ?_
              first
                | exact Or.inl ⟨by omega, rfl, rfl⟩
                | exact Or.inr ⟨by omega, rfl, rfl⟩
            · have h39 := (nc_lt _ _).mp h39
              try simp (disch := decide) only [ti_iv, ti_ivn, ti_n, ti_0, os_si, os_sj, va_up, upd, Nat.reduceEqDiff, reduceIte] at h39
              conv => whnf
              refine ⟨fun h40 => ?_, fun h40 => ?_⟩
              · have h40 := (cc_gt _ _).mp h40
                try simp (disch := decide) only [ti_iv, ti_ivn, ti_n, ti_0, os_si, os_sj, va_up, upd, Nat.reduceEqDiff, reduceIte] at h40
                conv => whnf
                refine pm_gd (by decide) ?_
                refine hZ1 _ _ ?_
                conv => whnf
                refine pm_bt (cdt rfl) ?_
                conv => whnf
                refine hZ0 _ _ ?_
                first
                  | exact Or.inl ⟨by omega, rfl, rfl⟩
                  | exact Or.inr ⟨by omega, rfl, rfl⟩
              · have h40 := (nc_gt _ _).mp h40
                try simp (disch := decide) only [ti_iv, ti_ivn, ti_n, ti_0, os_si, os_sj, va_up, upd, Nat.reduceEqDiff, reduceIte] at h40
                conv => whnf
                refine pm_gd (by decide) ?_
                refine hZ1 _ _ ?_
                conv => whnf
                refine pm_bf (cdf rfl) ?_
                conv => whnf
                refine hcl0 _ _ _ _ ?_
                refine S_People_has [] 400 rfl (fun R1 cl1 Z1 hR1 hcl1 hZ1 => ?_)
                conv => whnf
                refine ⟨fun h41 => ?_, fun h41 => ?_⟩
                · have h41 := (cc_lt _ _).mp h41
                  try simp (disch := decide) only [ti_iv, ti_ivn, ti_n, ti_0, os_si, os_sj, va_up, upd, Nat.reduceEqDiff, reduceIte] at h41
                  conv => whnf
                  refine pm_gd (by decide) ?_
                  refine hZ1 _ _ ?_
                  conv => whnf
                  refine pm_bt (cdt rfl) ?_
                  conv => whnf
                  refine hZ0 _ _ ?_
                  first
                    | exact Or.inl ⟨by omega, rfl, rfl⟩
                    | exact Or.inr ⟨by omega, rfl, rfl⟩
                · have h41 := (nc_lt _ _).mp h41
                  try simp (disch := decide) only [ti_iv, ti_ivn, ti_n, ti_0, os_si, os_sj, va_up, upd, Nat.reduceEqDiff, reduceIte] at h41
                  conv => whnf
                  refine ⟨fun h42 => ?_, fun h42 => ?_⟩
                  · have h42 := (cc_ge _ _).mp h42
                    try simp (disch := decide) only [ti_iv, ti_ivn, ti_n, ti_0, os_si, os_sj, va_up, upd, Nat.reduceEqDiff, reduceIte] at h42
                    conv => whnf
                    refine pm_gd (by decide) ?_
                    refine hZ1 _ _ ?_
                    conv => whnf
                    refine pm_bt (cdt rfl) ?_
                    conv => whnf
                    refine hZ0 _ _ ?_
                    first
                      | exact Or.inl ⟨by omega, rfl, rfl⟩
                      | exact Or.inr ⟨by omega, rfl, rfl⟩
                  · have h42 := (nc_ge _ _).mp h42
                    try simp (disch := decide) only [ti_iv, ti_ivn, ti_n, ti_0, os_si, os_sj, va_up, upd, Nat.reduceEqDiff, reduceIte] at h42
                    conv => whnf
                    refine pm_gd (by decide) ?_
                    refine hZ1 _ _ ?_
                    conv => whnf
                    refine pm_bf (cdf rfl) ?_
                    conv => whnf
                    refine pm_bf (cdf rfl) ?_
                    conv => whnf
                    refine pm_bf (cdf rfl) ?_
                    conv => whnf
                    refine hZ0 _ _ ?_
                    first
                      | exact Or.inl ⟨by omega, rfl, rfl⟩
                      | exact Or.inr ⟨by omega, rfl, rfl⟩
          · have h38 := (nc_ge _ _).mp h38
            try simp (disch := decide) only [ti_iv, ti_ivn, ti_n, ti_0, os_si, os_sj, va_up, upd, Nat.reduceEqDiff, reduceIte] at h38
            conv => whnf
            refine pm_gd (by decide) ?_
            refine hZ1 _ _ ?_
            conv => whnf
            refine pm_bf (cdf rfl) ?_
            conv => whnf
            refine ⟨fun h43 => ?_, fun h43 => ?_⟩
            · have h43 := (cc_eq _ _).mp h43
              try simp (disch := decide) only [ti_iv, ti_ivn, ti_n, ti_0, os_si, os_sj, va_up, upd, Nat.reduceEqDiff, reduceIte] at h43
              conv => whnf
              refine hcl0 _ _ _ _ ?_
              refine S_PaidWhereMade_isSunday [] 400 rfl (fun R1 cl1 Z1 hR1 hcl1 hZ1 => ?_)
              conv => whnf
              refine ⟨fun h44 => ?_, fun h44 => ?_⟩
              · have h44 := (cc_lt _ _).mp h44
                try simp (disch := decide) only [ti_iv, ti_ivn, ti_n, ti_0, os_si, os_sj, va_up, upd, Nat.reduceEqDiff, reduceIte] at h44
                conv => whnf
                refine pm_gd (by decide) ?_
                refine hZ1 _ _ ?_
                conv => whnf
                refine pm_bt (cdt rfl) ?_
                conv => whnf
                refine hZ0 _ _ ?_
                first
                  | exact Or.inl ⟨by omega, rfl, rfl⟩
                  | exact Or.inr ⟨by omega, rfl, rfl⟩
              · have h44 := (nc_lt _ _).mp h44
                try simp (disch := decide) only [ti_iv, ti_ivn, ti_n, ti_0, os_si, os_sj, va_up, upd, Nat.reduceEqDiff, reduceIte] at h44
                conv => whnf
                refine ⟨fun h45 => ?_, fun h45 => ?_⟩
                · have h45 := (cc_gt _ _).mp h45
                  try simp (disch := decide) only [ti_iv, ti_ivn, ti_n, ti_0, os_si, os_sj, va_up, upd, Nat.reduceEqDiff, reduceIte] at h45
                  conv => whnf
                  refine pm_gd (by decide) ?_
                  refine hZ1 _ _ ?_
                  conv => whnf
                  refine pm_bt (cdt rfl) ?_
                  conv => whnf
                  refine hZ0 _ _ ?_
                  first
                    | exact Or.inl ⟨by omega, rfl, rfl⟩
                    | exact Or.inr ⟨by omega, rfl, rfl⟩
                · have h45 := (nc_gt _ _).mp h45
                  try simp (disch := decide) only [ti_iv, ti_ivn, ti_n, ti_0, os_si, os_sj, va_up, upd, Nat.reduceEqDiff, reduceIte] at h45
                  conv => whnf
                  refine pm_gd (by decide) ?_
                  refine hZ1 _ _ ?_
                  conv => whnf
                  refine pm_bf (cdf rfl) ?_
                  conv => whnf
                  refine hcl0 _ _ _ _ ?_
                  refine S_People_has [] 400 rfl (fun R1 cl1 Z1 hR1 hcl1 hZ1 => ?_)
                  conv => whnf
                  refine ⟨fun h46 => ?_, fun h46 => ?_⟩
                  · have h46 := (cc_lt _ _).mp h46
                    try simp (disch := decide) only [ti_iv, ti_ivn, ti_n, ti_0, os_si, os_sj, va_up, upd, Nat.reduceEqDiff, reduceIte] at h46
                    conv => whnf
                    refine pm_gd (by decide) ?_
                    refine hZ1 _ _ ?_
                    conv => whnf
                    refine pm_bt (cdt rfl) ?_
                    conv => whnf
                    refine hZ0 _ _ ?_
                    first
                      | exact Or.inl ⟨by omega, rfl, rfl⟩
                      | exact Or.inr ⟨by omega, rfl, rfl⟩
                  · have h46 := (nc_lt _ _).mp h46
                    try simp (disch := decide) only [ti_iv, ti_ivn, ti_n, ti_0, os_si, os_sj, va_up, upd, Nat.reduceEqDiff, reduceIte] at h46
                    conv => whnf
                    refine ⟨fun h47 => ?_, fun h47 => ?_⟩
                    · have h47 := (cc_ge _ _).mp h47
                      try simp (disch := decide) only [ti_iv, ti_ivn, ti_n, ti_0, os_si, os_sj, va_up, upd, Nat.reduceEqDiff, reduceIte] at h47
                      conv => whnf
                      refine pm_gd (by decide) ?_
                      refine hZ1 _ _ ?_
                      conv => whnf
                      refine pm_bt (cdt rfl) ?_
                      conv => whnf
                      refine hZ0 _ _ ?_
                      first
                        | exact Or.inl ⟨by omega, rfl, rfl⟩
                        | exact Or.inr ⟨by omega, rfl, rfl⟩
                    · have h47 := (nc_ge _ _).mp h47
                      try simp (disch := decide) only [ti_iv, ti_ivn, ti_n, ti_0, os_si, os_sj, va_up, upd, Nat.reduceEqDiff, reduceIte] at h47
                      conv => whnf
                      refine pm_gd (by decide) ?_
                      refine hZ1 _ _ ?_
                      conv => whnf
                      refine pm_bf (cdf rfl) ?_
                      conv => whnf
                      refine pm_bf (cdf rfl) ?_
                      conv => whnf
                      refine pm_bf (cdf rfl) ?_
                      conv => whnf
                      refine hZ0 _ _ ?_
                      first
                        | exact Or.inl ⟨by omega, rfl, rfl⟩
                        | exact Or.inr ⟨by omega, rfl, rfl⟩
            · have h43 := (nc_eq _ _).mp h43
              try simp (disch := decide) only [ti_iv, ti_ivn, ti_n, ti_0, os_si, os_sj, va_up, upd, Nat.reduceEqDiff, reduceIte] at h43
              conv => whnf
              refine hcl0 _ _ _ _ ?_
              refine S_PaidWhereMade_isSunday [] 400 rfl (fun R1 cl1 Z1 hR1 hcl1 hZ1 => ?_)
              conv => whnf
              refine ⟨fun h48 => ?_, fun h48 => ?_⟩
              · have h48 := (cc_lt _ _).mp h48
                try simp (disch := decide) only [ti_iv, ti_ivn, ti_n, ti_0, os_si, os_sj, va_up, upd, Nat.reduceEqDiff, reduceIte] at h48
                conv => whnf
                refine pm_gd (by decide) ?_
                refine hZ1 _ _ ?_
                conv => whnf
                refine pm_bt (cdt rfl) ?_
                conv => whnf
                refine hZ0 _ _ ?_
                first
                  | exact Or.inl ⟨by omega, rfl, rfl⟩
                  | exact Or.inr ⟨by omega, rfl, rfl⟩
              · have h48 := (nc_lt _ _).mp h48
                try simp (disch := decide) only [ti_iv, ti_ivn, ti_n, ti_0, os_si, os_sj, va_up, upd, Nat.reduceEqDiff, reduceIte] at h48
                conv => whnf
                refine ⟨fun h49 => ?_, fun h49 => ?_⟩
                · have h49 := (cc_gt _ _).mp h49
                  try simp (disch := decide) only [ti_iv, ti_ivn, ti_n, ti_0, os_si, os_sj, va_up, upd, Nat.reduceEqDiff, reduceIte] at h49
                  conv => whnf
                  refine pm_gd (by decide) ?_
                  refine hZ1 _ _ ?_
                  conv => whnf
                  refine pm_bt (cdt rfl) ?_
                  conv => whnf
                  refine hZ0 _ _ ?_
                  first
                    | exact Or.inl ⟨by omega, rfl, rfl⟩
                    | exact Or.inr ⟨by omega, rfl, rfl⟩
                · have h49 := (nc_gt _ _).mp h49
                  try simp (disch := decide) only [ti_iv, ti_ivn, ti_n, ti_0, os_si, os_sj, va_up, upd, Nat.reduceEqDiff, reduceIte] at h49
                  conv => whnf
                  refine pm_gd (by decide) ?_
                  refine hZ1 _ _ ?_
                  conv => whnf
                  refine pm_bf (cdf rfl) ?_
                  conv => whnf
                  refine hcl0 _ _ _ _ ?_
                  refine S_People_has [] 400 rfl (fun R1 cl1 Z1 hR1 hcl1 hZ1 => ?_)
                  conv => whnf
                  refine ⟨fun h50 => ?_, fun h50 => ?_⟩
                  · have h50 := (cc_lt _ _).mp h50
                    try simp (disch := decide) only [ti_iv, ti_ivn, ti_n, ti_0, os_si, os_sj, va_up, upd, Nat.reduceEqDiff, reduceIte] at h50
                    conv => whnf
                    refine pm_gd (by decide) ?_
                    refine hZ1 _ _ ?_
                    conv => whnf
                    refine pm_bt (cdt rfl) ?_
                    conv => whnf
                    refine hZ0 _ _ ?_
                    first
                      | exact Or.inl ⟨by omega, rfl, rfl⟩
                      | exact Or.inr ⟨by omega, rfl, rfl⟩
                  · have h50 := (nc_lt _ _).mp h50
                    try simp (disch := decide) only [ti_iv, ti_ivn, ti_n, ti_0, os_si, os_sj, va_up, upd, Nat.reduceEqDiff, reduceIte] at h50
                    conv => whnf
                    refine ⟨fun h51 => ?_, fun h51 => ?_⟩
                    · have h51 := (cc_ge _ _).mp h51
                      try simp (disch := decide) only [ti_iv, ti_ivn, ti_n, ti_0, os_si, os_sj, va_up, upd, Nat.reduceEqDiff, reduceIte] at h51
                      conv => whnf
                      refine pm_gd (by decide) ?_
                      refine hZ1 _ _ ?_
                      conv => whnf
                      refine pm_bt (cdt rfl) ?_
                      conv => whnf
                      refine hZ0 _ _ ?_
                      first
                        | exact Or.inl ⟨by omega, rfl, rfl⟩
                        | exact Or.inr ⟨by omega, rfl, rfl⟩
                    · have h51 := (nc_ge _ _).mp h51
                      try simp (disch := decide) only [ti_iv, ti_ivn, ti_n, ti_0, os_si, os_sj, va_up, upd, Nat.reduceEqDiff, reduceIte] at h51
                      conv => whnf
                      refine pm_gd (by decide) ?_
                      refine hZ1 _ _ ?_
                      conv => whnf
                      refine pm_bf (cdf rfl) ?_
                      conv => whnf
                      refine pm_bf (cdf rfl) ?_
                      conv => whnf
                      refine pm_bt (cdt rfl) ?_
                      conv => whnf
                      refine hcl0 _ _ _ _ ?_
                      refine S_Lines_add [] 400 rfl (fun R1 cl1 Z1 hR1 hcl1 hZ1 => ?_)
                      conv => whnf
                      refine ⟨fun h52 => ?_, fun h52 => ?_⟩
                      · have h52 := (cc_lt _ _).mp h52
                        try simp (disch := decide) only [ti_iv, ti_ivn, ti_n, ti_0, os_si, os_sj, va_up, upd, Nat.reduceEqDiff, reduceIte] at h52
                        conv => whnf
                        refine pm_gd (gI (by (try simp (disch := decide) only [ti_iv, ti_ivn, ti_n, ti_0, os_si, os_sj, va_up, upd, Nat.reduceEqDiff, reduceIte]); omega) (by (try simp (disch := decide) only [ti_iv, ti_ivn, ti_n, ti_0, os_si, os_sj, va_up, upd, Nat.reduceEqDiff, reduceIte]); omega)) ?_
                        conv => whnf
                        refine pm_gd (gI (by (try simp (disch := decide) only [ti_iv, ti_ivn, ti_n, ti_0, os_si, os_sj, va_up, upd, Nat.reduceEqDiff, reduceIte]); omega) (by (try simp (disch := decide) only [ti_iv, ti_ivn, ti_n, ti_0, os_si, os_sj, va_up, upd, Nat.reduceEqDiff, reduceIte]); omega)) ?_
                        conv => whnf
                        refine pm_gd (gI (by (try simp (disch := decide) only [ti_iv, ti_ivn, ti_n, ti_0, os_si, os_sj, va_up, upd, Nat.reduceEqDiff, reduceIte]); omega) (by (try simp (disch := decide) only [ti_iv, ti_ivn, ti_n, ti_0, os_si, os_sj, va_up, upd, Nat.reduceEqDiff, reduceIte]); omega)) ?_
                        conv => whnf
                        refine pm_gd (gI (by (try simp (disch := decide) only [ti_iv, ti_ivn, ti_n, ti_0, os_si, os_sj, va_up, upd, Nat.reduceEqDiff, reduceIte]); omega) (by (try simp (disch := decide) only [ti_iv, ti_ivn, ti_n, ti_0, os_si, os_sj, va_up, upd, Nat.reduceEqDiff, reduceIte]); omega)) ?_
                        conv => whnf
                        refine hZ1 _ _ ?_
                        conv => whnf
                        refine hZ0 _ _ ?_
                        first
                          | exact Or.inl ⟨by omega, rfl, rfl⟩
                          | exact Or.inr ⟨by omega, rfl, rfl⟩
                      · have h52 := (nc_lt _ _).mp h52
                        try simp (disch := decide) only [ti_iv, ti_ivn, ti_n, ti_0, os_si, os_sj, va_up, upd, Nat.reduceEqDiff, reduceIte] at h52
                        conv => whnf
                        refine hZ1 _ _ ?_
                        conv => whnf
                        refine hZ0 _ _ ?_
                        first
                          | exact Or.inl ⟨by omega, rfl, rfl⟩
                          | exact Or.inr ⟨by omega, rfl, rfl⟩
    · have h27 := (nc_lt _ _).mp h27
      try simp (disch := decide) only [ti_iv, ti_ivn, ti_n, ti_0, os_si, os_sj, va_up, upd, Nat.reduceEqDiff, reduceIte] at h27
      conv => whnf
      refine ⟨fun h53 => ?_, fun h53 => ?_⟩
      · have h53 := (cc_ge _ _).mp h53
        try simp (disch := decide) only [ti_iv, ti_ivn, ti_n, ti_0, os_si, os_sj, va_up, upd, Nat.reduceEqDiff, reduceIte] at h53
        conv => whnf
        refine pm_gd (by decide) ?_
        refine hZ1 _ _ ?_
        conv => whnf
        refine pm_bt (cdt rfl) ?_
        conv => whnf
        refine ⟨fun h54 => ?_, fun h54 => ?_⟩
        · have h54 := (cc_ne _ _).mp h54
          try simp (disch := decide) only [ti_iv, ti_ivn, ti_n, ti_0, os_si, os_sj, va_up, upd, Nat.reduceEqDiff, reduceIte] at h54
          conv => whnf
          refine hcl0 _ _ _ _ ?_
          refine S_PaidWhereMade_isSunday [] 400 rfl (fun R1 cl1 Z1 hR1 hcl1 hZ1 => ?_)
          conv => whnf
          refine ⟨fun h55 => ?_, fun h55 => ?_⟩
          · have h55 := (cc_lt _ _).mp h55
            try simp (disch := decide) only [ti_iv, ti_ivn, ti_n, ti_0, os_si, os_sj, va_up, upd, Nat.reduceEqDiff, reduceIte] at h55
            conv => whnf
            refine pm_gd (by decide) ?_
            refine hZ1 _ _ ?_
            conv => whnf
            refine pm_bt (cdt rfl) ?_
            conv => whnf
            refine hZ0 _ _ ?_
            first
              | exact Or.inl ⟨by omega, rfl, rfl⟩
              | exact Or.inr ⟨by omega, rfl, rfl⟩
          · have h55 := (nc_lt _ _).mp h55
            try simp (disch := decide) only [ti_iv, ti_ivn, ti_n, ti_0, os_si, os_sj, va_up, upd, Nat.reduceEqDiff, reduceIte] at h55
            conv => whnf
            refine ⟨fun h56 => ?_, fun h56 => ?_⟩
            · have h56 := (cc_gt _ _).mp h56
              try simp (disch := decide) only [ti_iv, ti_ivn, ti_n, ti_0, os_si, os_sj, va_up, upd, Nat.reduceEqDiff, reduceIte] at h56
              conv => whnf
              refine pm_gd (by decide) ?_
              refine hZ1 _ _ ?_
              conv => whnf
              refine pm_bt (cdt rfl) ?_
              conv => whnf
              refine hZ0 _ _ ?_
              first
                | exact Or.inl ⟨by omega, rfl, rfl⟩
                | exact Or.inr ⟨by omega, rfl, rfl⟩
            · have h56 := (nc_gt _ _).mp h56
              try simp (disch := decide) only [ti_iv, ti_ivn, ti_n, ti_0, os_si, os_sj, va_up, upd, Nat.reduceEqDiff, reduceIte] at h56
              conv => whnf
              refine pm_gd (by decide) ?_
              refine hZ1 _ _ ?_
              conv => whnf
              refine pm_bf (cdf rfl) ?_
              conv => whnf
              refine hcl0 _ _ _ _ ?_
              refine S_People_has [] 400 rfl (fun R1 cl1 Z1 hR1 hcl1 hZ1 => ?_)
              conv => whnf
              refine ⟨fun h57 => ?_, fun h57 => ?_⟩
              · have h57 := (cc_lt _ _).mp h57
                try simp (disch := decide) only [ti_iv, ti_ivn, ti_n, ti_0, os_si, os_sj, va_up, upd, Nat.reduceEqDiff, reduceIte] at h57
                conv => whnf
                refine pm_gd (by decide) ?_
                refine hZ1 _ _ ?_
                conv => whnf
                refine pm_bt (cdt rfl) ?_
                conv => whnf
                refine hZ0 _ _ ?_
                first
                  | exact Or.inl ⟨by omega, rfl, rfl⟩
                  | exact Or.inr ⟨by omega, rfl, rfl⟩
              · have h57 := (nc_lt _ _).mp h57
                try simp (disch := decide) only [ti_iv, ti_ivn, ti_n, ti_0, os_si, os_sj, va_up, upd, Nat.reduceEqDiff, reduceIte] at h57
                conv => whnf
                refine ⟨fun h58 => ?_, fun h58 => ?_⟩
                · have h58 := (cc_ge _ _).mp h58
                  try simp (disch := decide) only [ti_iv, ti_ivn, ti_n, ti_0, os_si, os_sj, va_up, upd, Nat.reduceEqDiff, reduceIte] at h58
                  conv => whnf
                  refine pm_gd (by decide) ?_
                  refine hZ1 _ _ ?_
                  conv => whnf
                  refine pm_bt (cdt rfl) ?_
                  conv => whnf
                  refine hZ0 _ _ ?_
                  first
                    | exact Or.inl ⟨by omega, rfl, rfl⟩
                    | exact Or.inr ⟨by omega, rfl, rfl⟩
                · have h58 := (nc_ge _ _).mp h58
                  try simp (disch := decide) only [ti_iv, ti_ivn, ti_n, ti_0, os_si, os_sj, va_up, upd, Nat.reduceEqDiff, reduceIte] at h58
                  conv => whnf
                  refine pm_gd (by decide) ?_
                  refine hZ1 _ _ ?_
                  conv => whnf
                  refine pm_bf (cdf rfl) ?_
                  conv => whnf
                  refine pm_bf (cdf rfl) ?_
                  conv => whnf
                  refine pm_bf (cdf rfl) ?_
                  conv => whnf
                  refine hZ0 _ _ ?_
                  first
                    | exact Or.inl ⟨by omega, rfl, rfl⟩
                    | exact Or.inr ⟨by omega, rfl, rfl⟩
        · have h54 := (nc_ne _ _).mp h54
          try simp (disch := decide) only [ti_iv, ti_ivn, ti_n, ti_0, os_si, os_sj, va_up, upd, Nat.reduceEqDiff, reduceIte] at h54
          conv => whnf
          refine hcl0 _ _ _ _ ?_
          refine S_People_has [] 400 rfl (fun R1 cl1 Z1 hR1 hcl1 hZ1 => ?_)
          conv => whnf
          refine ⟨fun h59 => ?_, fun h59 => ?_⟩
          · have h59 := (cc_lt _ _).mp h59
            try simp (disch := decide) only [ti_iv, ti_ivn, ti_n, ti_0, os_si, os_sj, va_up, upd, Nat.reduceEqDiff, reduceIte] at h59
            conv => whnf
            refine pm_gd (by decide) ?_
            refine hZ1 _ _ ?_
            conv => whnf
            refine pm_bt (cdt rfl) ?_
            conv => whnf
            refine hcl0 _ _ _ _ ?_
            refine S_PaidWhereMade_isSunday [] 400 rfl (fun R1 cl1 Z1 hR1 hcl1 hZ1 => ?_)
            conv => whnf
            refine ⟨fun h60 => ?_, fun h60 => ?_⟩
            · have h60 := (cc_lt _ _).mp h60
              try simp (disch := decide) only [ti_iv, ti_ivn, ti_n, ti_0, os_si, os_sj, va_up, upd, Nat.reduceEqDiff, reduceIte] at h60
              conv => whnf
              refine pm_gd (by decide) ?_
              refine hZ1 _ _ ?_
              conv => whnf
              refine pm_bt (cdt rfl) ?_
              conv => whnf
              refine hZ0 _ _ ?_
              first
                | exact Or.inl ⟨by omega, rfl, rfl⟩
                | exact Or.inr ⟨by omega, rfl, rfl⟩
            · have h60 := (nc_lt _ _).mp h60
              try simp (disch := decide) only [ti_iv, ti_ivn, ti_n, ti_0, os_si, os_sj, va_up, upd, Nat.reduceEqDiff, reduceIte] at h60
              conv => whnf
              refine ⟨fun h61 => ?_, fun h61 => ?_⟩
              · have h61 := (cc_gt _ _).mp h61
                try simp (disch := decide) only [ti_iv, ti_ivn, ti_n, ti_0, os_si, os_sj, va_up, upd, Nat.reduceEqDiff, reduceIte] at h61
                conv => whnf
                refine pm_gd (by decide) ?_
                refine hZ1 _ _ ?_
                conv => whnf
                refine pm_bt (cdt rfl) ?_
                conv => whnf
                refine hZ0 _ _ ?_
                first
                  | exact Or.inl ⟨by omega, rfl, rfl⟩
                  | exact Or.inr ⟨by omega, rfl, rfl⟩
              · have h61 := (nc_gt _ _).mp h61
                try simp (disch := decide) only [ti_iv, ti_ivn, ti_n, ti_0, os_si, os_sj, va_up, upd, Nat.reduceEqDiff, reduceIte] at h61
                conv => whnf
                refine pm_gd (by decide) ?_
                refine hZ1 _ _ ?_
                conv => whnf
                refine pm_bf (cdf rfl) ?_
                conv => whnf
                refine hcl0 _ _ _ _ ?_
                refine S_People_has [] 400 rfl (fun R1 cl1 Z1 hR1 hcl1 hZ1 => ?_)
                conv => whnf
                refine ⟨fun h62 => ?_, fun h62 => ?_⟩
                · have h62 := (cc_lt _ _).mp h62
                  try simp (disch := decide) only [ti_iv, ti_ivn, ti_n, ti_0, os_si, os_sj, va_up, upd, Nat.reduceEqDiff, reduceIte] at h62
                  conv => whnf
                  refine pm_gd (by decide) ?_
                  refine hZ1 _ _ ?_
                  conv => whnf
                  refine pm_bt (cdt rfl) ?_
                  conv => whnf
                  refine hZ0 _ _ ?_
                  first
                    | exact Or.inl ⟨by omega, rfl, rfl⟩
                    | exact Or.inr ⟨by omega, rfl, rfl⟩
                · have h62 := (nc_lt _ _).mp h62
                  try simp (disch := decide) only [ti_iv, ti_ivn, ti_n, ti_0, os_si, os_sj, va_up, upd, Nat.reduceEqDiff, reduceIte] at h62
                  conv => whnf
                  refine ⟨fun h63 => ?_, fun h63 => ?_⟩
                  · have h63 := (cc_ge _ _).mp h63
                    try simp (disch := decide) only [ti_iv, ti_ivn, ti_n, ti_0, os_si, os_sj, va_up, upd, Nat.reduceEqDiff, reduceIte] at h63
                    conv => whnf
                    refine pm_gd (by decide) ?_
                    refine hZ1 _ _ ?_
                    conv => whnf
                    refine pm_bt (cdt rfl) ?_
                    conv => whnf
                    refine hZ0 _ _ ?_
                    first
                      | exact Or.inl ⟨by omega, rfl, rfl⟩
                      | exact Or.inr ⟨by omega, rfl, rfl⟩
                  · have h63 := (nc_ge _ _).mp h63
                    try simp (disch := decide) only [ti_iv, ti_ivn, ti_n, ti_0, os_si, os_sj, va_up, upd, Nat.reduceEqDiff, reduceIte] at h63
                    conv => whnf
                    refine pm_gd (by decide) ?_
                    refine hZ1 _ _ ?_
                    conv => whnf
                    refine pm_bf (cdf rfl) ?_
                    conv => whnf
                    refine pm_bf (cdf rfl) ?_
                    conv => whnf
                    refine pm_bf (cdf rfl) ?_
                    conv => whnf
                    refine hZ0 _ _ ?_
                    first
                      | exact Or.inl ⟨by omega, rfl, rfl⟩
                      | exact Or.inr ⟨by omega, rfl, rfl⟩
          · have h59 := (nc_lt _ _).mp h59
            try simp (disch := decide) only [ti_iv, ti_ivn, ti_n, ti_0, os_si, os_sj, va_up, upd, Nat.reduceEqDiff, reduceIte] at h59
            conv => whnf
            refine ⟨fun h64 => ?_, fun h64 => ?_⟩
            · have h64 := (cc_ge _ _).mp h64
              try simp (disch := decide) only [ti_iv, ti_ivn, ti_n, ti_0, os_si, os_sj, va_up, upd, Nat.reduceEqDiff, reduceIte] at h64
              conv => whnf
              refine pm_gd (by decide) ?_
              refine hZ1 _ _ ?_
              conv => whnf
              refine pm_bt (cdt rfl) ?_
              conv => whnf
              refine hcl0 _ _ _ _ ?_
              refine S_PaidWhereMade_isSunday [] 400 rfl (fun R1 cl1 Z1 hR1 hcl1 hZ1 => ?_)
              conv => whnf
              refine ⟨fun h65 => ?_, fun h65 => ?_⟩
              · have h65 := (cc_lt _ _).mp h65
                try simp (disch := decide) only [ti_iv, ti_ivn, ti_n, ti_0, os_si, os_sj, va_up, upd, Nat.reduceEqDiff, reduceIte] at h65
                conv => whnf
                refine pm_gd (by decide) ?_
                refine hZ1 _ _ ?_
                conv => whnf
                refine pm_bt (cdt rfl) ?_
                conv => whnf
                refine hZ0 _ _ ?_
                first
                  | exact Or.inl ⟨by omega, rfl, rfl⟩
                  | exact Or.inr ⟨by omega, rfl, rfl⟩
              · have h65 := (nc_lt _ _).mp h65
                try simp (disch := decide) only [ti_iv, ti_ivn, ti_n, ti_0, os_si, os_sj, va_up, upd, Nat.reduceEqDiff, reduceIte] at h65
                conv => whnf
                refine ⟨fun h66 => ?_, fun h66 => ?_⟩
                · have h66 := (cc_gt _ _).mp h66
                  try simp (disch := decide) only [ti_iv, ti_ivn, ti_n, ti_0, os_si, os_sj, va_up, upd, Nat.reduceEqDiff, reduceIte] at h66
                  conv => whnf
                  refine pm_gd (by decide) ?_
                  refine hZ1 _ _ ?_
                  conv => whnf
                  refine pm_bt (cdt rfl) ?_
                  conv => whnf
                  refine hZ0 _ _ ?_
                  first
                    | exact Or.inl ⟨by omega, rfl, rfl⟩
                    | exact Or.inr ⟨by omega, rfl, rfl⟩
                · have h66 := (nc_gt _ _).mp h66
                  try simp (disch := decide) only [ti_iv, ti_ivn, ti_n, ti_0, os_si, os_sj, va_up, upd, Nat.reduceEqDiff, reduceIte] at h66
                  conv => whnf
                  refine pm_gd (by decide) ?_
                  refine hZ1 _ _ ?_
                  conv => whnf
                  refine pm_bf (cdf rfl) ?_
                  conv => whnf
                  refine hcl0 _ _ _ _ ?_
                  refine S_People_has [] 400 rfl (fun R1 cl1 Z1 hR1 hcl1 hZ1 => ?_)
                  conv => whnf
                  refine ⟨fun h67 => ?_, fun h67 => ?_⟩
                  · have h67 := (cc_lt _ _).mp h67
                    try simp (disch := decide) only [ti_iv, ti_ivn, ti_n, ti_0, os_si, os_sj, va_up, upd, Nat.reduceEqDiff, reduceIte] at h67
                    conv => whnf
                    refine pm_gd (by decide) ?_
                    refine hZ1 _ _ ?_
                    conv => whnf
                    refine pm_bt (cdt rfl) ?_
                    conv => whnf
                    refine hZ0 _ _ ?_
                    first
                      | exact Or.inl ⟨by omega, rfl, rfl⟩
                      | exact Or.inr ⟨by omega, rfl, rfl⟩
                  · have h67 := (nc_lt _ _).mp h67
                    try simp (disch := decide) only [ti_iv, ti_ivn, ti_n, ti_0, os_si, os_sj, va_up, upd, Nat.reduceEqDiff, reduceIte] at h67
                    conv => whnf
                    refine ⟨fun h68 => ?_, fun h68 => ?_⟩
                    · have h68 := (cc_ge _ _).mp h68
                      try simp (disch := decide) only [ti_iv, ti_ivn, ti_n, ti_0, os_si, os_sj, va_up, upd, Nat.reduceEqDiff, reduceIte] at h68
                      conv => whnf
                      refine pm_gd (by decide) ?_
                      refine hZ1 _ _ ?_
                      conv => whnf
                      refine pm_bt (cdt rfl) ?_
                      conv => whnf
                      refine hZ0 _ _ ?_
                      first
                        | exact Or.inl ⟨by omega, rfl, rfl⟩
                        | exact Or.inr ⟨by omega, rfl, rfl⟩
                    · have h68 := (nc_ge _ _).mp h68
                      try simp (disch := decide) only [ti_iv, ti_ivn, ti_n, ti_0, os_si, os_sj, va_up, upd, Nat.reduceEqDiff, reduceIte] at h68
                      conv => whnf
                      refine pm_gd (by decide) ?_
                      refine hZ1 _ _ ?_
                      conv => whnf
                      refine pm_bf (cdf rfl) ?_
                      conv => whnf
                      refine pm_bf (cdf rfl) ?_
                      conv => whnf
                      refine pm_bf (cdf rfl) ?_
                      conv => whnf
                      refine hZ0 _ _ ?_
                      first
                        | exact Or.inl ⟨by omega, rfl, rfl⟩
                        | exact Or.inr ⟨by omega, rfl, rfl⟩
            · have h64 := (nc_ge _ _).mp h64
              try simp (disch := decide) only [ti_iv, ti_ivn, ti_n, ti_0, os_si, os_sj, va_up, upd, Nat.reduceEqDiff, reduceIte] at h64
              conv => whnf
              refine pm_gd (by decide) ?_
              refine hZ1 _ _ ?_
              conv => whnf
              refine pm_bf (cdf rfl) ?_
              conv => whnf
              refine ⟨fun h69 => ?_, fun h69 => ?_⟩
              · have h69 := (cc_eq _ _).mp h69
                try simp (disch := decide) only [ti_iv, ti_ivn, ti_n, ti_0, os_si, os_sj, va_up, upd, Nat.reduceEqDiff, reduceIte] at h69
                conv => whnf
                refine hcl0 _ _ _ _ ?_
                refine S_PaidWhereMade_isSunday [] 400 rfl (fun R1 cl1 Z1 hR1 hcl1 hZ1 => ?_)
                conv => whnf
                refine ⟨fun h70 => ?_, fun h70 => ?_⟩
                · have h70 := (cc_lt _ _).mp h70
                  try simp (disch := decide) only [ti_iv, ti_ivn, ti_n, ti_0, os_si, os_sj, va_up, upd, Nat.reduceEqDiff, reduceIte] at h70
                  conv => whnf
                  refine pm_gd (by decide) ?_
                  refine hZ1 _ _ ?_
                  conv => whnf
                  refine pm_bt (cdt rfl) ?_
                  conv => whnf
                  refine hZ0 _ _ ?_
                  first
                    | exact Or.inl ⟨by omega, rfl, rfl⟩
                    | exact Or.inr ⟨by omega, rfl, rfl⟩
                · have h70 := (nc_lt _ _).mp h70
                  try simp (disch := decide) only [ti_iv, ti_ivn, ti_n, ti_0, os_si, os_sj, va_up, upd, Nat.reduceEqDiff, reduceIte] at h70
                  conv => whnf
                  refine ⟨fun h71 => ?_, fun h71 => ?_⟩
                  · have h71 := (cc_gt _ _).mp h71
                    try simp (disch := decide) only [ti_iv, ti_ivn, ti_n, ti_0, os_si, os_sj, va_up, upd, Nat.reduceEqDiff, reduceIte] at h71
                    conv => whnf
                    refine pm_gd (by decide) ?_
                    refine hZ1 _ _ ?_
                    conv => whnf
                    refine pm_bt (cdt rfl) ?_
                    conv => whnf
                    refine hZ0 _ _ ?_
                    first
                      | exact Or.inl ⟨by omega, rfl, rfl⟩
                      | exact Or.inr ⟨by omega, rfl, rfl⟩
                  · have h71 := (nc_gt _ _).mp h71
                    try simp (disch := decide) only [ti_iv, ti_ivn, ti_n, ti_0, os_si, os_sj, va_up, upd, Nat.reduceEqDiff, reduceIte] at h71
                    conv => whnf
                    refine pm_gd (by decide) ?_
                    refine hZ1 _ _ ?_
                    conv => whnf
                    refine pm_bf (cdf rfl) ?_
                    conv => whnf
                    refine hcl0 _ _ _ _ ?_
                    refine S_People_has [] 400 rfl (fun R1 cl1 Z1 hR1 hcl1 hZ1 => ?_)
                    conv => whnf
                    refine ⟨fun h72 => ?_, fun h72 => ?_⟩
                    · have h72 := (cc_lt _ _).mp h72
                      try simp (disch := decide) only [ti_iv, ti_ivn, ti_n, ti_0, os_si, os_sj, va_up, upd, Nat.reduceEqDiff, reduceIte] at h72
                      conv => whnf
                      refine pm_gd (by decide) ?_
                      refine hZ1 _ _ ?_
                      conv => whnf
                      refine pm_bt (cdt rfl) ?_
                      conv => whnf
                      refine hZ0 _ _ ?_
                      first
                        | exact Or.inl ⟨by omega, rfl, rfl⟩
                        | exact Or.inr ⟨by omega, rfl, rfl⟩
                    · have h72 := (nc_lt _ _).mp h72
                      try simp (disch := decide) only [ti_iv, ti_ivn, ti_n, ti_0, os_si, os_sj, va_up, upd, Nat.reduceEqDiff, reduceIte] at h72
                      conv => whnf
                      refine ⟨fun h73 => ?_, fun h73 => ?_⟩
                      · have h73 := (cc_ge _ _).mp h73
                        try simp (disch := decide) only [ti_iv, ti_ivn, ti_n, ti_0, os_si, os_sj, va_up, upd, Nat.reduceEqDiff, reduceIte] at h73
                        conv => whnf
                        refine pm_gd (by decide) ?_
                        refine hZ1 _ _ ?_
                        conv => whnf
                        refine pm_bt (cdt rfl) ?_
                        conv => whnf
                        refine hZ0 _ _ ?_
                        first
                          | exact Or.inl ⟨by omega, rfl, rfl⟩
                          | exact Or.inr ⟨by omega, rfl, rfl⟩
                      · have h73 := (nc_ge _ _).mp h73
                        try simp (disch := decide) only [ti_iv, ti_ivn, ti_n, ti_0, os_si, os_sj, va_up, upd, Nat.reduceEqDiff, reduceIte] at h73
                        conv => whnf
                        refine pm_gd (by decide) ?_
                        refine hZ1 _ _ ?_
                        conv => whnf
                        refine pm_bf (cdf rfl) ?_
                        conv => whnf
                        refine pm_bf (cdf rfl) ?_
                        conv => whnf
                        refine pm_bf (cdf rfl) ?_
                        conv => whnf
                        refine hZ0 _ _ ?_
                        first
                          | exact Or.inl ⟨by omega, rfl, rfl⟩
                          | exact Or.inr ⟨by omega, rfl, rfl⟩
              · have h69 := (nc_eq _ _).mp h69
                try simp (disch := decide) only [ti_iv, ti_ivn, ti_n, ti_0, os_si, os_sj, va_up, upd, Nat.reduceEqDiff, reduceIte] at h69
                conv => whnf
                refine hcl0 _ _ _ _ ?_
                refine S_PaidWhereMade_isSunday [] 400 rfl (fun R1 cl1 Z1 hR1 hcl1 hZ1 => ?_)
                conv => whnf
                refine ⟨fun h74 => ?_, fun h74 => ?_⟩
                · have h74 := (cc_lt _ _).mp h74
                  try simp (disch := decide) only [ti_iv, ti_ivn, ti_n, ti_0, os_si, os_sj, va_up, upd, Nat.reduceEqDiff, reduceIte] at h74
                  conv => whnf
                  refine pm_gd (by decide) ?_
                  refine hZ1 _ _ ?_
                  conv => whnf
                  refine pm_bt (cdt rfl) ?_
                  conv => whnf
                  refine hZ0 _ _ ?_
                  first
                    | exact Or.inl ⟨by omega, rfl, rfl⟩
                    | exact Or.inr ⟨by omega, rfl, rfl⟩
                · have h74 := (nc_lt _ _).mp h74
                  try simp (disch := decide) only [ti_iv, ti_ivn, ti_n, ti_0, os_si, os_sj, va_up, upd, Nat.reduceEqDiff, reduceIte] at h74
                  conv => whnf
                  refine ⟨fun h75 => ?_, fun h75 => ?_⟩
                  · have h75 := (cc_gt _ _).mp h75
                    try simp (disch := decide) only [ti_iv, ti_ivn, ti_n, ti_0, os_si, os_sj, va_up, upd, Nat.reduceEqDiff, reduceIte] at h75
                    conv => whnf
                    refine pm_gd (by decide) ?_
                    refine hZ1 _ _ ?_
                    conv => whnf
                    refine pm_bt (cdt rfl) ?_
                    conv => whnf
                    refine hZ0 _ _ ?_
                    first
                      | exact Or.inl ⟨by omega, rfl, rfl⟩
                      | exact Or.inr ⟨by omega, rfl, rfl⟩
                  · have h75 := (nc_gt _ _).mp h75
                    try simp (disch := decide) only [ti_iv, ti_ivn, ti_n, ti_0, os_si, os_sj, va_up, upd, Nat.reduceEqDiff, reduceIte] at h75
                    conv => whnf
                    refine pm_gd (by decide) ?_
                    refine hZ1 _ _ ?_
                    conv => whnf
                    refine pm_bf (cdf rfl) ?_
                    conv => whnf
                    refine hcl0 _ _ _ _ ?_
                    refine S_People_has [] 400 rfl (fun R1 cl1 Z1 hR1 hcl1 hZ1 => ?_)
                    conv => whnf
                    refine ⟨fun h76 => ?_, fun h76 => ?_⟩
                    · have h76 := (cc_lt _ _).mp h76
                      try simp (disch := decide) only [ti_iv, ti_ivn, ti_n, ti_0, os_si, os_sj, va_up, upd, Nat.reduceEqDiff, reduceIte] at h76
                      conv => whnf
                      refine pm_gd (by decide) ?_
                      refine hZ1 _ _ ?_
                      conv => whnf
                      refine pm_bt (cdt rfl) ?_
                      conv => whnf
                      refine hZ0 _ _ ?_
                      first
                        | exact Or.inl ⟨by omega, rfl, rfl⟩
                        | exact Or.inr ⟨by omega, rfl, rfl⟩
                    · have h76 := (nc_lt _ _).mp h76
                      try simp (disch := decide) only [ti_iv, ti_ivn, ti_n, ti_0, os_si, os_sj, va_up, upd, Nat.reduceEqDiff, reduceIte] at h76
                      conv => whnf
                      refine ⟨fun h77 => ?_, fun h77 => ?_⟩
                      · have h77 := (cc_ge _ _).mp h77
                        try simp (disch := decide) only [ti_iv, ti_ivn, ti_n, ti_0, os_si, os_sj, va_up, upd, Nat.reduceEqDiff, reduceIte] at h77
                        conv => whnf
                        refine pm_gd (by decide) ?_
                        refine hZ1 _ _ ?_
                        conv => whnf
                        refine pm_bt (cdt rfl) ?_
                        conv => whnf
                        refine hZ0 _ _ ?_
                        first
                          | exact Or.inl ⟨by omega, rfl, rfl⟩
                          | exact Or.inr ⟨by omega, rfl, rfl⟩
                      · have h77 := (nc_ge _ _).mp h77
                        try simp (disch := decide) only [ti_iv, ti_ivn, ti_n, ti_0, os_si, os_sj, va_up, upd, Nat.reduceEqDiff, reduceIte] at h77
                        conv => whnf
                        refine pm_gd (by decide) ?_
                        refine hZ1 _ _ ?_
                        conv => whnf
                        refine pm_bf (cdf rfl) ?_
                        conv => whnf
                        refine pm_bf (cdf rfl) ?_
                        conv => whnf
                        refine pm_bt (cdt rfl) ?_
                        conv => whnf
                        refine hcl0 _ _ _ _ ?_
                        refine S_Lines_add [] 400 rfl (fun R1 cl1 Z1 hR1 hcl1 hZ1 => ?_)
                        conv => whnf
                        refine ⟨fun h78 => ?_, fun h78 => ?_⟩
                        · have h78 := (cc_lt _ _).mp h78
                          try simp (disch := decide) only [ti_iv, ti_ivn, ti_n, ti_0, os_si, os_sj, va_up, upd, Nat.reduceEqDiff, reduceIte] at h78
                          conv => whnf
                          refine pm_gd (gI (by (try simp (disch := decide) only [ti_iv, ti_ivn, ti_n, ti_0, os_si, os_sj, va_up, upd, Nat.reduceEqDiff, reduceIte]); omega) (by (try simp (disch := decide) only [ti_iv, ti_ivn, ti_n, ti_0, os_si, os_sj, va_up, upd, Nat.reduceEqDiff, reduceIte]); omega)) ?_
                          conv => whnf
                          refine pm_gd (gI (by (try simp (disch := decide) only [ti_iv, ti_ivn, ti_n, ti_0, os_si, os_sj, va_up, upd, Nat.reduceEqDiff, reduceIte]); omega) (by (try simp (disch := decide) only [ti_iv, ti_ivn, ti_n, ti_0, os_si, os_sj, va_up, upd, Nat.reduceEqDiff, reduceIte]); omega)) ?_
                          conv => whnf
                          refine pm_gd (gI (by (try simp (disch := decide) only [ti_iv, ti_ivn, ti_n, ti_0, os_si, os_sj, va_up, upd, Nat.reduceEqDiff, reduceIte]); omega) (by (try simp (disch := decide) only [ti_iv, ti_ivn, ti_n, ti_0, os_si, os_sj, va_up, upd, Nat.reduceEqDiff, reduceIte]); omega)) ?_
                          conv => whnf
                          refine pm_gd (gI (by (try simp (disch := decide) only [ti_iv, ti_ivn, ti_n, ti_0, os_si, os_sj, va_up, upd, Nat.reduceEqDiff, reduceIte]); omega) (by (try simp (disch := decide) only [ti_iv, ti_ivn, ti_n, ti_0, os_si, os_sj, va_up, upd, Nat.reduceEqDiff, reduceIte]); omega)) ?_
                          conv => whnf
                          refine hZ1 _ _ ?_
                          conv => whnf
                          refine hZ0 _ _ ?_
                          first
                            | exact Or.inl ⟨by omega, rfl, rfl⟩
                            | exact Or.inr ⟨by omega, rfl, rfl⟩
                        · have h78 := (nc_lt _ _).mp h78
                          try simp (disch := decide) only [ti_iv, ti_ivn, ti_n, ti_0, os_si, os_sj, va_up, upd, Nat.reduceEqDiff, reduceIte] at h78
                          conv => whnf
                          refine hZ1 _ _ ?_
                          conv => whnf
                          refine hZ0 _ _ ?_
                          first
                            | exact Or.inl ⟨by omega, rfl, rfl⟩
                            | exact Or.inr ⟨by omega, rfl, rfl⟩
      · have h53 := (nc_ge _ _).mp h53
        try simp (disch := decide) only [ti_iv, ti_ivn, ti_n, ti_0, os_si, os_sj, va_up, upd, Nat.reduceEqDiff, reduceIte] at h53
        conv => whnf
        refine pm_gd (by decide) ?_
        refine hZ1 _ _ ?_
        conv => whnf
        refine pm_bf (cdf rfl) ?_
        conv => whnf
        refine ⟨fun h79 => ?_, fun h79 => ?_⟩
        · have h79 := (cc_ne _ _).mp h79
          try simp (disch := decide) only [ti_iv, ti_ivn, ti_n, ti_0, os_si, os_sj, va_up, upd, Nat.reduceEqDiff, reduceIte] at h79
          conv => whnf
          refine hcl0 _ _ _ _ ?_
          refine S_PaidWhereMade_isSunday [] 400 rfl (fun R1 cl1 Z1 hR1 hcl1 hZ1 => ?_)
          conv => whnf
          refine ⟨fun h80 => ?_, fun h80 => ?_⟩
          · have h80 := (cc_lt _ _).mp h80
            try simp (disch := decide) only [ti_iv, ti_ivn, ti_n, ti_0, os_si, os_sj, va_up, upd, Nat.reduceEqDiff, reduceIte] at h80
            conv => whnf
            refine pm_gd (by decide) ?_
            refine hZ1 _ _ ?_
            conv => whnf
            refine pm_bt (cdt rfl) ?_
            conv => whnf
            refine hZ0 _ _ ?_
            first
              | exact Or.inl ⟨by omega, rfl, rfl⟩
              | exact Or.inr ⟨by omega, rfl, rfl⟩
          · have h80 := (nc_lt _ _).mp h80
            try simp (disch := decide) only [ti_iv, ti_ivn, ti_n, ti_0, os_si, os_sj, va_up, upd, Nat.reduceEqDiff, reduceIte] at h80
            conv => whnf
            refine ⟨fun h81 => ?_, fun h81 => ?_⟩
            · have h81 := (cc_gt _ _).mp h81
              try simp (disch := decide) only [ti_iv, ti_ivn, ti_n, ti_0, os_si, os_sj, va_up, upd, Nat.reduceEqDiff, reduceIte] at h81
              conv => whnf
              refine pm_gd (by decide) ?_
              refine hZ1 _ _ ?_
              conv => whnf
              refine pm_bt (cdt rfl) ?_
              conv => whnf
              refine hZ0 _ _ ?_
              first
                | exact Or.inl ⟨by omega, rfl, rfl⟩
                | exact Or.inr ⟨by omega, rfl, rfl⟩
            · have h81 := (nc_gt _ _).mp h81
              try simp (disch := decide) only [ti_iv, ti_ivn, ti_n, ti_0, os_si, os_sj, va_up, upd, Nat.reduceEqDiff, reduceIte] at h81
              conv => whnf
              refine pm_gd (by decide) ?_
              refine hZ1 _ _ ?_
              conv => whnf
              refine pm_bf (cdf rfl) ?_
              conv => whnf
              refine hcl0 _ _ _ _ ?_
              refine S_People_has [] 400 rfl (fun R1 cl1 Z1 hR1 hcl1 hZ1 => ?_)
              conv => whnf
              refine ⟨fun h82 => ?_, fun h82 => ?_⟩
              · have h82 := (cc_lt _ _).mp h82
                try simp (disch := decide) only [ti_iv, ti_ivn, ti_n, ti_0, os_si, os_sj, va_up, upd, Nat.reduceEqDiff, reduceIte] at h82
                conv => whnf
                refine pm_gd (by decide) ?_
                refine hZ1 _ _ ?_
                conv => whnf
                refine pm_bt (cdt rfl) ?_
                conv => whnf
                refine hZ0 _ _ ?_
                first
                  | exact Or.inl ⟨by omega, rfl, rfl⟩
                  | exact Or.inr ⟨by omega, rfl, rfl⟩
              · have h82 := (nc_lt _ _).mp h82
                try simp (disch := decide) only [ti_iv, ti_ivn, ti_n, ti_0, os_si, os_sj, va_up, upd, Nat.reduceEqDiff, reduceIte] at h82
                conv => whnf
                refine ⟨fun h83 => ?_, fun h83 => ?_⟩
                · have h83 := (cc_ge _ _).mp h83
                  try simp (disch := decide) only [ti_iv, ti_ivn, ti_n, ti_0, os_si, os_sj, va_up, upd, Nat.reduceEqDiff, reduceIte] at h83
                  conv => whnf
                  refine pm_gd (by decide) ?_
                  refine hZ1 _ _ ?_
                  conv => whnf
                  refine pm_bt (cdt rfl) ?_
                  conv => whnf
                  refine hZ0 _ _ ?_
                  first
                    | exact Or.inl ⟨by omega, rfl, rfl⟩
                    | exact Or.inr ⟨by omega, rfl, rfl⟩
                · have h83 := (nc_ge _ _).mp h83
                  try simp (disch := decide) only [ti_iv, ti_ivn, ti_n, ti_0, os_si, os_sj, va_up, upd, Nat.reduceEqDiff, reduceIte] at h83
                  conv => whnf
                  refine pm_gd (by decide) ?_
                  refine hZ1 _ _ ?_
                  conv => whnf
                  refine pm_bf (cdf rfl) ?_
                  conv => whnf
                  refine pm_bt (cdt rfl) ?_
                  conv => whnf
                  refine hcl0 _ _ _ _ ?_
                  refine S_Lines_add [] 400 rfl (fun R1 cl1 Z1 hR1 hcl1 hZ1 => ?_)
                  conv => whnf
                  refine ⟨fun h84 => ?_, fun h84 => ?_⟩
                  · have h84 := (cc_lt _ _).mp h84
                    try simp (disch := decide) only [ti_iv, ti_ivn, ti_n, ti_0, os_si, os_sj, va_up, upd, Nat.reduceEqDiff, reduceIte] at h84
                    conv => whnf
                    refine pm_gd (gI (by (try simp (disch := decide) only [ti_iv, ti_ivn, ti_n, ti_0, os_si, os_sj, va_up, upd, Nat.reduceEqDiff, reduceIte]); omega) (by (try simp (disch := decide) only [ti_iv, ti_ivn, ti_n, ti_0, os_si, os_sj, va_up, upd, Nat.reduceEqDiff, reduceIte]); omega)) ?_
                    conv => whnf
                    refine pm_gd (gI (by (try simp (disch := decide) only [ti_iv, ti_ivn, ti_n, ti_0, os_si, os_sj, va_up, upd, Nat.reduceEqDiff, reduceIte]); omega) (by (try simp (disch := decide) only [ti_iv, ti_ivn, ti_n, ti_0, os_si, os_sj, va_up, upd, Nat.reduceEqDiff, reduceIte]); omega)) ?_
                    conv => whnf
                    refine pm_gd (gI (by (try simp (disch := decide) only [ti_iv, ti_ivn, ti_n, ti_0, os_si, os_sj, va_up, upd, Nat.reduceEqDiff, reduceIte]); omega) (by (try simp (disch := decide) only [ti_iv, ti_ivn, ti_n, ti_0, os_si, os_sj, va_up, upd, Nat.reduceEqDiff, reduceIte]); omega)) ?_
                    conv => whnf
                    refine pm_gd (gI (by (try simp (disch := decide) only [ti_iv, ti_ivn, ti_n, ti_0, os_si, os_sj, va_up, upd, Nat.reduceEqDiff, reduceIte]); omega) (by (try simp (disch := decide) only [ti_iv, ti_ivn, ti_n, ti_0, os_si, os_sj, va_up, upd, Nat.reduceEqDiff, reduceIte]); omega)) ?_
                    conv => whnf
                    refine hZ1 _ _ ?_
                    conv => whnf
                    refine hZ0 _ _ ?_
                    first
                      | exact Or.inl ⟨by omega, rfl, rfl⟩
                      | exact Or.inr ⟨by omega, rfl, rfl⟩
                  · have h84 := (nc_lt _ _).mp h84
                    try simp (disch := decide) only [ti_iv, ti_ivn, ti_n, ti_0, os_si, os_sj, va_up, upd, Nat.reduceEqDiff, reduceIte] at h84
                    conv => whnf
                    refine hZ1 _ _ ?_
                    conv => whnf
                    refine hZ0 _ _ ?_
                    first
                      | exact Or.inl ⟨by omega, rfl, rfl⟩
                      | exact Or.inr ⟨by omega, rfl, rfl⟩
        · have h79 := (nc_ne _ _).mp h79
          try simp (disch := decide) only [ti_iv, ti_ivn, ti_n, ti_0, os_si, os_sj, va_up, upd, Nat.reduceEqDiff, reduceIte] at h79
          conv => whnf
          refine hcl0 _ _ _ _ ?_
          refine S_People_has [] 400 rfl (fun R1 cl1 Z1 hR1 hcl1 hZ1 => ?_)
          conv => whnf
          refine ⟨fun h85 => ?_, fun h85 => ?_⟩
          · have h85 := (cc_lt _ _).mp h85
            try simp (disch := decide) only [ti_iv, ti_ivn, ti_n, ti_0, os_si, os_sj, va_up, upd, Nat.reduceEqDiff, reduceIte] at h85
            conv => whnf
            refine pm_gd (by decide) ?_
            refine hZ1 _ _ ?_
            conv => whnf
            refine pm_bt (cdt rfl) ?_
            conv => whnf
            refine hcl0 _ _ _ _ ?_
            refine S_PaidWhereMade_isSunday [] 400 rfl (fun R1 cl1 Z1 hR1 hcl1 hZ1 => ?_)
            conv => whnf
            refine ⟨fun h86 => ?_, fun h86 => ?_⟩
            · have h86 := (cc_lt _ _).mp h86
              try simp (disch := decide) only [ti_iv, ti_ivn, ti_n, ti_0, os_si, os_sj, va_up, upd, Nat.reduceEqDiff, reduceIte] at h86
              conv => whnf
              refine pm_gd (by decide) ?_
              refine hZ1 _ _ ?_
              conv => whnf
              refine pm_bt (cdt rfl) ?_
              conv => whnf
              refine hZ0 _ _ ?_
              first
                | exact Or.inl ⟨by omega, rfl, rfl⟩
                | exact Or.inr ⟨by omega, rfl, rfl⟩
            · have h86 := (nc_lt _ _).mp h86
              try simp (disch := decide) only [ti_iv, ti_ivn, ti_n, ti_0, os_si, os_sj, va_up, upd, Nat.reduceEqDiff, reduceIte] at h86
              conv => whnf
              refine ⟨fun h87 => ?_, fun h87 => ?_⟩
              · have h87 := (cc_gt _ _).mp h87
                try simp (disch := decide) only [ti_iv, ti_ivn, ti_n, ti_0, os_si, os_sj, va_up, upd, Nat.reduceEqDiff, reduceIte] at h87
                conv => whnf
                refine pm_gd (by decide) ?_
                refine hZ1 _ _ ?_
                conv => whnf
                refine pm_bt (cdt rfl) ?_
                conv => whnf
                refine hZ0 _ _ ?_
                first
                  | exact Or.inl ⟨by omega, rfl, rfl⟩
                  | exact Or.inr ⟨by omega, rfl, rfl⟩
              · have h87 := (nc_gt _ _).mp h87
                try simp (disch := decide) only [ti_iv, ti_ivn, ti_n, ti_0, os_si, os_sj, va_up, upd, Nat.reduceEqDiff, reduceIte] at h87
                conv => whnf
                refine pm_gd (by decide) ?_
                refine hZ1 _ _ ?_
                conv => whnf
                refine pm_bf (cdf rfl) ?_
                conv => whnf
                refine hcl0 _ _ _ _ ?_
                refine S_People_has [] 400 rfl (fun R1 cl1 Z1 hR1 hcl1 hZ1 => ?_)
                conv => whnf
                refine ⟨fun h88 => ?_, fun h88 => ?_⟩
                · have h88 := (cc_lt _ _).mp h88
                  try simp (disch := decide) only [ti_iv, ti_ivn, ti_n, ti_0, os_si, os_sj, va_up, upd, Nat.reduceEqDiff, reduceIte] at h88
                  conv => whnf
                  refine pm_gd (by decide) ?_
                  refine hZ1 _ _ ?_
                  conv => whnf
                  refine pm_bt (cdt rfl) ?_
                  conv => whnf
                  refine hZ0 _ _ ?_
                  first
                    | exact Or.inl ⟨by omega, rfl, rfl⟩
                    | exact Or.inr ⟨by omega, rfl, rfl⟩
                · have h88 := (nc_lt _ _).mp h88
                  try simp (disch := decide) only [ti_iv, ti_ivn, ti_n, ti_0, os_si, os_sj, va_up, upd, Nat.reduceEqDiff, reduceIte] at h88
                  conv => whnf
                  refine ⟨fun h89 => ?_, fun h89 => ?_⟩
                  · have h89 := (cc_ge _ _).mp h89
                    try simp (disch := decide) only [ti_iv, ti_ivn, ti_n, ti_0, os_si, os_sj, va_up, upd, Nat.reduceEqDiff, reduceIte] at h89
                    conv => whnf
                    refine pm_gd (by decide) ?_
                    refine hZ1 _ _ ?_
                    conv => whnf
                    refine pm_bt (cdt rfl) ?_
                    conv => whnf
                    refine hZ0 _ _ ?_
                    first
                      | exact Or.inl ⟨by omega, rfl, rfl⟩
                      | exact Or.inr ⟨by omega, rfl, rfl⟩
                  · have h89 := (nc_ge _ _).mp h89
                    try simp (disch := decide) only [ti_iv, ti_ivn, ti_n, ti_0, os_si, os_sj, va_up, upd, Nat.reduceEqDiff, reduceIte] at h89
                    conv => whnf
                    refine pm_gd (by decide) ?_
                    refine hZ1 _ _ ?_
                    conv => whnf
                    refine pm_bf (cdf rfl) ?_
                    conv => whnf
                    refine pm_bt (cdt rfl) ?_
                    conv => whnf
                    refine hcl0 _ _ _ _ ?_
                    refine S_Lines_add [] 400 rfl (fun R1 cl1 Z1 hR1 hcl1 hZ1 => ?_)
                    conv => whnf
                    refine ⟨fun h90 => ?_, fun h90 => ?_⟩
                    · have h90 := (cc_lt _ _).mp h90
                      try simp (disch := decide) only [ti_iv, ti_ivn, ti_n, ti_0, os_si, os_sj, va_up, upd, Nat.reduceEqDiff, reduceIte] at h90
                      conv => whnf
                      refine pm_gd (gI (by (try simp (disch := decide) only [ti_iv, ti_ivn, ti_n, ti_0, os_si, os_sj, va_up, upd, Nat.reduceEqDiff, reduceIte]); omega) (by (try simp (disch := decide) only [ti_iv, ti_ivn, ti_n, ti_0, os_si, os_sj, va_up, upd, Nat.reduceEqDiff, reduceIte]); omega)) ?_
                      conv => whnf
                      refine pm_gd (gI (by (try simp (disch := decide) only [ti_iv, ti_ivn, ti_n, ti_0, os_si, os_sj, va_up, upd, Nat.reduceEqDiff, reduceIte]); omega) (by (try simp (disch := decide) only [ti_iv, ti_ivn, ti_n, ti_0, os_si, os_sj, va_up, upd, Nat.reduceEqDiff, reduceIte]); omega)) ?_
                      conv => whnf
                      refine pm_gd (gI (by (try simp (disch := decide) only [ti_iv, ti_ivn, ti_n, ti_0, os_si, os_sj, va_up, upd, Nat.reduceEqDiff, reduceIte]); omega) (by (try simp (disch := decide) only [ti_iv, ti_ivn, ti_n, ti_0, os_si, os_sj, va_up, upd, Nat.reduceEqDiff, reduceIte]); omega)) ?_
                      conv => whnf
                      refine pm_gd (gI (by (try simp (disch := decide) only [ti_iv, ti_ivn, ti_n, ti_0, os_si, os_sj, va_up, upd, Nat.reduceEqDiff, reduceIte]); omega) (by (try simp (disch := decide) only [ti_iv, ti_ivn, ti_n, ti_0, os_si, os_sj, va_up, upd, Nat.reduceEqDiff, reduceIte]); omega)) ?_
                      conv => whnf
                      refine hZ1 _ _ ?_
                      conv => whnf
                      refine hZ0 _ _ ?_
                      first
                        | exact Or.inl ⟨by omega, rfl, rfl⟩
                        | exact Or.inr ⟨by omega, rfl, rfl⟩
                    · have h90 := (nc_lt _ _).mp h90
                      try simp (disch := decide) only [ti_iv, ti_ivn, ti_n, ti_0, os_si, os_sj, va_up, upd, Nat.reduceEqDiff, reduceIte] at h90
                      conv => whnf
                      refine hZ1 _ _ ?_
                      conv => whnf
                      refine hZ0 _ _ ?_
                      first
                        | exact Or.inl ⟨by omega, rfl, rfl⟩
                        | exact Or.inr ⟨by omega, rfl, rfl⟩
          · have h85 := (nc_lt _ _).mp h85
            try simp (disch := decide) only [ti_iv, ti_ivn, ti_n, ti_0, os_si, os_sj, va_up, upd, Nat.reduceEqDiff, reduceIte] at h85
            conv => whnf
            refine ⟨fun h91 => ?_, fun h91 => ?_⟩
            · have h91 := (cc_ge _ _).mp h91
              try simp (disch := decide) only [ti_iv, ti_ivn, ti_n, ti_0, os_si, os_sj, va_up, upd, Nat.reduceEqDiff, reduceIte] at h91
              conv => whnf
              refine pm_gd (by decide) ?_
              refine hZ1 _ _ ?_
              conv => whnf
              refine pm_bt (cdt rfl) ?_
              conv => whnf
              refine hcl0 _ _ _ _ ?_
              refine S_PaidWhereMade_isSunday [] 400 rfl (fun R1 cl1 Z1 hR1 hcl1 hZ1 => ?_)
              conv => whnf
              refine ⟨fun h92 => ?_, fun h92 => ?_⟩
              · have h92 := (cc_lt _ _).mp h92
                try simp (disch := decide) only [ti_iv, ti_ivn, ti_n, ti_0, os_si, os_sj, va_up, upd, Nat.reduceEqDiff, reduceIte] at h92
                conv => whnf
                refine pm_gd (by decide) ?_
                refine hZ1 _ _ ?_
                conv => whnf
                refine pm_bt (cdt rfl) ?_
                conv => whnf
                refine hZ0 _ _ ?_
                first
                  | exact Or.inl ⟨by omega, rfl, rfl⟩
                  | exact Or.inr ⟨by omega, rfl, rfl⟩
              · have h92 := (nc_lt _ _).mp h92
                try simp (disch := decide) only [ti_iv, ti_ivn, ti_n, ti_0, os_si, os_sj, va_up, upd, Nat.reduceEqDiff, reduceIte] at h92
                conv => whnf
                refine ⟨fun h93 => ?_, fun h93 => ?_⟩
                · have h93 := (cc_gt _ _).mp h93
                  try simp (disch := decide) only [ti_iv, ti_ivn, ti_n, ti_0, os_si, os_sj, va_up, upd, Nat.reduceEqDiff, reduceIte] at h93
                  conv => whnf
                  refine pm_gd (by decide) ?_
                  refine hZ1 _ _ ?_
                  conv => whnf
                  refine pm_bt (cdt rfl) ?_
                  conv => whnf
                  refine hZ0 _ _ ?_
                  first
                    | exact Or.inl ⟨by omega, rfl, rfl⟩
                    | exact Or.inr ⟨by omega, rfl, rfl⟩
                · have h93 := (nc_gt _ _).mp h93
                  try simp (disch := decide) only [ti_iv, ti_ivn, ti_n, ti_0, os_si, os_sj, va_up, upd, Nat.reduceEqDiff, reduceIte] at h93
                  conv => whnf
                  refine pm_gd (by decide) ?_
                  refine hZ1 _ _ ?_
                  conv => whnf
                  refine pm_bf (cdf rfl) ?_
                  conv => whnf
                  refine hcl0 _ _ _ _ ?_
                  refine S_People_has [] 400 rfl (fun R1 cl1 Z1 hR1 hcl1 hZ1 => ?_)
                  conv => whnf
                  refine ⟨fun h94 => ?_, fun h94 => ?_⟩
                  · have h94 := (cc_lt _ _).mp h94
                    try simp (disch := decide) only [ti_iv, ti_ivn, ti_n, ti_0, os_si, os_sj, va_up, upd, Nat.reduceEqDiff, reduceIte] at h94
                    conv => whnf
                    refine pm_gd (by decide) ?_
                    refine hZ1 _ _ ?_
                    conv => whnf
                    refine pm_bt (cdt rfl) ?_
                    conv => whnf
                    refine hZ0 _ _ ?_
                    first
                      | exact Or.inl ⟨by omega, rfl, rfl⟩
                      | exact Or.inr ⟨by omega, rfl, rfl⟩
                  · have h94 := (nc_lt _ _).mp h94
                    try simp (disch := decide) only [ti_iv, ti_ivn, ti_n, ti_0, os_si, os_sj, va_up, upd, Nat.reduceEqDiff, reduceIte] at h94
                    conv => whnf
                    refine ⟨fun h95 => ?_, fun h95 => ?_⟩
                    · have h95 := (cc_ge _ _).mp h95
                      try simp (disch := decide) only [ti_iv, ti_ivn, ti_n, ti_0, os_si, os_sj, va_up, upd, Nat.reduceEqDiff, reduceIte] at h95
                      conv => whnf
                      refine pm_gd (by decide) ?_
                      refine hZ1 _ _ ?_
                      conv => whnf
                      refine pm_bt (cdt rfl) ?_
                      conv => whnf
                      refine hZ0 _ _ ?_
                      first
                        | exact Or.inl ⟨by omega, rfl, rfl⟩
                        | exact Or.inr ⟨by omega, rfl, rfl⟩
                    · have h95 := (nc_ge _ _).mp h95
                      try simp (disch := decide) only [ti_iv, ti_ivn, ti_n, ti_0, os_si, os_sj, va_up, upd, Nat.reduceEqDiff, reduceIte] at h95
                      conv => whnf
                      refine pm_gd (by decide) ?_
                      refine hZ1 _ _ ?_
                      conv => whnf
                      refine pm_bf (cdf rfl) ?_
                      conv => whnf
                      refine pm_bt (cdt rfl) ?_
                      conv => whnf
                      refine hcl0 _ _ _ _ ?_
                      refine S_Lines_add [] 400 rfl (fun R1 cl1 Z1 hR1 hcl1 hZ1 => ?_)
                      conv => whnf
                      refine ⟨fun h96 => ?_, fun h96 => ?_⟩
                      · have h96 := (cc_lt _ _).mp h96
                        try simp (disch := decide) only [ti_iv, ti_ivn, ti_n, ti_0, os_si, os_sj, va_up, upd, Nat.reduceEqDiff, reduceIte] at h96
                        conv => whnf
                        refine pm_gd (gI (by (try simp (disch := decide) only [ti_iv, ti_ivn, ti_n, ti_0, os_si, os_sj, va_up, upd, Nat.reduceEqDiff, reduceIte]); omega) (by (try simp (disch := decide) only [ti_iv, ti_ivn, ti_n, ti_0, os_si, os_sj, va_up, upd, Nat.reduceEqDiff, reduceIte]); omega)) ?_
                        conv => whnf
                        refine pm_gd (gI (by (try simp (disch := decide) only [ti_iv, ti_ivn, ti_n, ti_0, os_si, os_sj, va_up, upd, Nat.reduceEqDiff, reduceIte]); omega) (by (try simp (disch := decide) only [ti_iv, ti_ivn, ti_n, ti_0, os_si, os_sj, va_up, upd, Nat.reduceEqDiff, reduceIte]); omega)) ?_
                        conv => whnf
                        refine pm_gd (gI (by (try simp (disch := decide) only [ti_iv, ti_ivn, ti_n, ti_0, os_si, os_sj, va_up, upd, Nat.reduceEqDiff, reduceIte]); omega) (by (try simp (disch := decide) only [ti_iv, ti_ivn, ti_n, ti_0, os_si, os_sj, va_up, upd, Nat.reduceEqDiff, reduceIte]); omega)) ?_
                        conv => whnf
                        refine pm_gd (gI (by (try simp (disch := decide) only [ti_iv, ti_ivn, ti_n, ti_0, os_si, os_sj, va_up, upd, Nat.reduceEqDiff, reduceIte]); omega) (by (try simp (disch := decide) only [ti_iv, ti_ivn, ti_n, ti_0, os_si, os_sj, va_up, upd, Nat.reduceEqDiff, reduceIte]); omega)) ?_
                        conv => whnf
                        refine hZ1 _ _ ?_
                        conv => whnf
                        refine hZ0 _ _ ?_
                        first
                          | exact Or.inl ⟨by omega, rfl, rfl⟩
                          | exact Or.inr ⟨by omega, rfl, rfl⟩
                      · have h96 := (nc_lt _ _).mp h96
                        try simp (disch := decide) only [ti_iv, ti_ivn, ti_n, ti_0, os_si, os_sj, va_up, upd, Nat.reduceEqDiff, reduceIte] at h96
                        conv => whnf
                        refine hZ1 _ _ ?_
                        conv => whnf
                        refine hZ0 _ _ ?_
                        first
                          | exact Or.inl ⟨by omega, rfl, rfl⟩
                          | exact Or.inr ⟨by omega, rfl, rfl⟩
            · have h91 := (nc_ge _ _).mp h91
              try simp (disch := decide) only [ti_iv, ti_ivn, ti_n, ti_0, os_si, os_sj, va_up, upd, Nat.reduceEqDiff, reduceIte] at h91
              conv => whnf
              refine pm_gd (by decide) ?_
              refine hZ1 _ _ ?_
              conv => whnf
              refine pm_bf (cdf rfl) ?_
              conv => whnf
              refine ⟨fun h97 => ?_, fun h97 => ?_⟩
              · have h97 := (cc_eq _ _).mp h97
                try simp (disch := decide) only [ti_iv, ti_ivn, ti_n, ti_0, os_si, os_sj, va_up, upd, Nat.reduceEqDiff, reduceIte] at h97
                conv => whnf
                refine hcl0 _ _ _ _ ?_
                refine S_PaidWhereMade_isSunday [] 400 rfl (fun R1 cl1 Z1 hR1 hcl1 hZ1 => ?_)
                conv => whnf
                refine ⟨fun h98 => ?_, fun h98 => ?_⟩
                · have h98 := (cc_lt _ _).mp h98
                  try simp (disch := decide) only [ti_iv, ti_ivn, ti_n, ti_0, os_si, os_sj, va_up, upd, Nat.reduceEqDiff, reduceIte] at h98
                  conv => whnf
                  refine pm_gd (by decide) ?_
                  refine hZ1 _ _ ?_
                  conv => whnf
                  refine pm_bt (cdt rfl) ?_
                  conv => whnf
                  refine hZ0 _ _ ?_
                  first
                    | exact Or.inl ⟨by omega, rfl, rfl⟩
                    | exact Or.inr ⟨by omega, rfl, rfl⟩
                · have h98 := (nc_lt _ _).mp h98
                  try simp (disch := decide) only [ti_iv, ti_ivn, ti_n, ti_0, os_si, os_sj, va_up, upd, Nat.reduceEqDiff, reduceIte] at h98
                  conv => whnf
                  refine ⟨fun h99 => ?_, fun h99 => ?_⟩
                  · have h99 := (cc_gt _ _).mp h99
                    try simp (disch := decide) only [ti_iv, ti_ivn, ti_n, ti_0, os_si, os_sj, va_up, upd, Nat.reduceEqDiff, reduceIte] at h99
                    conv => whnf
                    refine pm_gd (by decide) ?_
                    refine hZ1 _ _ ?_
                    conv => whnf
                    refine pm_bt (cdt rfl) ?_
                    conv => whnf
                    refine hZ0 _ _ ?_
                    first
                      | exact Or.inl ⟨by omega, rfl, rfl⟩
                      | exact Or.inr ⟨by omega, rfl, rfl⟩
                  · have h99 := (nc_gt _ _).mp h99
                    try simp (disch := decide) only [ti_iv, ti_ivn, ti_n, ti_0, os_si, os_sj, va_up, upd, Nat.reduceEqDiff, reduceIte] at h99
                    conv => whnf
                    refine pm_gd (by decide) ?_
                    refine hZ1 _ _ ?_
                    conv => whnf
                    refine pm_bf (cdf rfl) ?_
                    conv => whnf
                    refine hcl0 _ _ _ _ ?_
                    refine S_People_has [] 400 rfl (fun R1 cl1 Z1 hR1 hcl1 hZ1 => ?_)
                    conv => whnf
                    refine ⟨fun h100 => ?_, fun h100 => ?_⟩
                    · have h100 := (cc_lt _ _).mp h100
                      try simp (disch := decide) only [ti_iv, ti_ivn, ti_n, ti_0, os_si, os_sj, va_up, upd, Nat.reduceEqDiff, reduceIte] at h100
                      conv => whnf
                      refine pm_gd (by decide) ?_
                      refine hZ1 _ _ ?_
                      conv => whnf
                      refine pm_bt (cdt rfl) ?_
                      conv => whnf
                      refine hZ0 _ _ ?_
                      first
                        | exact Or.inl ⟨by omega, rfl, rfl⟩
                        | exact Or.inr ⟨by omega, rfl, rfl⟩
                    · have h100 := (nc_lt _ _).mp h100
                      try simp (disch := decide) only [ti_iv, ti_ivn, ti_n, ti_0, os_si, os_sj, va_up, upd, Nat.reduceEqDiff, reduceIte] at h100
                      conv => whnf
                      refine ⟨fun h101 => ?_, fun h101 => ?_⟩
                      · have h101 := (cc_ge _ _).mp h101
                        try simp (disch := decide) only [ti_iv, ti_ivn, ti_n, ti_0, os_si, os_sj, va_up, upd, Nat.reduceEqDiff, reduceIte] at h101
                        conv => whnf
                        refine pm_gd (by decide) ?_
                        refine hZ1 _ _ ?_
                        conv => whnf
                        refine pm_bt (cdt rfl) ?_
                        conv => whnf
                        refine hZ0 _ _ ?_
                        first
                          | exact Or.inl ⟨by omega, rfl, rfl⟩
                          | exact Or.inr ⟨by omega, rfl, rfl⟩
                      · have h101 := (nc_ge _ _).mp h101
                        try simp (disch := decide) only [ti_iv, ti_ivn, ti_n, ti_0, os_si, os_sj, va_up, upd, Nat.reduceEqDiff, reduceIte] at h101
                        conv => whnf
                        refine pm_gd (by decide) ?_
                        refine hZ1 _ _ ?_
                        conv => whnf
                        refine pm_bf (cdf rfl) ?_
                        conv => whnf
                        refine pm_bt (cdt rfl) ?_
                        conv => whnf
                        refine hcl0 _ _ _ _ ?_
                        refine S_Lines_add [] 400 rfl (fun R1 cl1 Z1 hR1 hcl1 hZ1 => ?_)
                        conv => whnf
                        refine ⟨fun h102 => ?_, fun h102 => ?_⟩
                        · have h102 := (cc_lt _ _).mp h102
                          try simp (disch := decide) only [ti_iv, ti_ivn, ti_n, ti_0, os_si, os_sj, va_up, upd, Nat.reduceEqDiff, reduceIte] at h102
                          conv => whnf
                          refine pm_gd (gI (by (try simp (disch := decide) only [ti_iv, ti_ivn, ti_n, ti_0, os_si, os_sj, va_up, upd, Nat.reduceEqDiff, reduceIte]); omega) (by (try simp (disch := decide) only [ti_iv, ti_ivn, ti_n, ti_0, os_si, os_sj, va_up, upd, Nat.reduceEqDiff, reduceIte]); omega)) ?_
                          conv => whnf
                          refine pm_gd (gI (by (try simp (disch := decide) only [ti_iv, ti_ivn, ti_n, ti_0, os_si, os_sj, va_up, upd, Nat.reduceEqDiff, reduceIte]); omega) (by (try simp (disch := decide) only [ti_iv, ti_ivn, ti_n, ti_0, os_si, os_sj, va_up, upd, Nat.reduceEqDiff, reduceIte]); omega)) ?_
                          conv => whnf
                          refine pm_gd (gI (by (try simp (disch := decide) only [ti_iv, ti_ivn, ti_n, ti_0, os_si, os_sj, va_up, upd, Nat.reduceEqDiff, reduceIte]); omega) (by (try simp (disch := decide) only [ti_iv, ti_ivn, ti_n, ti_0, os_si, os_sj, va_up, upd, Nat.reduceEqDiff, reduceIte]); omega)) ?_
                          conv => whnf
                          refine pm_gd (gI (by (try simp (disch := decide) only [ti_iv, ti_ivn, ti_n, ti_0, os_si, os_sj, va_up, upd, Nat.reduceEqDiff, reduceIte]); omega) (by (try simp (disch := decide) only [ti_iv, ti_ivn, ti_n, ti_0, os_si, os_sj, va_up, upd, Nat.reduceEqDiff, reduceIte]); omega)) ?_
                          conv => whnf
                          refine hZ1 _ _ ?_
                          conv => whnf
                          refine hZ0 _ _ ?_
                          first
                            | exact Or.inl ⟨by omega, rfl, rfl⟩
                            | exact Or.inr ⟨by omega, rfl, rfl⟩
                        · have h102 := (nc_lt _ _).mp h102
                          try simp (disch := decide) only [ti_iv, ti_ivn, ti_n, ti_0, os_si, os_sj, va_up, upd, Nat.reduceEqDiff, reduceIte] at h102
                          conv => whnf
                          refine hZ1 _ _ ?_
                          conv => whnf
                          refine hZ0 _ _ ?_
                          first
                            | exact Or.inl ⟨by omega, rfl, rfl⟩
                            | exact Or.inr ⟨by omega, rfl, rfl⟩
              · have h97 := (nc_eq _ _).mp h97
                try simp (disch := decide) only [ti_iv, ti_ivn, ti_n, ti_0, os_si, os_sj, va_up, upd, Nat.reduceEqDiff, reduceIte] at h97
                conv => whnf
                refine hcl0 _ _ _ _ ?_
                refine S_PaidWhereMade_isSunday [] 400 rfl (fun R1 cl1 Z1 hR1 hcl1 hZ1 => ?_)
                conv => whnf
                refine ⟨fun h103 => ?_, fun h103 => ?_⟩
                · have h103 := (cc_lt _ _).mp h103
                  try simp (disch := decide) only [ti_iv, ti_ivn, ti_n, ti_0, os_si, os_sj, va_up, upd, Nat.reduceEqDiff, reduceIte] at h103
                  conv => whnf
                  refine pm_gd (by decide) ?_
                  refine hZ1 _ _ ?_
                  conv => whnf
                  refine pm_bt (cdt rfl) ?_
                  conv => whnf
                  refine hZ0 _ _ ?_
                  first
                    | exact Or.inl ⟨by omega, rfl, rfl⟩
                    | exact Or.inr ⟨by omega, rfl, rfl⟩
                · have h103 := (nc_lt _ _).mp h103
                  try simp (disch := decide) only [ti_iv, ti_ivn, ti_n, ti_0, os_si, os_sj, va_up, upd, Nat.reduceEqDiff, reduceIte] at h103
                  conv => whnf
                  refine ⟨fun h104 => ?_, fun h104 => ?_⟩
                  · have h104 := (cc_gt _ _).mp h104
                    try simp (disch := decide) only [ti_iv, ti_ivn, ti_n, ti_0, os_si, os_sj, va_up, upd, Nat.reduceEqDiff, reduceIte] at h104
                    conv => whnf
                    refine pm_gd (by decide) ?_
                    refine hZ1 _ _ ?_
                    conv => whnf
                    refine pm_bt (cdt rfl) ?_
                    conv => whnf
                    refine hZ0 _ _ ?_
                    first
                      | exact Or.inl ⟨by omega, rfl, rfl⟩
                      | exact Or.inr ⟨by omega, rfl, rfl⟩
                  · have h104 := (nc_gt _ _).mp h104
                    try simp (disch := decide) only [ti_iv, ti_ivn, ti_n, ti_0, os_si, os_sj, va_up, upd, Nat.reduceEqDiff, reduceIte] at h104
                    conv => whnf
                    refine pm_gd (by decide) ?_
                    refine hZ1 _ _ ?_
                    conv => whnf
                    refine pm_bf (cdf rfl) ?_
                    conv => whnf
                    refine hcl0 _ _ _ _ ?_
                    refine S_People_has [] 400 rfl (fun R1 cl1 Z1 hR1 hcl1 hZ1 => ?_)
                    conv => whnf
                    refine ⟨fun h105 => ?_, fun h105 => ?_⟩
                    · have h105 := (cc_lt _ _).mp h105
                      try simp (disch := decide) only [ti_iv, ti_ivn, ti_n, ti_0, os_si, os_sj, va_up, upd, Nat.reduceEqDiff, reduceIte] at h105
                      conv => whnf
                      refine pm_gd (by decide) ?_
                      refine hZ1 _ _ ?_
                      conv => whnf
                      refine pm_bt (cdt rfl) ?_
                      conv => whnf
                      refine hZ0 _ _ ?_
                      first
                        | exact Or.inl ⟨by omega, rfl, rfl⟩
                        | exact Or.inr ⟨by omega, rfl, rfl⟩
                    · have h105 := (nc_lt _ _).mp h105
                      try simp (disch := decide) only [ti_iv, ti_ivn, ti_n, ti_0, os_si, os_sj, va_up, upd, Nat.reduceEqDiff, reduceIte] at h105
                      conv => whnf
                      refine ⟨fun h106 => ?_, fun h106 => ?_⟩
                      · have h106 := (cc_ge _ _).mp h106
                        try simp (disch := decide) only [ti_iv, ti_ivn, ti_n, ti_0, os_si, os_sj, va_up, upd, Nat.reduceEqDiff, reduceIte] at h106
                        conv => whnf
                        refine pm_gd (by decide) ?_
                        refine hZ1 _ _ ?_
                        conv => whnf
                        refine pm_bt (cdt rfl) ?_
                        conv => whnf
                        refine hZ0 _ _ ?_
                        first
                          | exact Or.inl ⟨by omega, rfl, rfl⟩
                          | exact Or.inr ⟨by omega, rfl, rfl⟩
                      · have h106 := (nc_ge _ _).mp h106
                        try simp (disch := decide) only [ti_iv, ti_ivn, ti_n, ti_0, os_si, os_sj, va_up, upd, Nat.reduceEqDiff, reduceIte] at h106
                        conv => whnf
                        refine pm_gd (by decide) ?_
                        refine hZ1 _ _ ?_
                        conv => whnf
                        refine pm_bf (cdf rfl) ?_
                        conv => whnf
                        refine pm_bt (cdt rfl) ?_
                        conv => whnf
                        refine hcl0 _ _ _ _ ?_
                        refine S_Lines_add [] 400 rfl (fun R1 cl1 Z1 hR1 hcl1 hZ1 => ?_)
                        conv => whnf
                        refine ⟨fun h107 => ?_, fun h107 => ?_⟩
                        · have h107 := (cc_lt _ _).mp h107
                          try simp (disch := decide) only [ti_iv, ti_ivn, ti_n, ti_0, os_si, os_sj, va_up, upd, Nat.reduceEqDiff, reduceIte] at h107
                          conv => whnf
                          refine pm_gd (gI (by (try simp (disch := decide) only [ti_iv, ti_ivn, ti_n, ti_0, os_si, os_sj, va_up, upd, Nat.reduceEqDiff, reduceIte]); omega) (by (try simp (disch := decide) only [ti_iv, ti_ivn, ti_n, ti_0, os_si, os_sj, va_up, upd, Nat.reduceEqDiff, reduceIte]); omega)) ?_
                          conv => whnf
                          refine pm_gd (gI (by (try simp (disch := decide) only [ti_iv, ti_ivn, ti_n, ti_0, os_si, os_sj, va_up, upd, Nat.reduceEqDiff, reduceIte]); omega) (by (try simp (disch := decide) only [ti_iv, ti_ivn, ti_n, ti_0, os_si, os_sj, va_up, upd, Nat.reduceEqDiff, reduceIte]); omega)) ?_
                          conv => whnf
                          refine pm_gd (gI (by (try simp (disch := decide) only [ti_iv, ti_ivn, ti_n, ti_0, os_si, os_sj, va_up, upd, Nat.reduceEqDiff, reduceIte]); omega) (by (try simp (disch := decide) only [ti_iv, ti_ivn, ti_n, ti_0, os_si, os_sj, va_up, upd, Nat.reduceEqDiff, reduceIte]); omega)) ?_
                          conv => whnf
                          refine pm_gd (gI (by (try simp (disch := decide) only [ti_iv, ti_ivn, ti_n, ti_0, os_si, os_sj, va_up, upd, Nat.reduceEqDiff, reduceIte]); omega) (by (try simp (disch := decide) only [ti_iv, ti_ivn, ti_n, ti_0, os_si, os_sj, va_up, upd, Nat.reduceEqDiff, reduceIte]); omega)) ?_
                          conv => whnf
                          refine hZ1 _ _ ?_
                          conv => whnf
                          refine hZ0 _ _ ?_
                          first
                            | exact Or.inl ⟨by omega, rfl, rfl⟩
                            | exact Or.inr ⟨by omega, rfl, rfl⟩
                        · have h107 := (nc_lt _ _).mp h107
                          try simp (disch := decide) only [ti_iv, ti_ivn, ti_n, ti_0, os_si, os_sj, va_up, upd, Nat.reduceEqDiff, reduceIte] at h107
                          conv => whnf
                          refine hZ1 _ _ ?_
                          conv => whnf
                          refine hZ0 _ _ ?_
                          first
                            | exact Or.inl ⟨by omega, rfl, rfl⟩
                            | exact Or.inr ⟨by omega, rfl, rfl⟩
set_option maxRecDepth 20000 in
theorem m_line (σ : pm_S) (a1 a2 a3 a4 : Int32) (g : 0 ≤ (σ.1 93 23).toInt ∧ (σ.1 93 23).toInt ≤ 30) : Sp 239 3 [.ref 93, .int a1, .int a2, .int a3, .int a4] σ (fun r τ => ((0 ≤ a1.toInt ∧ a1.toInt ≤ 9999 ∧ 0 ≤ a2.toInt ∧ a2.toInt < (σ.1 93 5).toInt ∧ ((a3.toInt = -1 ∧ 0 ≤ a4.toInt ∧ a4.toInt < (σ.1 93 2).toInt) ∨ (a4.toInt = -1 ∧ 0 ≤ a3.toInt ∧ a3.toInt < (σ.1 93 5).toInt ∧ ¬ a2.toInt = a3.toInt)) ∧ (σ.1 93 23).toInt < 30) ∧ r = some (.int (σ.1 93 23 + 1 - 1)) ∧ τ = ((va_up (va_up (va_up (va_up (va_up (va_up σ.1 93 (upd (σ.1 93) 0 0)) 109 (upd (σ.1 109) (σ.1 93 23).toNatClampNeg (a1))) 110 (upd (σ.1 110) (σ.1 93 23).toNatClampNeg (a2))) 111 (upd (σ.1 111) (σ.1 93 23).toNatClampNeg (a3))) 112 (upd (σ.1 112) (σ.1 93 23).toNatClampNeg (a4))) 93 (upd (upd (σ.1 93) 0 0) 23 (σ.1 93 23 + 1))), σ.2)) ∨ (¬ (0 ≤ a1.toInt ∧ a1.toInt ≤ 9999 ∧ 0 ≤ a2.toInt ∧ a2.toInt < (σ.1 93 5).toInt ∧ ((a3.toInt = -1 ∧ 0 ≤ a4.toInt ∧ a4.toInt < (σ.1 93 2).toInt) ∨ (a4.toInt = -1 ∧ 0 ≤ a3.toInt ∧ a3.toInt < (σ.1 93 5).toInt ∧ ¬ a2.toInt = a3.toInt)) ∧ (σ.1 93 23).toInt < 30) ∧ r = some (.int (-1)) ∧ τ = (va_up σ.1 93 (upd (σ.1 93) 0 0), σ.2))) := by
  refine S_Model_line [] 400 rfl (fun R0 cl0 Z0 hR0 hcl0 hZ0 => ?_)
  conv => whnf
  refine ⟨fun h1 => ?_, fun h1 => ?_⟩
  · have h1 := (cc_ne _ _).mp h1
    try simp (disch := decide) only [ti_iv, ti_ivn, ti_n, ti_0, os_si, os_sj, va_up, upd, Nat.reduceEqDiff, reduceIte] at h1
    conv => whnf
    refine ⟨fun h2 => ?_, fun h2 => ?_⟩
    · have h2 := (cc_ne _ _).mp h2
      try simp (disch := decide) only [ti_iv, ti_ivn, ti_n, ti_0, os_si, os_sj, va_up, upd, Nat.reduceEqDiff, reduceIte] at h2
      conv => whnf
      refine hcl0 _ _ _ _ ?_
      refine S_Model_isIn [] 400 rfl (fun R1 cl1 Z1 hR1 hcl1 hZ1 => ?_)
      conv => whnf
      refine ⟨fun h3 => ?_, fun h3 => ?_⟩
      · have h3 := (cc_lt _ _).mp h3
        try simp (disch := decide) only [ti_iv, ti_ivn, ti_n, ti_0, os_si, os_sj, va_up, upd, Nat.reduceEqDiff, reduceIte] at h3
        conv => whnf
        refine pm_gd (by decide) ?_
        refine hZ1 _ _ ?_
        conv => whnf
        refine pm_bt (cdt rfl) ?_
        conv => whnf
        refine hZ0 _ _ ?_
        first
          | exact Or.inl ⟨by omega, rfl, rfl⟩
          | exact Or.inr ⟨by omega, rfl, rfl⟩
      · have h3 := (nc_lt _ _).mp h3
        try simp (disch := decide) only [ti_iv, ti_ivn, ti_n, ti_0, os_si, os_sj, va_up, upd, Nat.reduceEqDiff, reduceIte] at h3
        conv => whnf
        refine ⟨fun h4 => ?_, fun h4 => ?_⟩
        · have h4 := (cc_gt _ _).mp h4
          try simp (disch := decide) only [ti_iv, ti_ivn, ti_n, ti_0, os_si, os_sj, va_up, upd, Nat.reduceEqDiff, reduceIte] at h4
          conv => whnf
          refine pm_gd (by decide) ?_
          refine hZ1 _ _ ?_
          conv => whnf
          refine pm_bt (cdt rfl) ?_
          conv => whnf
          refine hZ0 _ _ ?_
          first
            | exact Or.inl ⟨by omega, rfl, rfl⟩
            | exact Or.inr ⟨by omega, rfl, rfl⟩
        · have h4 := (nc_gt _ _).mp h4
          try simp (disch := decide) only [ti_iv, ti_ivn, ti_n, ti_0, os_si, os_sj, va_up, upd, Nat.reduceEqDiff, reduceIte] at h4
          conv => whnf
          refine pm_gd (by decide) ?_
          refine hZ1 _ _ ?_
          conv => whnf
          refine pm_bf (cdf rfl) ?_
          conv => whnf
          refine hcl0 _ _ _ _ ?_
          refine S_Model_isOne [] 400 rfl (fun R1 cl1 Z1 hR1 hcl1 hZ1 => ?_)
          conv => whnf
          refine ⟨fun h5 => ?_, fun h5 => ?_⟩
          · have h5 := (cc_lt _ _).mp h5
            try simp (disch := decide) only [ti_iv, ti_ivn, ti_n, ti_0, os_si, os_sj, va_up, upd, Nat.reduceEqDiff, reduceIte] at h5
            conv => whnf
            refine pm_gd (by decide) ?_
            refine hZ1 _ _ ?_
            conv => whnf
            refine pm_bt (cdt rfl) ?_
            conv => whnf
            refine hZ0 _ _ ?_
            first
              | exact Or.inl ⟨by omega, rfl, rfl⟩
              | exact Or.inr ⟨by omega, rfl, rfl⟩
          · have h5 := (nc_lt _ _).mp h5
            try simp (disch := decide) only [ti_iv, ti_ivn, ti_n, ti_0, os_si, os_sj, va_up, upd, Nat.reduceEqDiff, reduceIte] at h5
            conv => whnf
            refine ⟨fun h6 => ?_, fun h6 => ?_⟩
            · have h6 := (cc_ge _ _).mp h6
              try simp (disch := decide) only [ti_iv, ti_ivn, ti_n, ti_0, os_si, os_sj, va_up, upd, Nat.reduceEqDiff, reduceIte] at h6
              conv => whnf
              refine pm_gd (by decide) ?_
              refine hZ1 _ _ ?_
              conv => whnf
              refine pm_bt (cdt rfl) ?_
              conv => whnf
              refine hZ0 _ _ ?_
              first
                | exact Or.inl ⟨by omega, rfl, rfl⟩
                | exact Or.inr ⟨by omega, rfl, rfl⟩
            · have h6 := (nc_ge _ _).mp h6
              try simp (disch := decide) only [ti_iv, ti_ivn, ti_n, ti_0, os_si, os_sj, va_up, upd, Nat.reduceEqDiff, reduceIte] at h6
              conv => whnf
              refine pm_gd (by decide) ?_
              refine hZ1 _ _ ?_
              conv => whnf
              refine pm_bf (cdf rfl) ?_
              conv => whnf
              refine pm_bf (cdf rfl) ?_
              conv => whnf
              refine pm_bt (cdt rfl) ?_
              conv => whnf
              refine hZ0 _ _ ?_
              first
                | exact Or.inl ⟨by omega, rfl, rfl⟩
                | exact Or.inr ⟨by omega, rfl, rfl⟩
    · have h2 := (nc_ne _ _).mp h2
      try simp (disch := decide) only [ti_iv, ti_ivn, ti_n, ti_0, os_si, os_sj, va_up, upd, Nat.reduceEqDiff, reduceIte] at h2
      conv => whnf
      refine hcl0 _ _ _ _ ?_
      refine S_Model_isSpot [] 400 rfl (fun R1 cl1 Z1 hR1 hcl1 hZ1 => ?_)
      conv => whnf
      refine ⟨fun h7 => ?_, fun h7 => ?_⟩
      · have h7 := (cc_lt _ _).mp h7
        try simp (disch := decide) only [ti_iv, ti_ivn, ti_n, ti_0, os_si, os_sj, va_up, upd, Nat.reduceEqDiff, reduceIte] at h7
        conv => whnf
        refine pm_gd (by decide) ?_
        refine hZ1 _ _ ?_
        conv => whnf
        refine pm_bt (cdt rfl) ?_
        conv => whnf
        refine hcl0 _ _ _ _ ?_
        refine S_Model_isIn [] 400 rfl (fun R1 cl1 Z1 hR1 hcl1 hZ1 => ?_)
        conv => whnf
        refine ⟨fun h8 => ?_, fun h8 => ?_⟩
        · have h8 := (cc_lt _ _).mp h8
          try simp (disch := decide) only [ti_iv, ti_ivn, ti_n, ti_0, os_si, os_sj, va_up, upd, Nat.reduceEqDiff, reduceIte] at h8
          conv => whnf
          refine pm_gd (by decide) ?_
          refine hZ1 _ _ ?_
          conv => whnf
          refine pm_bt (cdt rfl) ?_
          conv => whnf
          refine hZ0 _ _ ?_
          first
            | exact Or.inl ⟨by omega, rfl, rfl⟩
            | exact Or.inr ⟨by omega, rfl, rfl⟩
        · have h8 := (nc_lt _ _).mp h8
          try simp (disch := decide) only [ti_iv, ti_ivn, ti_n, ti_0, os_si, os_sj, va_up, upd, Nat.reduceEqDiff, reduceIte] at h8
          conv => whnf
          refine ⟨fun h9 => ?_, fun h9 => ?_⟩
          · have h9 := (cc_gt _ _).mp h9
            try simp (disch := decide) only [ti_iv, ti_ivn, ti_n, ti_0, os_si, os_sj, va_up, upd, Nat.reduceEqDiff, reduceIte] at h9
            conv => whnf
            refine pm_gd (by decide) ?_
            refine hZ1 _ _ ?_
            conv => whnf
            refine pm_bt (cdt rfl) ?_
            conv => whnf
            refine hZ0 _ _ ?_
            first
              | exact Or.inl ⟨by omega, rfl, rfl⟩
              | exact Or.inr ⟨by omega, rfl, rfl⟩
          · have h9 := (nc_gt _ _).mp h9
            try simp (disch := decide) only [ti_iv, ti_ivn, ti_n, ti_0, os_si, os_sj, va_up, upd, Nat.reduceEqDiff, reduceIte] at h9
            conv => whnf
            refine pm_gd (by decide) ?_
            refine hZ1 _ _ ?_
            conv => whnf
            refine pm_bf (cdf rfl) ?_
            conv => whnf
            refine hcl0 _ _ _ _ ?_
            refine S_Model_isOne [] 400 rfl (fun R1 cl1 Z1 hR1 hcl1 hZ1 => ?_)
            conv => whnf
            refine ⟨fun h10 => ?_, fun h10 => ?_⟩
            · have h10 := (cc_lt _ _).mp h10
              try simp (disch := decide) only [ti_iv, ti_ivn, ti_n, ti_0, os_si, os_sj, va_up, upd, Nat.reduceEqDiff, reduceIte] at h10
              conv => whnf
              refine pm_gd (by decide) ?_
              refine hZ1 _ _ ?_
              conv => whnf
              refine pm_bt (cdt rfl) ?_
              conv => whnf
              refine hZ0 _ _ ?_
              first
                | exact Or.inl ⟨by omega, rfl, rfl⟩
                | exact Or.inr ⟨by omega, rfl, rfl⟩
            · have h10 := (nc_lt _ _).mp h10
              try simp (disch := decide) only [ti_iv, ti_ivn, ti_n, ti_0, os_si, os_sj, va_up, upd, Nat.reduceEqDiff, reduceIte] at h10
              conv => whnf
              refine ⟨fun h11 => ?_, fun h11 => ?_⟩
              · have h11 := (cc_ge _ _).mp h11
                try simp (disch := decide) only [ti_iv, ti_ivn, ti_n, ti_0, os_si, os_sj, va_up, upd, Nat.reduceEqDiff, reduceIte] at h11
                conv => whnf
                refine pm_gd (by decide) ?_
                refine hZ1 _ _ ?_
                conv => whnf
                refine pm_bt (cdt rfl) ?_
                conv => whnf
                refine hZ0 _ _ ?_
                first
                  | exact Or.inl ⟨by omega, rfl, rfl⟩
                  | exact Or.inr ⟨by omega, rfl, rfl⟩
              · have h11 := (nc_ge _ _).mp h11
                try simp (disch := decide) only [ti_iv, ti_ivn, ti_n, ti_0, os_si, os_sj, va_up, upd, Nat.reduceEqDiff, reduceIte] at h11
                conv => whnf
                refine pm_gd (by decide) ?_
                refine hZ1 _ _ ?_
                conv => whnf
                refine pm_bf (cdf rfl) ?_
                conv => whnf
                refine pm_bf (cdf rfl) ?_
                conv => whnf
                refine pm_bt (cdt rfl) ?_
                conv => whnf
                refine hZ0 _ _ ?_
                first
                  | exact Or.inl ⟨by omega, rfl, rfl⟩
                  | exact Or.inr ⟨by omega, rfl, rfl⟩
      · have h7 := (nc_lt _ _).mp h7
        try simp (disch := decide) only [ti_iv, ti_ivn, ti_n, ti_0, os_si, os_sj, va_up, upd, Nat.reduceEqDiff, reduceIte] at h7
        conv => whnf
        refine ⟨fun h12 => ?_, fun h12 => ?_⟩
        · have h12 := (cc_ge _ _).mp h12
          try simp (disch := decide) only [ti_iv, ti_ivn, ti_n, ti_0, os_si, os_sj, va_up, upd, Nat.reduceEqDiff, reduceIte] at h12
          conv => whnf
          refine pm_gd (by decide) ?_
          refine hZ1 _ _ ?_
          conv => whnf
          refine pm_bt (cdt rfl) ?_
          conv => whnf
          refine hcl0 _ _ _ _ ?_
          refine S_Model_isIn [] 400 rfl (fun R1 cl1 Z1 hR1 hcl1 hZ1 => ?_)
          conv => whnf
          refine ⟨fun h13 => ?_, fun h13 => ?_⟩
          · have h13 := (cc_lt _ _).mp h13
            try simp (disch := decide) only [ti_iv, ti_ivn, ti_n, ti_0, os_si, os_sj, va_up, upd, Nat.reduceEqDiff, reduceIte] at h13
            conv => whnf
            refine pm_gd (by decide) ?_
            refine hZ1 _ _ ?_
            conv => whnf
            refine pm_bt (cdt rfl) ?_
            conv => whnf
            refine hZ0 _ _ ?_
            first
              | exact Or.inl ⟨by omega, rfl, rfl⟩
              | exact Or.inr ⟨by omega, rfl, rfl⟩
          · have h13 := (nc_lt _ _).mp h13
            try simp (disch := decide) only [ti_iv, ti_ivn, ti_n, ti_0, os_si, os_sj, va_up, upd, Nat.reduceEqDiff, reduceIte] at h13
            conv => whnf
            refine ⟨fun h14 => ?_, fun h14 => ?_⟩
            · have h14 := (cc_gt _ _).mp h14
              try simp (disch := decide) only [ti_iv, ti_ivn, ti_n, ti_0, os_si, os_sj, va_up, upd, Nat.reduceEqDiff, reduceIte] at h14
              conv => whnf
              refine pm_gd (by decide) ?_
              refine hZ1 _ _ ?_
              conv => whnf
              refine pm_bt (cdt rfl) ?_
              conv => whnf
              refine hZ0 _ _ ?_
              first
                | exact Or.inl ⟨by omega, rfl, rfl⟩
                | exact Or.inr ⟨by omega, rfl, rfl⟩
            · have h14 := (nc_gt _ _).mp h14
              try simp (disch := decide) only [ti_iv, ti_ivn, ti_n, ti_0, os_si, os_sj, va_up, upd, Nat.reduceEqDiff, reduceIte] at h14
              conv => whnf
              refine pm_gd (by decide) ?_
              refine hZ1 _ _ ?_
              conv => whnf
              refine pm_bf (cdf rfl) ?_
              conv => whnf
              refine hcl0 _ _ _ _ ?_
              refine S_Model_isOne [] 400 rfl (fun R1 cl1 Z1 hR1 hcl1 hZ1 => ?_)
              conv => whnf
              refine ⟨fun h15 => ?_, fun h15 => ?_⟩
              · have h15 := (cc_lt _ _).mp h15
                try simp (disch := decide) only [ti_iv, ti_ivn, ti_n, ti_0, os_si, os_sj, va_up, upd, Nat.reduceEqDiff, reduceIte] at h15
                conv => whnf
                refine pm_gd (by decide) ?_
                refine hZ1 _ _ ?_
                conv => whnf
                refine pm_bt (cdt rfl) ?_
                conv => whnf
                refine hZ0 _ _ ?_
                first
                  | exact Or.inl ⟨by omega, rfl, rfl⟩
                  | exact Or.inr ⟨by omega, rfl, rfl⟩
              · have h15 := (nc_lt _ _).mp h15
                try simp (disch := decide) only [ti_iv, ti_ivn, ti_n, ti_0, os_si, os_sj, va_up, upd, Nat.reduceEqDiff, reduceIte] at h15
                conv => whnf
                refine ⟨fun h16 => ?_, fun h16 => ?_⟩
                · have h16 := (cc_ge _ _).mp h16
                  try simp (disch := decide) only [ti_iv, ti_ivn, ti_n, ti_0, os_si, os_sj, va_up, upd, Nat.reduceEqDiff, reduceIte] at h16
                  conv => whnf
                  refine pm_gd (by decide) ?_
                  refine hZ1 _ _ ?_
                  conv => whnf
                  refine pm_bt (cdt rfl) ?_
                  conv => whnf
                  refine hZ0 _ _ ?_
                  first
                    | exact Or.inl ⟨by omega, rfl, rfl⟩
                    | exact Or.inr ⟨by omega, rfl, rfl⟩
                · have h16 := (nc_ge _ _).mp h16
                  try simp (disch := decide) only [ti_iv, ti_ivn, ti_n, ti_0, os_si, os_sj, va_up, upd, Nat.reduceEqDiff, reduceIte] at h16
                  conv => whnf
                  refine pm_gd (by decide) ?_
                  refine hZ1 _ _ ?_
                  conv => whnf
                  refine pm_bf (cdf rfl) ?_
                  conv => whnf
                  refine pm_bf (cdf rfl) ?_
                  conv => whnf
                  refine pm_bt (cdt rfl) ?_
                  conv => whnf
                  refine hZ0 _ _ ?_
                  first
                    | exact Or.inl ⟨by omega, rfl, rfl⟩
                    | exact Or.inr ⟨by omega, rfl, rfl⟩
        · have h12 := (nc_ge _ _).mp h12
          try simp (disch := decide) only [ti_iv, ti_ivn, ti_n, ti_0, os_si, os_sj, va_up, upd, Nat.reduceEqDiff, reduceIte] at h12
          conv => whnf
          refine pm_gd (by decide) ?_
          refine hZ1 _ _ ?_
          conv => whnf
          refine pm_bf (cdf rfl) ?_
          conv => whnf
          refine hcl0 _ _ _ _ ?_
          refine S_Model_isIn [] 400 rfl (fun R1 cl1 Z1 hR1 hcl1 hZ1 => ?_)
          conv => whnf
          refine ⟨fun h17 => ?_, fun h17 => ?_⟩
          · have h17 := (cc_lt _ _).mp h17
            try simp (disch := decide) only [ti_iv, ti_ivn, ti_n, ti_0, os_si, os_sj, va_up, upd, Nat.reduceEqDiff, reduceIte] at h17
            conv => whnf
            refine pm_gd (by decide) ?_
            refine hZ1 _ _ ?_
            conv => whnf
            refine pm_bt (cdt rfl) ?_
            conv => whnf
            refine hZ0 _ _ ?_
            first
              | exact Or.inl ⟨by omega, rfl, rfl⟩
              | exact Or.inr ⟨by omega, rfl, rfl⟩
          · have h17 := (nc_lt _ _).mp h17
            try simp (disch := decide) only [ti_iv, ti_ivn, ti_n, ti_0, os_si, os_sj, va_up, upd, Nat.reduceEqDiff, reduceIte] at h17
            conv => whnf
            refine ⟨fun h18 => ?_, fun h18 => ?_⟩
            · have h18 := (cc_gt _ _).mp h18
              try simp (disch := decide) only [ti_iv, ti_ivn, ti_n, ti_0, os_si, os_sj, va_up, upd, Nat.reduceEqDiff, reduceIte] at h18
              conv => whnf
              refine pm_gd (by decide) ?_
              refine hZ1 _ _ ?_
              conv => whnf
              refine pm_bt (cdt rfl) ?_
              conv => whnf
              refine hZ0 _ _ ?_
              first
                | exact Or.inl ⟨by omega, rfl, rfl⟩
                | exact Or.inr ⟨by omega, rfl, rfl⟩
            · have h18 := (nc_gt _ _).mp h18
              try simp (disch := decide) only [ti_iv, ti_ivn, ti_n, ti_0, os_si, os_sj, va_up, upd, Nat.reduceEqDiff, reduceIte] at h18
              conv => whnf
              refine pm_gd (by decide) ?_
              refine hZ1 _ _ ?_
              conv => whnf
              refine pm_bf (cdf rfl) ?_
              conv => whnf
              refine hcl0 _ _ _ _ ?_
              refine S_Model_isOne [] 400 rfl (fun R1 cl1 Z1 hR1 hcl1 hZ1 => ?_)
              conv => whnf
              refine ⟨fun h19 => ?_, fun h19 => ?_⟩
              · have h19 := (cc_lt _ _).mp h19
                try simp (disch := decide) only [ti_iv, ti_ivn, ti_n, ti_0, os_si, os_sj, va_up, upd, Nat.reduceEqDiff, reduceIte] at h19
                conv => whnf
                refine pm_gd (by decide) ?_
                refine hZ1 _ _ ?_
                conv => whnf
                refine pm_bt (cdt rfl) ?_
                conv => whnf
                refine hZ0 _ _ ?_
                first
                  | exact Or.inl ⟨by omega, rfl, rfl⟩
                  | exact Or.inr ⟨by omega, rfl, rfl⟩
              · have h19 := (nc_lt _ _).mp h19
                try simp (disch := decide) only [ti_iv, ti_ivn, ti_n, ti_0, os_si, os_sj, va_up, upd, Nat.reduceEqDiff, reduceIte] at h19
                conv => whnf
                refine ⟨fun h20 => ?_, fun h20 => ?_⟩
                · have h20 := (cc_ge _ _).mp h20
                  try simp (disch := decide) only [ti_iv, ti_ivn, ti_n, ti_0, os_si, os_sj, va_up, upd, Nat.reduceEqDiff, reduceIte] at h20
                  conv => whnf
                  refine pm_gd (by decide) ?_
                  refine hZ1 _ _ ?_
                  conv => whnf
                  refine pm_bt (cdt rfl) ?_
                  conv => whnf
                  refine hZ0 _ _ ?_
                  first
                    | exact Or.inl ⟨by omega, rfl, rfl⟩
                    | exact Or.inr ⟨by omega, rfl, rfl⟩
                · have h20 := (nc_ge _ _).mp h20
                  try simp (disch := decide) only [ti_iv, ti_ivn, ti_n, ti_0, os_si, os_sj, va_up, upd, Nat.reduceEqDiff, reduceIte] at h20
                  conv => whnf
                  refine pm_gd (by decide) ?_
                  refine hZ1 _ _ ?_
                  conv => whnf
                  refine pm_bf (cdf rfl) ?_
                  conv => whnf
                  refine pm_bf (cdf rfl) ?_
                  conv => whnf
                  refine pm_bf (cdf rfl) ?_
                  conv => whnf
                  refine ⟨fun h21 => ?_, fun h21 => ?_⟩
                  · have h21 := (cc_ne _ _).mp h21
                    try simp (disch := decide) only [ti_iv, ti_ivn, ti_n, ti_0, os_si, os_sj, va_up, upd, Nat.reduceEqDiff, reduceIte] at h21
                    conv => whnf
                    refine pm_gd (gI (by (try simp (disch := decide) only [ti_iv, ti_ivn, ti_n, ti_0, os_si, os_sj, va_up, upd, Nat.reduceEqDiff, reduceIte]); omega) (by (try simp (disch := decide) only [ti_iv, ti_ivn, ti_n, ti_0, os_si, os_sj, va_up, upd, Nat.reduceEqDiff, reduceIte]); omega)) ?_
                    conv => whnf
                    refine pm_gd (gI (by (try simp (disch := decide) only [ti_iv, ti_ivn, ti_n, ti_0, os_si, os_sj, va_up, upd, Nat.reduceEqDiff, reduceIte]); omega) (by (try simp (disch := decide) only [ti_iv, ti_ivn, ti_n, ti_0, os_si, os_sj, va_up, upd, Nat.reduceEqDiff, reduceIte]); omega)) ?_
                    conv => whnf
                    refine pm_gd (gI (by (try simp (disch := decide) only [ti_iv, ti_ivn, ti_n, ti_0, os_si, os_sj, va_up, upd, Nat.reduceEqDiff, reduceIte]); omega) (by (try simp (disch := decide) only [ti_iv, ti_ivn, ti_n, ti_0, os_si, os_sj, va_up, upd, Nat.reduceEqDiff, reduceIte]); omega)) ?_
                    conv => whnf
                    refine pm_gd (gI (by (try simp (disch := decide) only [ti_iv, ti_ivn, ti_n, ti_0, os_si, os_sj, va_up, upd, Nat.reduceEqDiff, reduceIte]); omega) (by (try simp (disch := decide) only [ti_iv, ti_ivn, ti_n, ti_0, os_si, os_sj, va_up, upd, Nat.reduceEqDiff, reduceIte]); omega)) ?_
                    conv => whnf
                    refine hZ0 _ _ ?_
                    first
                      | exact Or.inl ⟨by omega, rfl, rfl⟩
                      | exact Or.inr ⟨by omega, rfl, rfl⟩
                  · have h21 := (nc_ne _ _).mp h21
                    try simp (disch := decide) only [ti_iv, ti_ivn, ti_n, ti_0, os_si, os_sj, va_up, upd, Nat.reduceEqDiff, reduceIte] at h21
                    conv => whnf
                    refine hZ0 _ _ ?_
                    first
                      | exact Or.inl ⟨by omega, rfl, rfl⟩
                      | exact Or.inr ⟨by omega, rfl, rfl⟩
  · have h1 := (nc_ne _ _).mp h1
    try simp (disch := decide) only [ti_iv, ti_ivn, ti_n, ti_0, os_si, os_sj, va_up, upd, Nat.reduceEqDiff, reduceIte] at h1
    conv => whnf
    refine hcl0 _ _ _ _ ?_
    refine S_Model_isOne [] 400 rfl (fun R1 cl1 Z1 hR1 hcl1 hZ1 => ?_)
    conv => whnf
    refine ⟨fun h22 => ?_, fun h22 => ?_⟩
    · have h22 := (cc_lt _ _).mp h22
      try simp (disch := decide) only [ti_iv, ti_ivn, ti_n, ti_0, os_si, os_sj, va_up, upd, Nat.reduceEqDiff, reduceIte] at h22
      conv => whnf
      refine pm_gd (by decide) ?_
      refine hZ1 _ _ ?_
      conv => whnf
      refine pm_bt (cdt rfl) ?_
      conv => whnf
      refine ⟨fun h23 => ?_, fun h23 => ?_⟩
      · have h23 := (cc_ne _ _).mp h23
        try simp (disch := decide) only [ti_iv, ti_ivn, ti_n, ti_0, os_si, os_sj, va_up, upd, Nat.reduceEqDiff, reduceIte] at h23
        conv => whnf
        refine hcl0 _ _ _ _ ?_
        refine S_Model_isIn [] 400 rfl (fun R1 cl1 Z1 hR1 hcl1 hZ1 => ?_)
        conv => whnf
        refine ⟨fun h24 => ?_, fun h24 => ?_⟩
        · have h24 := (cc_lt _ _).mp h24
          try simp (disch := decide) only [ti_iv, ti_ivn, ti_n, ti_0, os_si, os_sj, va_up, upd, Nat.reduceEqDiff, reduceIte] at h24
          conv => whnf
          refine pm_gd (by decide) ?_
          refine hZ1 _ _ ?_
          conv => whnf
          refine pm_bt (cdt rfl) ?_
          conv => whnf
          refine hZ0 _ _ ?_
          first
            | exact Or.inl ⟨by omega, rfl, rfl⟩
            | exact Or.inr ⟨by omega, rfl, rfl⟩
        · have h24 := (nc_lt _ _).mp h24
          try simp (disch := decide) only [ti_iv, ti_ivn, ti_n, ti_0, os_si, os_sj, va_up, upd, Nat.reduceEqDiff, reduceIte] at h24
          conv => whnf
          refine ⟨fun h25 => ?_, fun h25 => ?_⟩
          · have h25 := (cc_gt _ _).mp h25
            try simp (disch := decide) only [ti_iv, ti_ivn, ti_n, ti_0, os_si, os_sj, va_up, upd, Nat.reduceEqDiff, reduceIte] at h25
            conv => whnf
            refine pm_gd (by decide) ?_
            refine hZ1 _ _ ?_
            conv => whnf
            refine pm_bt (cdt rfl) ?_
            conv => whnf
            refine hZ0 _ _ ?_
            first
              | exact Or.inl ⟨by omega, rfl, rfl⟩
              | exact Or.inr ⟨by omega, rfl, rfl⟩
          · have h25 := (nc_gt _ _).mp h25
            try simp (disch := decide) only [ti_iv, ti_ivn, ti_n, ti_0, os_si, os_sj, va_up, upd, Nat.reduceEqDiff, reduceIte] at h25
            conv => whnf
            refine pm_gd (by decide) ?_
            refine hZ1 _ _ ?_
            conv => whnf
            refine pm_bf (cdf rfl) ?_
            conv => whnf
            refine hcl0 _ _ _ _ ?_
            refine S_Model_isOne [] 400 rfl (fun R1 cl1 Z1 hR1 hcl1 hZ1 => ?_)
            conv => whnf
            refine ⟨fun h26 => ?_, fun h26 => ?_⟩
            · have h26 := (cc_lt _ _).mp h26
              try simp (disch := decide) only [ti_iv, ti_ivn, ti_n, ti_0, os_si, os_sj, va_up, upd, Nat.reduceEqDiff, reduceIte] at h26
              conv => whnf
              refine pm_gd (by decide) ?_
              refine hZ1 _ _ ?_
              conv => whnf
              refine pm_bt (cdt rfl) ?_
              conv => whnf
              refine hZ0 _ _ ?_
              first
                | exact Or.inl ⟨by omega, rfl, rfl⟩
                | exact Or.inr ⟨by omega, rfl, rfl⟩
            · have h26 := (nc_lt _ _).mp h26
              try simp (disch := decide) only [ti_iv, ti_ivn, ti_n, ti_0, os_si, os_sj, va_up, upd, Nat.reduceEqDiff, reduceIte] at h26
              conv => whnf
              refine ⟨fun h27 => ?_, fun h27 => ?_⟩
              · have h27 := (cc_ge _ _).mp h27
                try simp (disch := decide) only [ti_iv, ti_ivn, ti_n, ti_0, os_si, os_sj, va_up, upd, Nat.reduceEqDiff, reduceIte] at h27
                conv => whnf
                refine pm_gd (by decide) ?_
                refine hZ1 _ _ ?_
                conv => whnf
                refine pm_bt (cdt rfl) ?_
                conv => whnf
                refine hZ0 _ _ ?_
                first
                  | exact Or.inl ⟨by omega, rfl, rfl⟩
                  | exact Or.inr ⟨by omega, rfl, rfl⟩
              · have h27 := (nc_ge _ _).mp h27
                try simp (disch := decide) only [ti_iv, ti_ivn, ti_n, ti_0, os_si, os_sj, va_up, upd, Nat.reduceEqDiff, reduceIte] at h27
                conv => whnf
                refine pm_gd (by decide) ?_
                refine hZ1 _ _ ?_
                conv => whnf
                refine pm_bf (cdf rfl) ?_
                conv => whnf
                refine pm_bf (cdf rfl) ?_
                conv => whnf
                refine pm_bt (cdt rfl) ?_
                conv => whnf
                refine hZ0 _ _ ?_
                first
                  | exact Or.inl ⟨by omega, rfl, rfl⟩
                  | exact Or.inr ⟨by omega, rfl, rfl⟩
      · have h23 := (nc_ne _ _).mp h23
        try simp (disch := decide) only [ti_iv, ti_ivn, ti_n, ti_0, os_si, os_sj, va_up, upd, Nat.reduceEqDiff, reduceIte] at h23
        conv => whnf
        refine hcl0 _ _ _ _ ?_
        refine S_Model_isSpot [] 400 rfl (fun R1 cl1 Z1 hR1 hcl1 hZ1 => ?_)
        conv => whnf
        refine ⟨fun h28 => ?_, fun h28 => ?_⟩
        · have h28 := (cc_lt _ _).mp h28
          try simp (disch := decide) only [ti_iv, ti_ivn, ti_n, ti_0, os_si, os_sj, va_up, upd, Nat.reduceEqDiff, reduceIte] at h28
          conv => whnf
          refine pm_gd (by decide) ?_
          refine hZ1 _ _ ?_
          conv => whnf
          refine pm_bt (cdt rfl) ?_
          conv => whnf
          refine hcl0 _ _ _ _ ?_
          refine S_Model_isIn [] 400 rfl (fun R1 cl1 Z1 hR1 hcl1 hZ1 => ?_)
          conv => whnf
          refine ⟨fun h29 => ?_, fun h29 => ?_⟩
          · have h29 := (cc_lt _ _).mp h29
            try simp (disch := decide) only [ti_iv, ti_ivn, ti_n, ti_0, os_si, os_sj, va_up, upd, Nat.reduceEqDiff, reduceIte] at h29
            conv => whnf
            refine pm_gd (by decide) ?_
            refine hZ1 _ _ ?_
            conv => whnf
            refine pm_bt (cdt rfl) ?_
            conv => whnf
            refine hZ0 _ _ ?_
            first
              | exact Or.inl ⟨by omega, rfl, rfl⟩
              | exact Or.inr ⟨by omega, rfl, rfl⟩
          · have h29 := (nc_lt _ _).mp h29
            try simp (disch := decide) only [ti_iv, ti_ivn, ti_n, ti_0, os_si, os_sj, va_up, upd, Nat.reduceEqDiff, reduceIte] at h29
            conv => whnf
            refine ⟨fun h30 => ?_, fun h30 => ?_⟩
            · have h30 := (cc_gt _ _).mp h30
              try simp (disch := decide) only [ti_iv, ti_ivn, ti_n, ti_0, os_si, os_sj, va_up, upd, Nat.reduceEqDiff, reduceIte] at h30
              conv => whnf
              refine pm_gd (by decide) ?_
              refine hZ1 _ _ ?_
              conv => whnf
              refine pm_bt (cdt rfl) ?_
              conv => whnf
              refine hZ0 _ _ ?_
              first
                | exact Or.inl ⟨by omega, rfl, rfl⟩
                | exact Or.inr ⟨by omega, rfl, rfl⟩
            · have h30 := (nc_gt _ _).mp h30
              try simp (disch := decide) only [ti_iv, ti_ivn, ti_n, ti_0, os_si, os_sj, va_up, upd, Nat.reduceEqDiff, reduceIte] at h30
              conv => whnf
              refine pm_gd (by decide) ?_
              refine hZ1 _ _ ?_
              conv => whnf
              refine pm_bf (cdf rfl) ?_
              conv => whnf
              refine hcl0 _ _ _ _ ?_
              refine S_Model_isOne [] 400 rfl (fun R1 cl1 Z1 hR1 hcl1 hZ1 => ?_)
              conv => whnf
              refine ⟨fun h31 => ?_, fun h31 => ?_⟩
              · have h31 := (cc_lt _ _).mp h31
                try simp (disch := decide) only [ti_iv, ti_ivn, ti_n, ti_0, os_si, os_sj, va_up, upd, Nat.reduceEqDiff, reduceIte] at h31
                conv => whnf
                refine pm_gd (by decide) ?_
                refine hZ1 _ _ ?_
                conv => whnf
                refine pm_bt (cdt rfl) ?_
                conv => whnf
                refine hZ0 _ _ ?_
                first
                  | exact Or.inl ⟨by omega, rfl, rfl⟩
                  | exact Or.inr ⟨by omega, rfl, rfl⟩
              · have h31 := (nc_lt _ _).mp h31
                try simp (disch := decide) only [ti_iv, ti_ivn, ti_n, ti_0, os_si, os_sj, va_up, upd, Nat.reduceEqDiff, reduceIte] at h31
                conv => whnf
                refine ⟨fun h32 => ?_, fun h32 => ?_⟩
                · have h32 := (cc_ge _ _).mp h32
                  try simp (disch := decide) only [ti_iv, ti_ivn, ti_n, ti_0, os_si, os_sj, va_up, upd, Nat.reduceEqDiff, reduceIte] at h32
                  conv => whnf
                  refine pm_gd (by decide) ?_
                  refine hZ1 _ _ ?_
                  conv => whnf
                  refine pm_bt (cdt rfl) ?_
                  conv => whnf
                  refine hZ0 _ _ ?_
                  first
                    | exact Or.inl ⟨by omega, rfl, rfl⟩
                    | exact Or.inr ⟨by omega, rfl, rfl⟩
                · have h32 := (nc_ge _ _).mp h32
                  try simp (disch := decide) only [ti_iv, ti_ivn, ti_n, ti_0, os_si, os_sj, va_up, upd, Nat.reduceEqDiff, reduceIte] at h32
                  conv => whnf
                  refine pm_gd (by decide) ?_
                  refine hZ1 _ _ ?_
                  conv => whnf
                  refine pm_bf (cdf rfl) ?_
                  conv => whnf
                  refine pm_bf (cdf rfl) ?_
                  conv => whnf
                  refine pm_bt (cdt rfl) ?_
                  conv => whnf
                  refine hZ0 _ _ ?_
                  first
                    | exact Or.inl ⟨by omega, rfl, rfl⟩
                    | exact Or.inr ⟨by omega, rfl, rfl⟩
        · have h28 := (nc_lt _ _).mp h28
          try simp (disch := decide) only [ti_iv, ti_ivn, ti_n, ti_0, os_si, os_sj, va_up, upd, Nat.reduceEqDiff, reduceIte] at h28
          conv => whnf
          refine ⟨fun h33 => ?_, fun h33 => ?_⟩
          · have h33 := (cc_ge _ _).mp h33
            try simp (disch := decide) only [ti_iv, ti_ivn, ti_n, ti_0, os_si, os_sj, va_up, upd, Nat.reduceEqDiff, reduceIte] at h33
            conv => whnf
            refine pm_gd (by decide) ?_
            refine hZ1 _ _ ?_
            conv => whnf
            refine pm_bt (cdt rfl) ?_
            conv => whnf
            refine hcl0 _ _ _ _ ?_
            refine S_Model_isIn [] 400 rfl (fun R1 cl1 Z1 hR1 hcl1 hZ1 => ?_)
            conv => whnf
            refine ⟨fun h34 => ?_, fun h34 => ?_⟩
            · have h34 := (cc_lt _ _).mp h34
              try simp (disch := decide) only [ti_iv, ti_ivn, ti_n, ti_0, os_si, os_sj, va_up, upd, Nat.reduceEqDiff, reduceIte] at h34
              conv => whnf
              refine pm_gd (by decide) ?_
              refine hZ1 _ _ ?_
              conv => whnf
              refine pm_bt (cdt rfl) ?_
              conv => whnf
              refine hZ0 _ _ ?_
              first
                | exact Or.inl ⟨by omega, rfl, rfl⟩
                | exact Or.inr ⟨by omega, rfl, rfl⟩
            · have h34 := (nc_lt _ _).mp h34
              try simp (disch := decide) only [ti_iv, ti_ivn, ti_n, ti_0, os_si, os_sj, va_up, upd, Nat.reduceEqDiff, reduceIte] at h34
              conv => whnf
              refine ⟨fun h35 => ?_, fun h35 => ?_⟩
              · have h35 := (cc_gt _ _).mp h35
                try simp (disch := decide) only [ti_iv, ti_ivn, ti_n, ti_0, os_si, os_sj, va_up, upd, Nat.reduceEqDiff, reduceIte] at h35
                conv => whnf
                refine pm_gd (by decide) ?_
                refine hZ1 _ _ ?_
                conv => whnf
                refine pm_bt (cdt rfl) ?_
                conv => whnf
                refine hZ0 _ _ ?_
                first
                  | exact Or.inl ⟨by omega, rfl, rfl⟩
                  | exact Or.inr ⟨by omega, rfl, rfl⟩
              · have h35 := (nc_gt _ _).mp h35
                try simp (disch := decide) only [ti_iv, ti_ivn, ti_n, ti_0, os_si, os_sj, va_up, upd, Nat.reduceEqDiff, reduceIte] at h35
                conv => whnf
                refine pm_gd (by decide) ?_
                refine hZ1 _ _ ?_
                conv => whnf
                refine pm_bf (cdf rfl) ?_
                conv => whnf
                refine hcl0 _ _ _ _ ?_
                refine S_Model_isOne [] 400 rfl (fun R1 cl1 Z1 hR1 hcl1 hZ1 => ?_)
                conv => whnf
                refine ⟨fun h36 => ?_, fun h36 => ?_⟩
                · have h36 := (cc_lt _ _).mp h36
                  try simp (disch := decide) only [ti_iv, ti_ivn, ti_n, ti_0, os_si, os_sj, va_up, upd, Nat.reduceEqDiff, reduceIte] at h36
                  conv => whnf
                  refine pm_gd (by decide) ?_
                  refine hZ1 _ _ ?_
                  conv => whnf
                  refine pm_bt (cdt rfl) ?_
                  conv => whnf
                  refine hZ0 _ _ ?_
                  first
                    | exact Or.inl ⟨by omega, rfl, rfl⟩
                    | exact Or.inr ⟨by omega, rfl, rfl⟩
                · have h36 := (nc_lt _ _).mp h36
                  try simp (disch := decide) only [ti_iv, ti_ivn, ti_n, ti_0, os_si, os_sj, va_up, upd, Nat.reduceEqDiff, reduceIte] at h36
                  conv => whnf
                  refine ⟨fun h37 => ?_, fun h37 => ?_⟩
                  · have h37 := (cc_ge _ _).mp h37
                    try simp (disch := decide) only [ti_iv, ti_ivn, ti_n, ti_0, os_si, os_sj, va_up, upd, Nat.reduceEqDiff, reduceIte] at h37
                    conv => whnf
                    refine pm_gd (by decide) ?_
                    refine hZ1 _ _ ?_
                    conv => whnf
                    refine pm_bt (cdt rfl) ?_
                    conv => whnf
                    refine hZ0 _ _ ?_
                    first
                      | exact Or.inl ⟨by omega, rfl, rfl⟩
                      | exact Or.inr ⟨by omega, rfl, rfl⟩
                  · have h37 := (nc_ge _ _).mp h37
                    try simp (disch := decide) only [ti_iv, ti_ivn, ti_n, ti_0, os_si, os_sj, va_up, upd, Nat.reduceEqDiff, reduceIte] at h37
                    conv => whnf
                    refine pm_gd (by decide) ?_
                    refine hZ1 _ _ ?_
                    conv => whnf
                    refine pm_bf (cdf rfl) ?_
                    conv => whnf
                    refine pm_bf (cdf rfl) ?_
                    conv => whnf
                    refine pm_bt (cdt rfl) ?_
                    conv => whnf
                    refine hZ0 _ _ ?_
                    first
                      | exact Or.inl ⟨by omega, rfl, rfl⟩
                      | exact Or.inr ⟨by omega, rfl, rfl⟩
          · have h33 := (nc_ge _ _).mp h33
            try simp (disch := decide) only [ti_iv, ti_ivn, ti_n, ti_0, os_si, os_sj, va_up, upd, Nat.reduceEqDiff, reduceIte] at h33
            conv => whnf
            refine pm_gd (by decide) ?_
            refine hZ1 _ _ ?_
            conv => whnf
            refine pm_bf (cdf rfl) ?_
            conv => whnf
            refine hcl0 _ _ _ _ ?_
            refine S_Model_isIn [] 400 rfl (fun R1 cl1 Z1 hR1 hcl1 hZ1 => ?_)
            conv => whnf
            refine ⟨fun h38 => ?_, fun h38 => ?_⟩
            · have h38 := (cc_lt _ _).mp h38
              try simp (disch := decide) only [ti_iv, ti_ivn, ti_n, ti_0, os_si, os_sj, va_up, upd, Nat.reduceEqDiff, reduceIte] at h38
              conv => whnf
              refine pm_gd (by decide) ?_
              refine hZ1 _ _ ?_
              conv => whnf
              refine pm_bt (cdt rfl) ?_
              conv => whnf
              refine hZ0 _ _ ?_
              first
                | exact Or.inl ⟨by omega, rfl, rfl⟩
                | exact Or.inr ⟨by omega, rfl, rfl⟩
            · have h38 := (nc_lt _ _).mp h38
              try simp (disch := decide) only [ti_iv, ti_ivn, ti_n, ti_0, os_si, os_sj, va_up, upd, Nat.reduceEqDiff, reduceIte] at h38
              conv => whnf
              refine ⟨fun h39 => ?_, fun h39 => ?_⟩
              · have h39 := (cc_gt _ _).mp h39
                try simp (disch := decide) only [ti_iv, ti_ivn, ti_n, ti_0, os_si, os_sj, va_up, upd, Nat.reduceEqDiff, reduceIte] at h39
                conv => whnf
                refine pm_gd (by decide) ?_
                refine hZ1 _ _ ?_
                conv => whnf
                refine pm_bt (cdt rfl) ?_
                conv => whnf
                refine hZ0 _ _ ?_
                first
                  | exact Or.inl ⟨by omega, rfl, rfl⟩
                  | exact Or.inr ⟨by omega, rfl, rfl⟩
              · have h39 := (nc_gt _ _).mp h39
                try simp (disch := decide) only [ti_iv, ti_ivn, ti_n, ti_0, os_si, os_sj, va_up, upd, Nat.reduceEqDiff, reduceIte] at h39
                conv => whnf
                refine pm_gd (by decide) ?_
                refine hZ1 _ _ ?_
                conv => whnf
                refine pm_bf (cdf rfl) ?_
                conv => whnf
                refine hcl0 _ _ _ _ ?_
                refine S_Model_isOne [] 400 rfl (fun R1 cl1 Z1 hR1 hcl1 hZ1 => ?_)
                conv => whnf
                refine ⟨fun h40 => ?_, fun h40 => ?_⟩
                · have h40 := (cc_lt _ _).mp h40
                  try simp (disch := decide) only [ti_iv, ti_ivn, ti_n, ti_0, os_si, os_sj, va_up, upd, Nat.reduceEqDiff, reduceIte] at h40
                  conv => whnf
                  refine pm_gd (by decide) ?_
                  refine hZ1 _ _ ?_
                  conv => whnf
                  refine pm_bt (cdt rfl) ?_
                  conv => whnf
                  refine hZ0 _ _ ?_
                  first
                    | exact Or.inl ⟨by omega, rfl, rfl⟩
                    | exact Or.inr ⟨by omega, rfl, rfl⟩
                · have h40 := (nc_lt _ _).mp h40
                  try simp (disch := decide) only [ti_iv, ti_ivn, ti_n, ti_0, os_si, os_sj, va_up, upd, Nat.reduceEqDiff, reduceIte] at h40
                  conv => whnf
                  refine ⟨fun h41 => ?_, fun h41 => ?_⟩
                  · have h41 := (cc_ge _ _).mp h41
                    try simp (disch := decide) only [ti_iv, ti_ivn, ti_n, ti_0, os_si, os_sj, va_up, upd, Nat.reduceEqDiff, reduceIte] at h41
                    conv => whnf
                    refine pm_gd (by decide) ?_
                    refine hZ1 _ _ ?_
                    conv => whnf
                    refine pm_bt (cdt rfl) ?_
                    conv => whnf
                    refine hZ0 _ _ ?_
                    first
                      | exact Or.inl ⟨by omega, rfl, rfl⟩
                      | exact Or.inr ⟨by omega, rfl, rfl⟩
                  · have h41 := (nc_ge _ _).mp h41
                    try simp (disch := decide) only [ti_iv, ti_ivn, ti_n, ti_0, os_si, os_sj, va_up, upd, Nat.reduceEqDiff, reduceIte] at h41
                    conv => whnf
                    refine pm_gd (by decide) ?_
                    refine hZ1 _ _ ?_
                    conv => whnf
                    refine pm_bf (cdf rfl) ?_
                    conv => whnf
                    refine pm_bf (cdf rfl) ?_
                    conv => whnf
                    refine pm_bf (cdf rfl) ?_
                    conv => whnf
                    refine ⟨fun h42 => ?_, fun h42 => ?_⟩
                    · have h42 := (cc_ne _ _).mp h42
                      try simp (disch := decide) only [ti_iv, ti_ivn, ti_n, ti_0, os_si, os_sj, va_up, upd, Nat.reduceEqDiff, reduceIte] at h42
                      conv => whnf
                      refine pm_gd (gI (by (try simp (disch := decide) only [ti_iv, ti_ivn, ti_n, ti_0, os_si, os_sj, va_up, upd, Nat.reduceEqDiff, reduceIte]); omega) (by (try simp (disch := decide) only [ti_iv, ti_ivn, ti_n, ti_0, os_si, os_sj, va_up, upd, Nat.reduceEqDiff, reduceIte]); omega)) ?_
                      conv => whnf
                      refine pm_gd (gI (by (try simp (disch := decide) only [ti_iv, ti_ivn, ti_n, ti_0, os_si, os_sj, va_up, upd, Nat.reduceEqDiff, reduceIte]); omega) (by (try simp (disch := decide) only [ti_iv, ti_ivn, ti_n, ti_0, os_si, os_sj, va_up, upd, Nat.reduceEqDiff, reduceIte]); omega)) ?_
                      conv => whnf
                      refine pm_gd (gI (by (try simp (disch := decide) only [ti_iv, ti_ivn, ti_n, ti_0, os_si, os_sj, va_up, upd, Nat.reduceEqDiff, reduceIte]); omega) (by (try simp (disch := decide) only [ti_iv, ti_ivn, ti_n, ti_0, os_si, os_sj, va_up, upd, Nat.reduceEqDiff, reduceIte]); omega)) ?_
                      conv => whnf
                      refine pm_gd (gI (by (try simp (disch := decide) only [ti_iv, ti_ivn, ti_n, ti_0, os_si, os_sj, va_up, upd, Nat.reduceEqDiff, reduceIte]); omega) (by (try simp (disch := decide) only [ti_iv, ti_ivn, ti_n, ti_0, os_si, os_sj, va_up, upd, Nat.reduceEqDiff, reduceIte]); omega)) ?_
                      conv => whnf
                      refine hZ0 _ _ ?_
                      first
                        | exact Or.inl ⟨by omega, rfl, rfl⟩
                        | exact Or.inr ⟨by omega, rfl, rfl⟩
                    · have h42 := (nc_ne _ _).mp h42
                      try simp (disch := decide) only [ti_iv, ti_ivn, ti_n, ti_0, os_si, os_sj, va_up, upd, Nat.reduceEqDiff, reduceIte] at h42
                      conv => whnf
                      refine hZ0 _ _ ?_
                      first
                        | exact Or.inl ⟨by omega, rfl, rfl⟩
                        | exact Or.inr ⟨by omega, rfl, rfl⟩
    · have h22 := (nc_lt _ _).mp h22
      try simp (disch := decide) only [ti_iv, ti_ivn, ti_n, ti_0, os_si, os_sj, va_up, upd, Nat.reduceEqDiff, reduceIte] at h22
      conv => whnf
      refine ⟨fun h43 => ?_, fun h43 => ?_⟩
      · have h43 := (cc_ge _ _).mp h43
        try simp (disch := decide) only [ti_iv, ti_ivn, ti_n, ti_0, os_si, os_sj, va_up, upd, Nat.reduceEqDiff, reduceIte] at h43
        conv => whnf
        refine pm_gd (by decide) ?_
        refine hZ1 _ _ ?_
        conv => whnf
        refine pm_bt (cdt rfl) ?_
        conv => whnf
        refine ⟨fun h44 => ?_, fun h44 => ?_⟩
        · have h44 := (cc_ne _ _).mp h44
          try simp (disch := decide) only [ti_iv, ti_ivn, ti_n, ti_0, os_si, os_sj, va_up, upd, Nat.reduceEqDiff, reduceIte] at h44
          conv => whnf
          refine hcl0 _ _ _ _ ?_
          refine S_Model_isIn [] 400 rfl (fun R1 cl1 Z1 hR1 hcl1 hZ1 => ?_)
          conv => whnf
          refine ⟨fun h45 => ?_, fun h45 => ?_⟩
          · have h45 := (cc_lt _ _).mp h45
            try simp (disch := decide) only [ti_iv, ti_ivn, ti_n, ti_0, os_si, os_sj, va_up, upd, Nat.reduceEqDiff, reduceIte] at h45
            conv => whnf
            refine pm_gd (by decide) ?_
            refine hZ1 _ _ ?_
            conv => whnf
            refine pm_bt (cdt rfl) ?_
            conv => whnf
            refine hZ0 _ _ ?_
            first
              | exact Or.inl ⟨by omega, rfl, rfl⟩
              | exact Or.inr ⟨by omega, rfl, rfl⟩
          · have h45 := (nc_lt _ _).mp h45
            try simp (disch := decide) only [ti_iv, ti_ivn, ti_n, ti_0, os_si, os_sj, va_up, upd, Nat.reduceEqDiff, reduceIte] at h45
            conv => whnf
            refine ⟨fun h46 => ?_, fun h46 => ?_⟩
            · have h46 := (cc_gt _ _).mp h46
              try simp (disch := decide) only [ti_iv, ti_ivn, ti_n, ti_0, os_si, os_sj, va_up, upd, Nat.reduceEqDiff, reduceIte] at h46
              conv => whnf
              refine pm_gd (by decide) ?_
              refine hZ1 _ _ ?_
              conv => whnf
              refine pm_bt (cdt rfl) ?_
              conv => whnf
              refine hZ0 _ _ ?_
              first
                | exact Or.inl ⟨by omega, rfl, rfl⟩
                | exact Or.inr ⟨by omega, rfl, rfl⟩
            · have h46 := (nc_gt _ _).mp h46
              try simp (disch := decide) only [ti_iv, ti_ivn, ti_n, ti_0, os_si, os_sj, va_up, upd, Nat.reduceEqDiff, reduceIte] at h46
              conv => whnf
              refine pm_gd (by decide) ?_
              refine hZ1 _ _ ?_
              conv => whnf
              refine pm_bf (cdf rfl) ?_
              conv => whnf
              refine hcl0 _ _ _ _ ?_
              refine S_Model_isOne [] 400 rfl (fun R1 cl1 Z1 hR1 hcl1 hZ1 => ?_)
              conv => whnf
              refine ⟨fun h47 => ?_, fun h47 => ?_⟩
              · have h47 := (cc_lt _ _).mp h47
                try simp (disch := decide) only [ti_iv, ti_ivn, ti_n, ti_0, os_si, os_sj, va_up, upd, Nat.reduceEqDiff, reduceIte] at h47
                conv => whnf
                refine pm_gd (by decide) ?_
                refine hZ1 _ _ ?_
                conv => whnf
                refine pm_bt (cdt rfl) ?_
                conv => whnf
                refine hZ0 _ _ ?_
                first
                  | exact Or.inl ⟨by omega, rfl, rfl⟩
                  | exact Or.inr ⟨by omega, rfl, rfl⟩
              · have h47 := (nc_lt _ _).mp h47
                try simp (disch := decide) only [ti_iv, ti_ivn, ti_n, ti_0, os_si, os_sj, va_up, upd, Nat.reduceEqDiff, reduceIte] at h47
                conv => whnf
                refine ⟨fun h48 => ?_, fun h48 => ?_⟩
                · have h48 := (cc_ge _ _).mp h48
                  try simp (disch := decide) only [ti_iv, ti_ivn, ti_n, ti_0, os_si, os_sj, va_up, upd, Nat.reduceEqDiff, reduceIte] at h48
                  conv => whnf
                  refine pm_gd (by decide) ?_
                  refine hZ1 _ _ ?_
                  conv => whnf
                  refine pm_bt (cdt rfl) ?_
                  conv => whnf
                  refine hZ0 _ _ ?_
                  first
                    | exact Or.inl ⟨by omega, rfl, rfl⟩
                    | exact Or.inr ⟨by omega, rfl, rfl⟩
                · have h48 := (nc_ge _ _).mp h48
                  try simp (disch := decide) only [ti_iv, ti_ivn, ti_n, ti_0, os_si, os_sj, va_up, upd, Nat.reduceEqDiff, reduceIte] at h48
                  conv => whnf
                  refine pm_gd (by decide) ?_
                  refine hZ1 _ _ ?_
                  conv => whnf
                  refine pm_bf (cdf rfl) ?_
                  conv => whnf
                  refine pm_bf (cdf rfl) ?_
                  conv => whnf
                  refine pm_bt (cdt rfl) ?_
                  conv => whnf
                  refine hZ0 _ _ ?_
                  first
                    | exact Or.inl ⟨by omega, rfl, rfl⟩
                    | exact Or.inr ⟨by omega, rfl, rfl⟩
        · have h44 := (nc_ne _ _).mp h44
          try simp (disch := decide) only [ti_iv, ti_ivn, ti_n, ti_0, os_si, os_sj, va_up, upd, Nat.reduceEqDiff, reduceIte] at h44
          conv => whnf
          refine hcl0 _ _ _ _ ?_
          refine S_Model_isSpot [] 400 rfl (fun R1 cl1 Z1 hR1 hcl1 hZ1 => ?_)
          conv => whnf
          refine ⟨fun h49 => ?_, fun h49 => ?_⟩
          · have h49 := (cc_lt _ _).mp h49
            try simp (disch := decide) only [ti_iv, ti_ivn, ti_n, ti_0, os_si, os_sj, va_up, upd, Nat.reduceEqDiff, reduceIte] at h49
            conv => whnf
            refine pm_gd (by decide) ?_
            refine hZ1 _ _ ?_
            conv => whnf
            refine pm_bt (cdt rfl) ?_
            conv => whnf
            refine hcl0 _ _ _ _ ?_
            refine S_Model_isIn [] 400 rfl (fun R1 cl1 Z1 hR1 hcl1 hZ1 => ?_)
            conv => whnf
            refine ⟨fun h50 => ?_, fun h50 => ?_⟩
            · have h50 := (cc_lt _ _).mp h50
              try simp (disch := decide) only [ti_iv, ti_ivn, ti_n, ti_0, os_si, os_sj, va_up, upd, Nat.reduceEqDiff, reduceIte] at h50
              conv => whnf
              refine pm_gd (by decide) ?_
              refine hZ1 _ _ ?_
              conv => whnf
              refine pm_bt (cdt rfl) ?_
              conv => whnf
              refine hZ0 _ _ ?_
              first
                | exact Or.inl ⟨by omega, rfl, rfl⟩
                | exact Or.inr ⟨by omega, rfl, rfl⟩
            · have h50 := (nc_lt _ _).mp h50
              try simp (disch := decide) only [ti_iv, ti_ivn, ti_n, ti_0, os_si, os_sj, va_up, upd, Nat.reduceEqDiff, reduceIte] at h50
              conv => whnf
              refine ⟨fun h51 => ?_, fun h51 => ?_⟩
              · have h51 := (cc_gt _ _).mp h51
                try simp (disch := decide) only [ti_iv, ti_ivn, ti_n, ti_0, os_si, os_sj, va_up, upd, Nat.reduceEqDiff, reduceIte] at h51
                conv => whnf
                refine pm_gd (by decide) ?_
                refine hZ1 _ _ ?_
                conv => whnf
                refine pm_bt (cdt rfl) ?_
                conv => whnf
                refine hZ0 _ _ ?_
                first
                  | exact Or.inl ⟨by omega, rfl, rfl⟩
                  | exact Or.inr ⟨by omega, rfl, rfl⟩
              · have h51 := (nc_gt _ _).mp h51
                try simp (disch := decide) only [ti_iv, ti_ivn, ti_n, ti_0, os_si, os_sj, va_up, upd, Nat.reduceEqDiff, reduceIte] at h51
                conv => whnf
                refine pm_gd (by decide) ?_
                refine hZ1 _ _ ?_
                conv => whnf
                refine pm_bf (cdf rfl) ?_
                conv => whnf
                refine hcl0 _ _ _ _ ?_
                refine S_Model_isOne [] 400 rfl (fun R1 cl1 Z1 hR1 hcl1 hZ1 => ?_)
                conv => whnf
                refine ⟨fun h52 => ?_, fun h52 => ?_⟩
                · have h52 := (cc_lt _ _).mp h52
                  try simp (disch := decide) only [ti_iv, ti_ivn, ti_n, ti_0, os_si, os_sj, va_up, upd, Nat.reduceEqDiff, reduceIte] at h52
                  conv => whnf
                  refine pm_gd (by decide) ?_
                  refine hZ1 _ _ ?_
                  conv => whnf
                  refine pm_bt (cdt rfl) ?_
                  conv => whnf
                  refine hZ0 _ _ ?_
                  first
                    | exact Or.inl ⟨by omega, rfl, rfl⟩
                    | exact Or.inr ⟨by omega, rfl, rfl⟩
                · have h52 := (nc_lt _ _).mp h52
                  try simp (disch := decide) only [ti_iv, ti_ivn, ti_n, ti_0, os_si, os_sj, va_up, upd, Nat.reduceEqDiff, reduceIte] at h52
                  conv => whnf
                  refine ⟨fun h53 => ?_, fun h53 => ?_⟩
                  · have h53 := (cc_ge _ _).mp h53
                    try simp (disch := decide) only [ti_iv, ti_ivn, ti_n, ti_0, os_si, os_sj, va_up, upd, Nat.reduceEqDiff, reduceIte] at h53
                    conv => whnf
                    refine pm_gd (by decide) ?_
                    refine hZ1 _ _ ?_
                    conv => whnf
                    refine pm_bt (cdt rfl) ?_
                    conv => whnf
                    refine hZ0 _ _ ?_
                    first
                      | exact Or.inl ⟨by omega, rfl, rfl⟩
                      | exact Or.inr ⟨by omega, rfl, rfl⟩
                  · have h53 := (nc_ge _ _).mp h53
                    try simp (disch := decide) only [ti_iv, ti_ivn, ti_n, ti_0, os_si, os_sj, va_up, upd, Nat.reduceEqDiff, reduceIte] at h53
                    conv => whnf
                    refine pm_gd (by decide) ?_
                    refine hZ1 _ _ ?_
                    conv => whnf
                    refine pm_bf (cdf rfl) ?_
                    conv => whnf
                    refine pm_bf (cdf rfl) ?_
                    conv => whnf
                    refine pm_bt (cdt rfl) ?_
                    conv => whnf
                    refine hZ0 _ _ ?_
                    first
                      | exact Or.inl ⟨by omega, rfl, rfl⟩
                      | exact Or.inr ⟨by omega, rfl, rfl⟩
          · have h49 := (nc_lt _ _).mp h49
            try simp (disch := decide) only [ti_iv, ti_ivn, ti_n, ti_0, os_si, os_sj, va_up, upd, Nat.reduceEqDiff, reduceIte] at h49
            conv => whnf
            refine ⟨fun h54 => ?_, fun h54 => ?_⟩
            · have h54 := (cc_ge _ _).mp h54
              try simp (disch := decide) only [ti_iv, ti_ivn, ti_n, ti_0, os_si, os_sj, va_up, upd, Nat.reduceEqDiff, reduceIte] at h54
              conv => whnf
              refine pm_gd (by decide) ?_
              refine hZ1 _ _ ?_
              conv => whnf
              refine pm_bt (cdt rfl) ?_
              conv => whnf
              refine hcl0 _ _ _ _ ?_
              refine S_Model_isIn [] 400 rfl (fun R1 cl1 Z1 hR1 hcl1 hZ1 => ?_)
              conv => whnf
              refine ⟨fun h55 => ?_, fun h55 => ?_⟩
              · have h55 := (cc_lt _ _).mp h55
                try simp (disch := decide) only [ti_iv, ti_ivn, ti_n, ti_0, os_si, os_sj, va_up, upd, Nat.reduceEqDiff, reduceIte] at h55
                conv => whnf
                refine pm_gd (by decide) ?_
                refine hZ1 _ _ ?_
                conv => whnf
                refine pm_bt (cdt rfl) ?_
                conv => whnf
                refine hZ0 _ _ ?_
                first
                  | exact Or.inl ⟨by omega, rfl, rfl⟩
                  | exact Or.inr ⟨by omega, rfl, rfl⟩
              · have h55 := (nc_lt _ _).mp h55
                try simp (disch := decide) only [ti_iv, ti_ivn, ti_n, ti_0, os_si, os_sj, va_up, upd, Nat.reduceEqDiff, reduceIte] at h55
                conv => whnf
                refine ⟨fun h56 => ?_, fun h56 => ?_⟩
                · have h56 := (cc_gt _ _).mp h56
                  try simp (disch := decide) only [ti_iv, ti_ivn, ti_n, ti_0, os_si, os_sj, va_up, upd, Nat.reduceEqDiff, reduceIte] at h56
                  conv => whnf
                  refine pm_gd (by decide) ?_
                  refine hZ1 _ _ ?_
                  conv => whnf
                  refine pm_bt (cdt rfl) ?_
                  conv => whnf
                  refine hZ0 _ _ ?_
                  first
                    | exact Or.inl ⟨by omega, rfl, rfl⟩
                    | exact Or.inr ⟨by omega, rfl, rfl⟩
                · have h56 := (nc_gt _ _).mp h56
                  try simp (disch := decide) only [ti_iv, ti_ivn, ti_n, ti_0, os_si, os_sj, va_up, upd, Nat.reduceEqDiff, reduceIte] at h56
                  conv => whnf
                  refine pm_gd (by decide) ?_
                  refine hZ1 _ _ ?_
                  conv => whnf
                  refine pm_bf (cdf rfl) ?_
                  conv => whnf
                  refine hcl0 _ _ _ _ ?_
                  refine S_Model_isOne [] 400 rfl (fun R1 cl1 Z1 hR1 hcl1 hZ1 => ?_)
                  conv => whnf
                  refine ⟨fun h57 => ?_, fun h57 => ?_⟩
                  · have h57 := (cc_lt _ _).mp h57
                    try simp (disch := decide) only [ti_iv, ti_ivn, ti_n, ti_0, os_si, os_sj, va_up, upd, Nat.reduceEqDiff, reduceIte] at h57
                    conv => whnf
                    refine pm_gd (by decide) ?_
                    refine hZ1 _ _ ?_
                    conv => whnf
                    refine pm_bt (cdt rfl) ?_
                    conv => whnf
                    refine hZ0 _ _ ?_
                    first
                      | exact Or.inl ⟨by omega, rfl, rfl⟩
                      | exact Or.inr ⟨by omega, rfl, rfl⟩
                  · have h57 := (nc_lt _ _).mp h57
                    try simp (disch := decide) only [ti_iv, ti_ivn, ti_n, ti_0, os_si, os_sj, va_up, upd, Nat.reduceEqDiff, reduceIte] at h57
                    conv => whnf
                    refine ⟨fun h58 => ?_, fun h58 => ?_⟩
                    · have h58 := (cc_ge _ _).mp h58
                      try simp (disch := decide) only [ti_iv, ti_ivn, ti_n, ti_0, os_si, os_sj, va_up, upd, Nat.reduceEqDiff, reduceIte] at h58
                      conv => whnf
                      refine pm_gd (by decide) ?_
                      refine hZ1 _ _ ?_
                      conv => whnf
                      refine pm_bt (cdt rfl) ?_
                      conv => whnf
                      refine hZ0 _ _ ?_
                      first
                        | exact Or.inl ⟨by omega, rfl, rfl⟩
                        | exact Or.inr ⟨by omega, rfl, rfl⟩
                    · have h58 := (nc_ge _ _).mp h58
                      try simp (disch := decide) only [ti_iv, ti_ivn, ti_n, ti_0, os_si, os_sj, va_up, upd, Nat.reduceEqDiff, reduceIte] at h58
                      conv => whnf
                      refine pm_gd (by decide) ?_
                      refine hZ1 _ _ ?_
                      conv => whnf
                      refine pm_bf (cdf rfl) ?_
                      conv => whnf
                      refine pm_bf (cdf rfl) ?_
                      conv => whnf
                      refine pm_bt (cdt rfl) ?_
                      conv => whnf
                      refine hZ0 _ _ ?_
                      first
                        | exact Or.inl ⟨by omega, rfl, rfl⟩
                        | exact Or.inr ⟨by omega, rfl, rfl⟩
            · have h54 := (nc_ge _ _).mp h54
              try simp (disch := decide) only [ti_iv, ti_ivn, ti_n, ti_0, os_si, os_sj, va_up, upd, Nat.reduceEqDiff, reduceIte] at h54
              conv => whnf
              refine pm_gd (by decide) ?_
              refine hZ1 _ _ ?_
              conv => whnf
              refine pm_bf (cdf rfl) ?_
              conv => whnf
              refine hcl0 _ _ _ _ ?_
              refine S_Model_isIn [] 400 rfl (fun R1 cl1 Z1 hR1 hcl1 hZ1 => ?_)
              conv => whnf
              refine ⟨fun h59 => ?_, fun h59 => ?_⟩
              · have h59 := (cc_lt _ _).mp h59
                try simp (disch := decide) only [ti_iv, ti_ivn, ti_n, ti_0, os_si, os_sj, va_up, upd, Nat.reduceEqDiff, reduceIte] at h59
                conv => whnf
                refine pm_gd (by decide) ?_
                refine hZ1 _ _ ?_
                conv => whnf
                refine pm_bt (cdt rfl) ?_
                conv => whnf
                refine hZ0 _ _ ?_
                first
                  | exact Or.inl ⟨by omega, rfl, rfl⟩
                  | exact Or.inr ⟨by omega, rfl, rfl⟩
              · have h59 := (nc_lt _ _).mp h59
                try simp (disch := decide) only [ti_iv, ti_ivn, ti_n, ti_0, os_si, os_sj, va_up, upd, Nat.reduceEqDiff, reduceIte] at h59
                conv => whnf
                refine ⟨fun h60 => ?_, fun h60 => ?_⟩
                · have h60 := (cc_gt _ _).mp h60
                  try simp (disch := decide) only [ti_iv, ti_ivn, ti_n, ti_0, os_si, os_sj, va_up, upd, Nat.reduceEqDiff, reduceIte] at h60
                  conv => whnf
                  refine pm_gd (by decide) ?_
                  refine hZ1 _ _ ?_
                  conv => whnf
                  refine pm_bt (cdt rfl) ?_
                  conv => whnf
                  refine hZ0 _ _ ?_
                  first
                    | exact Or.inl ⟨by omega, rfl, rfl⟩
                    | exact Or.inr ⟨by omega, rfl, rfl⟩
                · have h60 := (nc_gt _ _).mp h60
                  try simp (disch := decide) only [ti_iv, ti_ivn, ti_n, ti_0, os_si, os_sj, va_up, upd, Nat.reduceEqDiff, reduceIte] at h60
                  conv => whnf
                  refine pm_gd (by decide) ?_
                  refine hZ1 _ _ ?_
                  conv => whnf
                  refine pm_bf (cdf rfl) ?_
                  conv => whnf
                  refine hcl0 _ _ _ _ ?_
                  refine S_Model_isOne [] 400 rfl (fun R1 cl1 Z1 hR1 hcl1 hZ1 => ?_)
                  conv => whnf
                  refine ⟨fun h61 => ?_, fun h61 => ?_⟩
                  · have h61 := (cc_lt _ _).mp h61
                    try simp (disch := decide) only [ti_iv, ti_ivn, ti_n, ti_0, os_si, os_sj, va_up, upd, Nat.reduceEqDiff, reduceIte] at h61
                    conv => whnf
                    refine pm_gd (by decide) ?_
                    refine hZ1 _ _ ?_
                    conv => whnf
                    refine pm_bt (cdt rfl) ?_
                    conv => whnf
                    refine hZ0 _ _ ?_
                    first
                      | exact Or.inl ⟨by omega, rfl, rfl⟩
                      | exact Or.inr ⟨by omega, rfl, rfl⟩
                  · have h61 := (nc_lt _ _).mp h61
                    try simp (disch := decide) only [ti_iv, ti_ivn, ti_n, ti_0, os_si, os_sj, va_up, upd, Nat.reduceEqDiff, reduceIte] at h61
                    conv => whnf
                    refine ⟨fun h62 => ?_, fun h62 => ?_⟩
                    · have h62 := (cc_ge _ _).mp h62
                      try simp (disch := decide) only [ti_iv, ti_ivn, ti_n, ti_0, os_si, os_sj, va_up, upd, Nat.reduceEqDiff, reduceIte] at h62
                      conv => whnf
                      refine pm_gd (by decide) ?_
                      refine hZ1 _ _ ?_
                      conv => whnf
                      refine pm_bt (cdt rfl) ?_
                      conv => whnf
                      refine hZ0 _ _ ?_
                      first
                        | exact Or.inl ⟨by omega, rfl, rfl⟩
                        | exact Or.inr ⟨by omega, rfl, rfl⟩
                    · have h62 := (nc_ge _ _).mp h62
                      try simp (disch := decide) only [ti_iv, ti_ivn, ti_n, ti_0, os_si, os_sj, va_up, upd, Nat.reduceEqDiff, reduceIte] at h62
                      conv => whnf
                      refine pm_gd (by decide) ?_
                      refine hZ1 _ _ ?_
                      conv => whnf
                      refine pm_bf (cdf rfl) ?_
                      conv => whnf
                      refine pm_bf (cdf rfl) ?_
                      conv => whnf
                      refine pm_bf (cdf rfl) ?_
                      conv => whnf
                      refine ⟨fun h63 => ?_, fun h63 => ?_⟩
                      · have h63 := (cc_ne _ _).mp h63
                        try simp (disch := decide) only [ti_iv, ti_ivn, ti_n, ti_0, os_si, os_sj, va_up, upd, Nat.reduceEqDiff, reduceIte] at h63
                        conv => whnf
                        refine pm_gd (gI (by (try simp (disch := decide) only [ti_iv, ti_ivn, ti_n, ti_0, os_si, os_sj, va_up, upd, Nat.reduceEqDiff, reduceIte]); omega) (by (try simp (disch := decide) only [ti_iv, ti_ivn, ti_n, ti_0, os_si, os_sj, va_up, upd, Nat.reduceEqDiff, reduceIte]); omega)) ?_
                        conv => whnf
                        refine pm_gd (gI (by (try simp (disch := decide) only [ti_iv, ti_ivn, ti_n, ti_0, os_si, os_sj, va_up, upd, Nat.reduceEqDiff, reduceIte]); omega) (by (try simp (disch := decide) only [ti_iv, ti_ivn, ti_n, ti_0, os_si, os_sj, va_up, upd, Nat.reduceEqDiff, reduceIte]); omega)) ?_
                        conv => whnf
                        refine pm_gd (gI (by (try simp (disch := decide) only [ti_iv, ti_ivn, ti_n, ti_0, os_si, os_sj, va_up, upd, Nat.reduceEqDiff, reduceIte]); omega) (by (try simp (disch := decide) only [ti_iv, ti_ivn, ti_n, ti_0, os_si, os_sj, va_up, upd, Nat.reduceEqDiff, reduceIte]); omega)) ?_
                        conv => whnf
                        refine pm_gd (gI (by (try simp (disch := decide) only [ti_iv, ti_ivn, ti_n, ti_0, os_si, os_sj, va_up, upd, Nat.reduceEqDiff, reduceIte]); omega) (by (try simp (disch := decide) only [ti_iv, ti_ivn, ti_n, ti_0, os_si, os_sj, va_up, upd, Nat.reduceEqDiff, reduceIte]); omega)) ?_
                        conv => whnf
                        refine hZ0 _ _ ?_
                        first
                          | exact Or.inl ⟨by omega, rfl, rfl⟩
                          | exact Or.inr ⟨by omega, rfl, rfl⟩
                      · have h63 := (nc_ne _ _).mp h63
                        try simp (disch := decide) only [ti_iv, ti_ivn, ti_n, ti_0, os_si, os_sj, va_up, upd, Nat.reduceEqDiff, reduceIte] at h63
                        conv => whnf
                        refine hZ0 _ _ ?_
                        first
                          | exact Or.inl ⟨by omega, rfl, rfl⟩
                          | exact Or.inr ⟨by omega, rfl, rfl⟩
      · have h43 := (nc_ge _ _).mp h43
        try simp (disch := decide) only [ti_iv, ti_ivn, ti_n, ti_0, os_si, os_sj, va_up, upd, Nat.reduceEqDiff, reduceIte] at h43
        conv => whnf
        refine pm_gd (by decide) ?_
        refine hZ1 _ _ ?_
        conv => whnf
        refine pm_bf (cdf rfl) ?_
        conv => whnf
        refine ⟨fun h64 => ?_, fun h64 => ?_⟩
        · have h64 := (cc_eq _ _).mp h64
          try simp (disch := decide) only [ti_iv, ti_ivn, ti_n, ti_0, os_si, os_sj, va_up, upd, Nat.reduceEqDiff, reduceIte] at h64
          conv => whnf
          refine ⟨fun h65 => ?_, fun h65 => ?_⟩
          · have h65 := (cc_ne _ _).mp h65
            try simp (disch := decide) only [ti_iv, ti_ivn, ti_n, ti_0, os_si, os_sj, va_up, upd, Nat.reduceEqDiff, reduceIte] at h65
            conv => whnf
            refine hcl0 _ _ _ _ ?_
            refine S_Model_isIn [] 400 rfl (fun R1 cl1 Z1 hR1 hcl1 hZ1 => ?_)
            conv => whnf
            refine ⟨fun h66 => ?_, fun h66 => ?_⟩
            · have h66 := (cc_lt _ _).mp h66
              try simp (disch := decide) only [ti_iv, ti_ivn, ti_n, ti_0, os_si, os_sj, va_up, upd, Nat.reduceEqDiff, reduceIte] at h66
              conv => whnf
              refine pm_gd (by decide) ?_
              refine hZ1 _ _ ?_
              conv => whnf
              refine pm_bt (cdt rfl) ?_
              conv => whnf
              refine hZ0 _ _ ?_
              first
                | exact Or.inl ⟨by omega, rfl, rfl⟩
                | exact Or.inr ⟨by omega, rfl, rfl⟩
            · have h66 := (nc_lt _ _).mp h66
              try simp (disch := decide) only [ti_iv, ti_ivn, ti_n, ti_0, os_si, os_sj, va_up, upd, Nat.reduceEqDiff, reduceIte] at h66
              conv => whnf
              refine ⟨fun h67 => ?_, fun h67 => ?_⟩
              · have h67 := (cc_gt _ _).mp h67
                try simp (disch := decide) only [ti_iv, ti_ivn, ti_n, ti_0, os_si, os_sj, va_up, upd, Nat.reduceEqDiff, reduceIte] at h67
                conv => whnf
                refine pm_gd (by decide) ?_
                refine hZ1 _ _ ?_
                conv => whnf
                refine pm_bt (cdt rfl) ?_
                conv => whnf
                refine hZ0 _ _ ?_
                first
                  | exact Or.inl ⟨by omega, rfl, rfl⟩
                  | exact Or.inr ⟨by omega, rfl, rfl⟩
              · have h67 := (nc_gt _ _).mp h67
                try simp (disch := decide) only [ti_iv, ti_ivn, ti_n, ti_0, os_si, os_sj, va_up, upd, Nat.reduceEqDiff, reduceIte] at h67
                conv => whnf
                refine pm_gd (by decide) ?_
                refine hZ1 _ _ ?_
                conv => whnf
                refine pm_bf (cdf rfl) ?_
                conv => whnf
                refine hcl0 _ _ _ _ ?_
                refine S_Model_isOne [] 400 rfl (fun R1 cl1 Z1 hR1 hcl1 hZ1 => ?_)
                conv => whnf
                refine ⟨fun h68 => ?_, fun h68 => ?_⟩
                · have h68 := (cc_lt _ _).mp h68
                  try simp (disch := decide) only [ti_iv, ti_ivn, ti_n, ti_0, os_si, os_sj, va_up, upd, Nat.reduceEqDiff, reduceIte] at h68
                  conv => whnf
                  refine pm_gd (by decide) ?_
                  refine hZ1 _ _ ?_
                  conv => whnf
                  refine pm_bt (cdt rfl) ?_
                  conv => whnf
                  refine hZ0 _ _ ?_
                  first
                    | exact Or.inl ⟨by omega, rfl, rfl⟩
                    | exact Or.inr ⟨by omega, rfl, rfl⟩
                · have h68 := (nc_lt _ _).mp h68
                  try simp (disch := decide) only [ti_iv, ti_ivn, ti_n, ti_0, os_si, os_sj, va_up, upd, Nat.reduceEqDiff, reduceIte] at h68
                  conv => whnf
                  refine ⟨fun h69 => ?_, fun h69 => ?_⟩
                  · have h69 := (cc_ge _ _).mp h69
                    try simp (disch := decide) only [ti_iv, ti_ivn, ti_n, ti_0, os_si, os_sj, va_up, upd, Nat.reduceEqDiff, reduceIte] at h69
                    conv => whnf
                    refine pm_gd (by decide) ?_
                    refine hZ1 _ _ ?_
                    conv => whnf
                    refine pm_bt (cdt rfl) ?_
                    conv => whnf
                    refine hZ0 _ _ ?_
                    first
                      | exact Or.inl ⟨by omega, rfl, rfl⟩
                      | exact Or.inr ⟨by omega, rfl, rfl⟩
                  · have h69 := (nc_ge _ _).mp h69
                    try simp (disch := decide) only [ti_iv, ti_ivn, ti_n, ti_0, os_si, os_sj, va_up, upd, Nat.reduceEqDiff, reduceIte] at h69
                    conv => whnf
                    refine pm_gd (by decide) ?_
                    refine hZ1 _ _ ?_
                    conv => whnf
                    refine pm_bf (cdf rfl) ?_
                    conv => whnf
                    refine pm_bf (cdf rfl) ?_
                    conv => whnf
                    refine pm_bt (cdt rfl) ?_
                    conv => whnf
                    refine hZ0 _ _ ?_
                    first
                      | exact Or.inl ⟨by omega, rfl, rfl⟩
                      | exact Or.inr ⟨by omega, rfl, rfl⟩
          · have h65 := (nc_ne _ _).mp h65
            try simp (disch := decide) only [ti_iv, ti_ivn, ti_n, ti_0, os_si, os_sj, va_up, upd, Nat.reduceEqDiff, reduceIte] at h65
            conv => whnf
            refine hcl0 _ _ _ _ ?_
            refine S_Model_isSpot [] 400 rfl (fun R1 cl1 Z1 hR1 hcl1 hZ1 => ?_)
            conv => whnf
            refine ⟨fun h70 => ?_, fun h70 => ?_⟩
            · have h70 := (cc_lt _ _).mp h70
              try simp (disch := decide) only [ti_iv, ti_ivn, ti_n, ti_0, os_si, os_sj, va_up, upd, Nat.reduceEqDiff, reduceIte] at h70
              conv => whnf
              refine pm_gd (by decide) ?_
              refine hZ1 _ _ ?_
              conv => whnf
              refine pm_bt (cdt rfl) ?_
              conv => whnf
              refine hcl0 _ _ _ _ ?_
              refine S_Model_isIn [] 400 rfl (fun R1 cl1 Z1 hR1 hcl1 hZ1 => ?_)
              conv => whnf
              refine ⟨fun h71 => ?_, fun h71 => ?_⟩
              · have h71 := (cc_lt _ _).mp h71
                try simp (disch := decide) only [ti_iv, ti_ivn, ti_n, ti_0, os_si, os_sj, va_up, upd, Nat.reduceEqDiff, reduceIte] at h71
                conv => whnf
                refine pm_gd (by decide) ?_
                refine hZ1 _ _ ?_
                conv => whnf
                refine pm_bt (cdt rfl) ?_
                conv => whnf
                refine hZ0 _ _ ?_
                first
                  | exact Or.inl ⟨by omega, rfl, rfl⟩
                  | exact Or.inr ⟨by omega, rfl, rfl⟩
              · have h71 := (nc_lt _ _).mp h71
                try simp (disch := decide) only [ti_iv, ti_ivn, ti_n, ti_0, os_si, os_sj, va_up, upd, Nat.reduceEqDiff, reduceIte] at h71
                conv => whnf
                refine ⟨fun h72 => ?_, fun h72 => ?_⟩
                · have h72 := (cc_gt _ _).mp h72
                  try simp (disch := decide) only [ti_iv, ti_ivn, ti_n, ti_0, os_si, os_sj, va_up, upd, Nat.reduceEqDiff, reduceIte] at h72
                  conv => whnf
                  refine pm_gd (by decide) ?_
                  refine hZ1 _ _ ?_
                  conv => whnf
                  refine pm_bt (cdt rfl) ?_
                  conv => whnf
                  refine hZ0 _ _ ?_
                  first
                    | exact Or.inl ⟨by omega, rfl, rfl⟩
                    | exact Or.inr ⟨by omega, rfl, rfl⟩
                · have h72 := (nc_gt _ _).mp h72
                  try simp (disch := decide) only [ti_iv, ti_ivn, ti_n, ti_0, os_si, os_sj, va_up, upd, Nat.reduceEqDiff, reduceIte] at h72
                  conv => whnf
                  refine pm_gd (by decide) ?_
                  refine hZ1 _ _ ?_
                  conv => whnf
                  refine pm_bf (cdf rfl) ?_
                  conv => whnf
                  refine hcl0 _ _ _ _ ?_
                  refine S_Model_isOne [] 400 rfl (fun R1 cl1 Z1 hR1 hcl1 hZ1 => ?_)
                  conv => whnf
                  refine ⟨fun h73 => ?_, fun h73 => ?_⟩
                  · have h73 := (cc_lt _ _).mp h73
                    try simp (disch := decide) only [ti_iv, ti_ivn, ti_n, ti_0, os_si, os_sj, va_up, upd, Nat.reduceEqDiff, reduceIte] at h73
                    conv => whnf
                    refine pm_gd (by decide) ?_
                    refine hZ1 _ _ ?_
                    conv => whnf
                    refine pm_bt (cdt rfl) ?_
                    conv => whnf
                    refine hZ0 _ _ ?_
                    first
                      | exact Or.inl ⟨by omega, rfl, rfl⟩
                      | exact Or.inr ⟨by omega, rfl, rfl⟩
                  · have h73 := (nc_lt _ _).mp h73
                    try simp (disch := decide) only [ti_iv, ti_ivn, ti_n, ti_0, os_si, os_sj, va_up, upd, Nat.reduceEqDiff, reduceIte] at h73
                    conv => whnf
                    refine ⟨fun h74 => ?_, fun h74 => ?_⟩
                    · have h74 := (cc_ge _ _).mp h74
                      try simp (disch := decide) only [ti_iv, ti_ivn, ti_n, ti_0, os_si, os_sj, va_up, upd, Nat.reduceEqDiff, reduceIte] at h74
                      conv => whnf
                      refine pm_gd (by decide) ?_
                      refine hZ1 _ _ ?_
                      conv => whnf
                      refine pm_bt (cdt rfl) ?_
                      conv => whnf
                      refine hZ0 _ _ ?_
                      first
                        | exact Or.inl ⟨by omega, rfl, rfl⟩
                        | exact Or.inr ⟨by omega, rfl, rfl⟩
                    · have h74 := (nc_ge _ _).mp h74
                      try simp (disch := decide) only [ti_iv, ti_ivn, ti_n, ti_0, os_si, os_sj, va_up, upd, Nat.reduceEqDiff, reduceIte] at h74
                      conv => whnf
                      refine pm_gd (by decide) ?_
                      refine hZ1 _ _ ?_
                      conv => whnf
                      refine pm_bf (cdf rfl) ?_
                      conv => whnf
                      refine pm_bf (cdf rfl) ?_
                      conv => whnf
                      refine pm_bt (cdt rfl) ?_
                      conv => whnf
                      refine hZ0 _ _ ?_
                      first
                        | exact Or.inl ⟨by omega, rfl, rfl⟩
                        | exact Or.inr ⟨by omega, rfl, rfl⟩
            · have h70 := (nc_lt _ _).mp h70
              try simp (disch := decide) only [ti_iv, ti_ivn, ti_n, ti_0, os_si, os_sj, va_up, upd, Nat.reduceEqDiff, reduceIte] at h70
              conv => whnf
              refine ⟨fun h75 => ?_, fun h75 => ?_⟩
              · have h75 := (cc_ge _ _).mp h75
                try simp (disch := decide) only [ti_iv, ti_ivn, ti_n, ti_0, os_si, os_sj, va_up, upd, Nat.reduceEqDiff, reduceIte] at h75
                conv => whnf
                refine pm_gd (by decide) ?_
                refine hZ1 _ _ ?_
                conv => whnf
                refine pm_bt (cdt rfl) ?_
                conv => whnf
                refine hcl0 _ _ _ _ ?_
                refine S_Model_isIn [] 400 rfl (fun R1 cl1 Z1 hR1 hcl1 hZ1 => ?_)
                conv => whnf
                refine ⟨fun h76 => ?_, fun h76 => ?_⟩
                · have h76 := (cc_lt _ _).mp h76
                  try simp (disch := decide) only [ti_iv, ti_ivn, ti_n, ti_0, os_si, os_sj, va_up, upd, Nat.reduceEqDiff, reduceIte] at h76
                  conv => whnf
                  refine pm_gd (by decide) ?_
                  refine hZ1 _ _ ?_
                  conv => whnf
                  refine pm_bt (cdt rfl) ?_
                  conv => whnf
                  refine hZ0 _ _ ?_
                  first
                    | exact Or.inl ⟨by omega, rfl, rfl⟩
                    | exact Or.inr ⟨by omega, rfl, rfl⟩
                · have h76 := (nc_lt _ _).mp h76
                  try simp (disch := decide) only [ti_iv, ti_ivn, ti_n, ti_0, os_si, os_sj, va_up, upd, Nat.reduceEqDiff, reduceIte] at h76
                  conv => whnf
                  refine ⟨fun h77 => ?_, fun h77 => ?_⟩
                  · have h77 := (cc_gt _ _).mp h77
                    try simp (disch := decide) only [ti_iv, ti_ivn, ti_n, ti_0, os_si, os_sj, va_up, upd, Nat.reduceEqDiff, reduceIte] at h77
                    conv => whnf
                    refine pm_gd (by decide) ?_
                    refine hZ1 _ _ ?_
                    conv => whnf
                    refine pm_bt (cdt rfl) ?_
                    conv => whnf
                    refine hZ0 _ _ ?_
                    first
                      | exact Or.inl ⟨by omega, rfl, rfl⟩
                      | exact Or.inr ⟨by omega, rfl, rfl⟩
                  · have h77 := (nc_gt _ _).mp h77
                    try simp (disch := decide) only [ti_iv, ti_ivn, ti_n, ti_0, os_si, os_sj, va_up, upd, Nat.reduceEqDiff, reduceIte] at h77
                    conv => whnf
                    refine pm_gd (by decide) ?_
                    refine hZ1 _ _ ?_
                    conv => whnf
                    refine pm_bf (cdf rfl) ?_
                    conv => whnf
                    refine hcl0 _ _ _ _ ?_
                    refine S_Model_isOne [] 400 rfl (fun R1 cl1 Z1 hR1 hcl1 hZ1 => ?_)
                    conv => whnf
                    refine ⟨fun h78 => ?_, fun h78 => ?_⟩
                    · have h78 := (cc_lt _ _).mp h78
                      try simp (disch := decide) only [ti_iv, ti_ivn, ti_n, ti_0, os_si, os_sj, va_up, upd, Nat.reduceEqDiff, reduceIte] at h78
                      conv => whnf
                      refine pm_gd (by decide) ?_
                      refine hZ1 _ _ ?_
                      conv => whnf
                      refine pm_bt (cdt rfl) ?_
                      conv => whnf
                      refine hZ0 _ _ ?_
                      first
                        | exact Or.inl ⟨by omega, rfl, rfl⟩
                        | exact Or.inr ⟨by omega, rfl, rfl⟩
                    · have h78 := (nc_lt _ _).mp h78
                      try simp (disch := decide) only [ti_iv, ti_ivn, ti_n, ti_0, os_si, os_sj, va_up, upd, Nat.reduceEqDiff, reduceIte] at h78
                      conv => whnf
                      refine ⟨fun h79 => ?_, fun h79 => ?_⟩
                      · have h79 := (cc_ge _ _).mp h79
                        try simp (disch := decide) only [ti_iv, ti_ivn, ti_n, ti_0, os_si, os_sj, va_up, upd, Nat.reduceEqDiff, reduceIte] at h79
                        conv => whnf
                        refine pm_gd (by decide) ?_
                        refine hZ1 _ _ ?_
                        conv => whnf
                        refine pm_bt (cdt rfl) ?_
                        conv => whnf
                        refine hZ0 _ _ ?_
                        first
                          | exact Or.inl ⟨by omega, rfl, rfl⟩
                          | exact Or.inr ⟨by omega, rfl, rfl⟩
                      · have h79 := (nc_ge _ _).mp h79
                        try simp (disch := decide) only [ti_iv, ti_ivn, ti_n, ti_0, os_si, os_sj, va_up, upd, Nat.reduceEqDiff, reduceIte] at h79
                        conv => whnf
                        refine pm_gd (by decide) ?_
                        refine hZ1 _ _ ?_
                        conv => whnf
                        refine pm_bf (cdf rfl) ?_
                        conv => whnf
                        refine pm_bf (cdf rfl) ?_
                        conv => whnf
                        refine pm_bt (cdt rfl) ?_
                        conv => whnf
                        refine hZ0 _ _ ?_
                        first
                          | exact Or.inl ⟨by omega, rfl, rfl⟩
                          | exact Or.inr ⟨by omega, rfl, rfl⟩
              · have h75 := (nc_ge _ _).mp h75
                try simp (disch := decide) only [ti_iv, ti_ivn, ti_n, ti_0, os_si, os_sj, va_up, upd, Nat.reduceEqDiff, reduceIte] at h75
                conv => whnf
                refine pm_gd (by decide) ?_
                refine hZ1 _ _ ?_
                conv => whnf
                refine pm_bf (cdf rfl) ?_
                conv => whnf
                refine hcl0 _ _ _ _ ?_
                refine S_Model_isIn [] 400 rfl (fun R1 cl1 Z1 hR1 hcl1 hZ1 => ?_)
                conv => whnf
                refine ⟨fun h80 => ?_, fun h80 => ?_⟩
                · have h80 := (cc_lt _ _).mp h80
                  try simp (disch := decide) only [ti_iv, ti_ivn, ti_n, ti_0, os_si, os_sj, va_up, upd, Nat.reduceEqDiff, reduceIte] at h80
                  conv => whnf
                  refine pm_gd (by decide) ?_
                  refine hZ1 _ _ ?_
                  conv => whnf
                  refine pm_bt (cdt rfl) ?_
                  conv => whnf
                  refine hZ0 _ _ ?_
                  first
                    | exact Or.inl ⟨by omega, rfl, rfl⟩
                    | exact Or.inr ⟨by omega, rfl, rfl⟩
                · have h80 := (nc_lt _ _).mp h80
                  try simp (disch := decide) only [ti_iv, ti_ivn, ti_n, ti_0, os_si, os_sj, va_up, upd, Nat.reduceEqDiff, reduceIte] at h80
                  conv => whnf
                  refine ⟨fun h81 => ?_, fun h81 => ?_⟩
                  · have h81 := (cc_gt _ _).mp h81
                    try simp (disch := decide) only [ti_iv, ti_ivn, ti_n, ti_0, os_si, os_sj, va_up, upd, Nat.reduceEqDiff, reduceIte] at h81
                    conv => whnf
                    refine pm_gd (by decide) ?_
                    refine hZ1 _ _ ?_
                    conv => whnf
                    refine pm_bt (cdt rfl) ?_
                    conv => whnf
                    refine hZ0 _ _ ?_
                    first
                      | exact Or.inl ⟨by omega, rfl, rfl⟩
                      | exact Or.inr ⟨by omega, rfl, rfl⟩
                  · have h81 := (nc_gt _ _).mp h81
                    try simp (disch := decide) only [ti_iv, ti_ivn, ti_n, ti_0, os_si, os_sj, va_up, upd, Nat.reduceEqDiff, reduceIte] at h81
                    conv => whnf
                    refine pm_gd (by decide) ?_
                    refine hZ1 _ _ ?_
                    conv => whnf
                    refine pm_bf (cdf rfl) ?_
                    conv => whnf
                    refine hcl0 _ _ _ _ ?_
                    refine S_Model_isOne [] 400 rfl (fun R1 cl1 Z1 hR1 hcl1 hZ1 => ?_)
                    conv => whnf
                    refine ⟨fun h82 => ?_, fun h82 => ?_⟩
                    · have h82 := (cc_lt _ _).mp h82
                      try simp (disch := decide) only [ti_iv, ti_ivn, ti_n, ti_0, os_si, os_sj, va_up, upd, Nat.reduceEqDiff, reduceIte] at h82
                      conv => whnf
                      refine pm_gd (by decide) ?_
                      refine hZ1 _ _ ?_
                      conv => whnf
                      refine pm_bt (cdt rfl) ?_
                      conv => whnf
                      refine hZ0 _ _ ?_
                      first
                        | exact Or.inl ⟨by omega, rfl, rfl⟩
                        | exact Or.inr ⟨by omega, rfl, rfl⟩
                    · have h82 := (nc_lt _ _).mp h82
                      try simp (disch := decide) only [ti_iv, ti_ivn, ti_n, ti_0, os_si, os_sj, va_up, upd, Nat.reduceEqDiff, reduceIte] at h82
                      conv => whnf
                      refine ⟨fun h83 => ?_, fun h83 => ?_⟩
                      · have h83 := (cc_ge _ _).mp h83
                        try simp (disch := decide) only [ti_iv, ti_ivn, ti_n, ti_0, os_si, os_sj, va_up, upd, Nat.reduceEqDiff, reduceIte] at h83
                        conv => whnf
                        refine pm_gd (by decide) ?_
                        refine hZ1 _ _ ?_
                        conv => whnf
                        refine pm_bt (cdt rfl) ?_
                        conv => whnf
                        refine hZ0 _ _ ?_
                        first
                          | exact Or.inl ⟨by omega, rfl, rfl⟩
                          | exact Or.inr ⟨by omega, rfl, rfl⟩
                      · have h83 := (nc_ge _ _).mp h83
                        try simp (disch := decide) only [ti_iv, ti_ivn, ti_n, ti_0, os_si, os_sj, va_up, upd, Nat.reduceEqDiff, reduceIte] at h83
                        conv => whnf
                        refine pm_gd (by decide) ?_
                        refine hZ1 _ _ ?_
                        conv => whnf
                        refine pm_bf (cdf rfl) ?_
                        conv => whnf
                        refine pm_bf (cdf rfl) ?_
                        conv => whnf
                        refine pm_bf (cdf rfl) ?_
                        conv => whnf
                        refine ⟨fun h84 => ?_, fun h84 => ?_⟩
                        · have h84 := (cc_ne _ _).mp h84
                          try simp (disch := decide) only [ti_iv, ti_ivn, ti_n, ti_0, os_si, os_sj, va_up, upd, Nat.reduceEqDiff, reduceIte] at h84
                          conv => whnf
                          refine pm_gd (gI (by (try simp (disch := decide) only [ti_iv, ti_ivn, ti_n, ti_0, os_si, os_sj, va_up, upd, Nat.reduceEqDiff, reduceIte]); omega) (by (try simp (disch := decide) only [ti_iv, ti_ivn, ti_n, ti_0, os_si, os_sj, va_up, upd, Nat.reduceEqDiff, reduceIte]); omega)) ?_
                          conv => whnf
                          refine pm_gd (gI (by (try simp (disch := decide) only [ti_iv, ti_ivn, ti_n, ti_0, os_si, os_sj, va_up, upd, Nat.reduceEqDiff, reduceIte]); omega) (by (try simp (disch := decide) only [ti_iv, ti_ivn, ti_n, ti_0, os_si, os_sj, va_up, upd, Nat.reduceEqDiff, reduceIte]); omega)) ?_
                          conv => whnf
                          refine pm_gd (gI (by (try simp (disch := decide) only [ti_iv, ti_ivn, ti_n, ti_0, os_si, os_sj, va_up, upd, Nat.reduceEqDiff, reduceIte]); omega) (by (try simp (disch := decide) only [ti_iv, ti_ivn, ti_n, ti_0, os_si, os_sj, va_up, upd, Nat.reduceEqDiff, reduceIte]); omega)) ?_
                          conv => whnf
                          refine pm_gd (gI (by (try simp (disch := decide) only [ti_iv, ti_ivn, ti_n, ti_0, os_si, os_sj, va_up, upd, Nat.reduceEqDiff, reduceIte]); omega) (by (try simp (disch := decide) only [ti_iv, ti_ivn, ti_n, ti_0, os_si, os_sj, va_up, upd, Nat.reduceEqDiff, reduceIte]); omega)) ?_
                          conv => whnf
                          refine hZ0 _ _ ?_
                          first
                            | exact Or.inl ⟨by omega, rfl, rfl⟩
                            | exact Or.inr ⟨by omega, rfl, rfl⟩
                        · have h84 := (nc_ne _ _).mp h84
                          try simp (disch := decide) only [ti_iv, ti_ivn, ti_n, ti_0, os_si, os_sj, va_up, upd, Nat.reduceEqDiff, reduceIte] at h84
                          conv => whnf
                          refine hZ0 _ _ ?_
                          first
                            | exact Or.inl ⟨by omega, rfl, rfl⟩
                            | exact Or.inr ⟨by omega, rfl, rfl⟩
        · have h64 := (nc_eq _ _).mp h64
          try simp (disch := decide) only [ti_iv, ti_ivn, ti_n, ti_0, os_si, os_sj, va_up, upd, Nat.reduceEqDiff, reduceIte] at h64
          conv => whnf
          refine ⟨fun h85 => ?_, fun h85 => ?_⟩
          · have h85 := (cc_ne _ _).mp h85
            try simp (disch := decide) only [ti_iv, ti_ivn, ti_n, ti_0, os_si, os_sj, va_up, upd, Nat.reduceEqDiff, reduceIte] at h85
            conv => whnf
            refine hcl0 _ _ _ _ ?_
            refine S_Model_isIn [] 400 rfl (fun R1 cl1 Z1 hR1 hcl1 hZ1 => ?_)
            conv => whnf
            refine ⟨fun h86 => ?_, fun h86 => ?_⟩
            · have h86 := (cc_lt _ _).mp h86
              try simp (disch := decide) only [ti_iv, ti_ivn, ti_n, ti_0, os_si, os_sj, va_up, upd, Nat.reduceEqDiff, reduceIte] at h86
              conv => whnf
              refine pm_gd (by decide) ?_
              refine hZ1 _ _ ?_
              conv => whnf
              refine pm_bt (cdt rfl) ?_
              conv => whnf
              refine hZ0 _ _ ?_
              first
                | exact Or.inl ⟨by omega, rfl, rfl⟩
                | exact Or.inr ⟨by omega, rfl, rfl⟩
            · have h86 := (nc_lt _ _).mp h86
              try simp (disch := decide) only [ti_iv, ti_ivn, ti_n, ti_0, os_si, os_sj, va_up, upd, Nat.reduceEqDiff, reduceIte] at h86
              conv => whnf
              refine ⟨fun h87 => ?_, fun h87 => ?_⟩
              · have h87 := (cc_gt _ _).mp h87
                try simp (disch := decide) only [ti_iv, ti_ivn, ti_n, ti_0, os_si, os_sj, va_up, upd, Nat.reduceEqDiff, reduceIte] at h87
                conv => whnf
                refine pm_gd (by decide) ?_
                refine hZ1 _ _ ?_
                conv => whnf
                refine pm_bt (cdt rfl) ?_
                conv => whnf
                refine hZ0 _ _ ?_
                first
                  | exact Or.inl ⟨by omega, rfl, rfl⟩
                  | exact Or.inr ⟨by omega, rfl, rfl⟩
              · have h87 := (nc_gt _ _).mp h87
                try simp (disch := decide) only [ti_iv, ti_ivn, ti_n, ti_0, os_si, os_sj, va_up, upd, Nat.reduceEqDiff, reduceIte] at h87
                conv => whnf
                refine pm_gd (by decide) ?_
                refine hZ1 _ _ ?_
                conv => whnf
                refine pm_bf (cdf rfl) ?_
                conv => whnf
                refine hcl0 _ _ _ _ ?_
                refine S_Model_isOne [] 400 rfl (fun R1 cl1 Z1 hR1 hcl1 hZ1 => ?_)
                conv => whnf
                refine ⟨fun h88 => ?_, fun h88 => ?_⟩
                · have h88 := (cc_lt _ _).mp h88
                  try simp (disch := decide) only [ti_iv, ti_ivn, ti_n, ti_0, os_si, os_sj, va_up, upd, Nat.reduceEqDiff, reduceIte] at h88
                  conv => whnf
                  refine pm_gd (by decide) ?_
                  refine hZ1 _ _ ?_
                  conv => whnf
                  refine pm_bt (cdt rfl) ?_
                  conv => whnf
                  refine hZ0 _ _ ?_
                  first
                    | exact Or.inl ⟨by omega, rfl, rfl⟩
                    | exact Or.inr ⟨by omega, rfl, rfl⟩
                · have h88 := (nc_lt _ _).mp h88
                  try simp (disch := decide) only [ti_iv, ti_ivn, ti_n, ti_0, os_si, os_sj, va_up, upd, Nat.reduceEqDiff, reduceIte] at h88
                  conv => whnf
                  refine ⟨fun h89 => ?_, fun h89 => ?_⟩
                  · have h89 := (cc_ge _ _).mp h89
                    try simp (disch := decide) only [ti_iv, ti_ivn, ti_n, ti_0, os_si, os_sj, va_up, upd, Nat.reduceEqDiff, reduceIte] at h89
                    conv => whnf
                    refine pm_gd (by decide) ?_
                    refine hZ1 _ _ ?_
                    conv => whnf
                    refine pm_bt (cdt rfl) ?_
                    conv => whnf
                    refine hZ0 _ _ ?_
                    first
                      | exact Or.inl ⟨by omega, rfl, rfl⟩
                      | exact Or.inr ⟨by omega, rfl, rfl⟩
                  · have h89 := (nc_ge _ _).mp h89
                    try simp (disch := decide) only [ti_iv, ti_ivn, ti_n, ti_0, os_si, os_sj, va_up, upd, Nat.reduceEqDiff, reduceIte] at h89
                    conv => whnf
                    refine pm_gd (by decide) ?_
                    refine hZ1 _ _ ?_
                    conv => whnf
                    refine pm_bf (cdf rfl) ?_
                    conv => whnf
                    refine pm_bt (cdt rfl) ?_
                    conv => whnf
                    refine ⟨fun h90 => ?_, fun h90 => ?_⟩
                    · have h90 := (cc_ne _ _).mp h90
                      try simp (disch := decide) only [ti_iv, ti_ivn, ti_n, ti_0, os_si, os_sj, va_up, upd, Nat.reduceEqDiff, reduceIte] at h90
                      conv => whnf
                      refine pm_gd (gI (by (try simp (disch := decide) only [ti_iv, ti_ivn, ti_n, ti_0, os_si, os_sj, va_up, upd, Nat.reduceEqDiff, reduceIte]); omega) (by (try simp (disch := decide) only [ti_iv, ti_ivn, ti_n, ti_0, os_si, os_sj, va_up, upd, Nat.reduceEqDiff, reduceIte]); omega)) ?_
                      conv => whnf
                      refine pm_gd (gI (by (try simp (disch := decide) only [ti_iv, ti_ivn, ti_n, ti_0, os_si, os_sj, va_up, upd, Nat.reduceEqDiff, reduceIte]); omega) (by (try simp (disch := decide) only [ti_iv, ti_ivn, ti_n, ti_0, os_si, os_sj, va_up, upd, Nat.reduceEqDiff, reduceIte]); omega)) ?_
                      conv => whnf
                      refine pm_gd (gI (by (try simp (disch := decide) only [ti_iv, ti_ivn, ti_n, ti_0, os_si, os_sj, va_up, upd, Nat.reduceEqDiff, reduceIte]); omega) (by (try simp (disch := decide) only [ti_iv, ti_ivn, ti_n, ti_0, os_si, os_sj, va_up, upd, Nat.reduceEqDiff, reduceIte]); omega)) ?_
                      conv => whnf
                      refine pm_gd (gI (by (try simp (disch := decide) only [ti_iv, ti_ivn, ti_n, ti_0, os_si, os_sj, va_up, upd, Nat.reduceEqDiff, reduceIte]); omega) (by (try simp (disch := decide) only [ti_iv, ti_ivn, ti_n, ti_0, os_si, os_sj, va_up, upd, Nat.reduceEqDiff, reduceIte]); omega)) ?_
                      conv => whnf
                      refine hZ0 _ _ ?_
                      first
                        | exact Or.inl ⟨by omega, rfl, rfl⟩
                        | exact Or.inr ⟨by omega, rfl, rfl⟩
                    · have h90 := (nc_ne _ _).mp h90
                      try simp (disch := decide) only [ti_iv, ti_ivn, ti_n, ti_0, os_si, os_sj, va_up, upd, Nat.reduceEqDiff, reduceIte] at h90
                      conv => whnf
                      refine hZ0 _ _ ?_
                      first
                        | exact Or.inl ⟨by omega, rfl, rfl⟩
                        | exact Or.inr ⟨by omega, rfl, rfl⟩
          · have h85 := (nc_ne _ _).mp h85
            try simp (disch := decide) only [ti_iv, ti_ivn, ti_n, ti_0, os_si, os_sj, va_up, upd, Nat.reduceEqDiff, reduceIte] at h85
            conv => whnf
            refine hcl0 _ _ _ _ ?_
            refine S_Model_isSpot [] 400 rfl (fun R1 cl1 Z1 hR1 hcl1 hZ1 => ?_)
            conv => whnf
            refine ⟨fun h91 => ?_, fun h91 => ?_⟩
            · have h91 := (cc_lt _ _).mp h91
              try simp (disch := decide) only [ti_iv, ti_ivn, ti_n, ti_0, os_si, os_sj, va_up, upd, Nat.reduceEqDiff, reduceIte] at h91
              conv => whnf
              refine pm_gd (by decide) ?_
              refine hZ1 _ _ ?_
              conv => whnf
              refine pm_bt (cdt rfl) ?_
              conv => whnf
              refine hcl0 _ _ _ _ ?_
              refine S_Model_isIn [] 400 rfl (fun R1 cl1 Z1 hR1 hcl1 hZ1 => ?_)
              conv => whnf
              refine ⟨fun h92 => ?_, fun h92 => ?_⟩
              · have h92 := (cc_lt _ _).mp h92
                try simp (disch := decide) only [ti_iv, ti_ivn, ti_n, ti_0, os_si, os_sj, va_up, upd, Nat.reduceEqDiff, reduceIte] at h92
                conv => whnf
                refine pm_gd (by decide) ?_
                refine hZ1 _ _ ?_
                conv => whnf
                refine pm_bt (cdt rfl) ?_
                conv => whnf
                refine hZ0 _ _ ?_
                first
                  | exact Or.inl ⟨by omega, rfl, rfl⟩
                  | exact Or.inr ⟨by omega, rfl, rfl⟩
              · have h92 := (nc_lt _ _).mp h92
                try simp (disch := decide) only [ti_iv, ti_ivn, ti_n, ti_0, os_si, os_sj, va_up, upd, Nat.reduceEqDiff, reduceIte] at h92
                conv => whnf
                refine ⟨fun h93 => ?_, fun h93 => ?_⟩
                · have h93 := (cc_gt _ _).mp h93
                  try simp (disch := decide) only [ti_iv, ti_ivn, ti_n, ti_0, os_si, os_sj, va_up, upd, Nat.reduceEqDiff, reduceIte] at h93
                  conv => whnf
                  refine pm_gd (by decide) ?_
                  refine hZ1 _ _ ?_
                  conv => whnf
                  refine pm_bt (cdt rfl) ?_
                  conv => whnf
                  refine hZ0 _ _ ?_
                  first
                    | exact Or.inl ⟨by omega, rfl, rfl⟩
                    | exact Or.inr ⟨by omega, rfl, rfl⟩
                · have h93 := (nc_gt _ _).mp h93
                  try simp (disch := decide) only [ti_iv, ti_ivn, ti_n, ti_0, os_si, os_sj, va_up, upd, Nat.reduceEqDiff, reduceIte] at h93
                  conv => whnf
                  refine pm_gd (by decide) ?_
                  refine hZ1 _ _ ?_
                  conv => whnf
                  refine pm_bf (cdf rfl) ?_
                  conv => whnf
                  refine hcl0 _ _ _ _ ?_
                  refine S_Model_isOne [] 400 rfl (fun R1 cl1 Z1 hR1 hcl1 hZ1 => ?_)
                  conv => whnf
                  refine ⟨fun h94 => ?_, fun h94 => ?_⟩
                  · have h94 := (cc_lt _ _).mp h94
                    try simp (disch := decide) only [ti_iv, ti_ivn, ti_n, ti_0, os_si, os_sj, va_up, upd, Nat.reduceEqDiff, reduceIte] at h94
                    conv => whnf
                    refine pm_gd (by decide) ?_
                    refine hZ1 _ _ ?_
                    conv => whnf
                    refine pm_bt (cdt rfl) ?_
                    conv => whnf
                    refine hZ0 _ _ ?_
                    first
                      | exact Or.inl ⟨by omega, rfl, rfl⟩
                      | exact Or.inr ⟨by omega, rfl, rfl⟩
                  · have h94 := (nc_lt _ _).mp h94
                    try simp (disch := decide) only [ti_iv, ti_ivn, ti_n, ti_0, os_si, os_sj, va_up, upd, Nat.reduceEqDiff, reduceIte] at h94
                    conv => whnf
                    refine ⟨fun h95 => ?_, fun h95 => ?_⟩
                    · have h95 := (cc_ge _ _).mp h95
                      try simp (disch := decide) only [ti_iv, ti_ivn, ti_n, ti_0, os_si, os_sj, va_up, upd, Nat.reduceEqDiff, reduceIte] at h95
                      conv => whnf
                      refine pm_gd (by decide) ?_
                      refine hZ1 _ _ ?_
                      conv => whnf
                      refine pm_bt (cdt rfl) ?_
                      conv => whnf
                      refine hZ0 _ _ ?_
                      first
                        | exact Or.inl ⟨by omega, rfl, rfl⟩
                        | exact Or.inr ⟨by omega, rfl, rfl⟩
                    · have h95 := (nc_ge _ _).mp h95
                      try simp (disch := decide) only [ti_iv, ti_ivn, ti_n, ti_0, os_si, os_sj, va_up, upd, Nat.reduceEqDiff, reduceIte] at h95
                      conv => whnf
                      refine pm_gd (by decide) ?_
                      refine hZ1 _ _ ?_
                      conv => whnf
                      refine pm_bf (cdf rfl) ?_
                      conv => whnf
                      refine pm_bt (cdt rfl) ?_
                      conv => whnf
                      refine ⟨fun h96 => ?_, fun h96 => ?_⟩
                      · have h96 := (cc_ne _ _).mp h96
                        try simp (disch := decide) only [ti_iv, ti_ivn, ti_n, ti_0, os_si, os_sj, va_up, upd, Nat.reduceEqDiff, reduceIte] at h96
                        conv => whnf
                        refine pm_gd (gI (by (try simp (disch := decide) only [ti_iv, ti_ivn, ti_n, ti_0, os_si, os_sj, va_up, upd, Nat.reduceEqDiff, reduceIte]); omega) (by (try simp (disch := decide) only [ti_iv, ti_ivn, ti_n, ti_0, os_si, os_sj, va_up, upd, Nat.reduceEqDiff, reduceIte]); omega)) ?_
                        conv => whnf
                        refine pm_gd (gI (by (try simp (disch := decide) only [ti_iv, ti_ivn, ti_n, ti_0, os_si, os_sj, va_up, upd, Nat.reduceEqDiff, reduceIte]); omega) (by (try simp (disch := decide) only [ti_iv, ti_ivn, ti_n, ti_0, os_si, os_sj, va_up, upd, Nat.reduceEqDiff, reduceIte]); omega)) ?_
                        conv => whnf
                        refine pm_gd (gI (by (try simp (disch := decide) only [ti_iv, ti_ivn, ti_n, ti_0, os_si, os_sj, va_up, upd, Nat.reduceEqDiff, reduceIte]); omega) (by (try simp (disch := decide) only [ti_iv, ti_ivn, ti_n, ti_0, os_si, os_sj, va_up, upd, Nat.reduceEqDiff, reduceIte]); omega)) ?_
                        conv => whnf
                        refine pm_gd (gI (by (try simp (disch := decide) only [ti_iv, ti_ivn, ti_n, ti_0, os_si, os_sj, va_up, upd, Nat.reduceEqDiff, reduceIte]); omega) (by (try simp (disch := decide) only [ti_iv, ti_ivn, ti_n, ti_0, os_si, os_sj, va_up, upd, Nat.reduceEqDiff, reduceIte]); omega)) ?_
                        conv => whnf
                        refine hZ0 _ _ ?_
                        first
                          | exact Or.inl ⟨by omega, rfl, rfl⟩
                          | exact Or.inr ⟨by omega, rfl, rfl⟩
                      · have h96 := (nc_ne _ _).mp h96
                        try simp (disch := decide) only [ti_iv, ti_ivn, ti_n, ti_0, os_si, os_sj, va_up, upd, Nat.reduceEqDiff, reduceIte] at h96
                        conv => whnf
                        refine hZ0 _ _ ?_
                        first
                          | exact Or.inl ⟨by omega, rfl, rfl⟩
                          | exact Or.inr ⟨by omega, rfl, rfl⟩
            · have h91 := (nc_lt _ _).mp h91
              try simp (disch := decide) only [ti_iv, ti_ivn, ti_n, ti_0, os_si, os_sj, va_up, upd, Nat.reduceEqDiff, reduceIte] at h91
              conv => whnf
              refine ⟨fun h97 => ?_, fun h97 => ?_⟩
              · have h97 := (cc_ge _ _).mp h97
                try simp (disch := decide) only [ti_iv, ti_ivn, ti_n, ti_0, os_si, os_sj, va_up, upd, Nat.reduceEqDiff, reduceIte] at h97
                conv => whnf
                refine pm_gd (by decide) ?_
                refine hZ1 _ _ ?_
                conv => whnf
                refine pm_bt (cdt rfl) ?_
                conv => whnf
                refine hcl0 _ _ _ _ ?_
                refine S_Model_isIn [] 400 rfl (fun R1 cl1 Z1 hR1 hcl1 hZ1 => ?_)
                conv => whnf
                refine ⟨fun h98 => ?_, fun h98 => ?_⟩
                · have h98 := (cc_lt _ _).mp h98
                  try simp (disch := decide) only [ti_iv, ti_ivn, ti_n, ti_0, os_si, os_sj, va_up, upd, Nat.reduceEqDiff, reduceIte] at h98
                  conv => whnf
                  refine pm_gd (by decide) ?_
                  refine hZ1 _ _ ?_
                  conv => whnf
                  refine pm_bt (cdt rfl) ?_
                  conv => whnf
                  refine hZ0 _ _ ?_
                  first
                    | exact Or.inl ⟨by omega, rfl, rfl⟩
                    | exact Or.inr ⟨by omega, rfl, rfl⟩
                · have h98 := (nc_lt _ _).mp h98
                  try simp (disch := decide) only [ti_iv, ti_ivn, ti_n, ti_0, os_si, os_sj, va_up, upd, Nat.reduceEqDiff, reduceIte] at h98
                  conv => whnf
                  refine ⟨fun h99 => ?_, fun h99 => ?_⟩
                  · have h99 := (cc_gt _ _).mp h99
                    try simp (disch := decide) only [ti_iv, ti_ivn, ti_n, ti_0, os_si, os_sj, va_up, upd, Nat.reduceEqDiff, reduceIte] at h99
                    conv => whnf
                    refine pm_gd (by decide) ?_
                    refine hZ1 _ _ ?_
                    conv => whnf
                    refine pm_bt (cdt rfl) ?_
                    conv => whnf
                    refine hZ0 _ _ ?_
                    first
                      | exact Or.inl ⟨by omega, rfl, rfl⟩
                      | exact Or.inr ⟨by omega, rfl, rfl⟩
                  · have h99 := (nc_gt _ _).mp h99
                    try simp (disch := decide) only [ti_iv, ti_ivn, ti_n, ti_0, os_si, os_sj, va_up, upd, Nat.reduceEqDiff, reduceIte] at h99
                    conv => whnf
                    refine pm_gd (by decide) ?_
                    refine hZ1 _ _ ?_
                    conv => whnf
                    refine pm_bf (cdf rfl) ?_
                    conv => whnf
                    refine hcl0 _ _ _ _ ?_
                    refine S_Model_isOne [] 400 rfl (fun R1 cl1 Z1 hR1 hcl1 hZ1 => ?_)
                    conv => whnf
                    refine ⟨fun h100 => ?_, fun h100 => ?_⟩
                    · have h100 := (cc_lt _ _).mp h100
                      try simp (disch := decide) only [ti_iv, ti_ivn, ti_n, ti_0, os_si, os_sj, va_up, upd, Nat.reduceEqDiff, reduceIte] at h100
                      conv => whnf
                      refine pm_gd (by decide) ?_
                      refine hZ1 _ _ ?_
                      conv => whnf
                      refine pm_bt (cdt rfl) ?_
                      conv => whnf
                      refine hZ0 _ _ ?_
                      first
                        | exact Or.inl ⟨by omega, rfl, rfl⟩
                        | exact Or.inr ⟨by omega, rfl, rfl⟩
                    · have h100 := (nc_lt _ _).mp h100
                      try simp (disch := decide) only [ti_iv, ti_ivn, ti_n, ti_0, os_si, os_sj, va_up, upd, Nat.reduceEqDiff, reduceIte] at h100
                      conv => whnf
                      refine ⟨fun h101 => ?_, fun h101 => ?_⟩
                      · have h101 := (cc_ge _ _).mp h101
                        try simp (disch := decide) only [ti_iv, ti_ivn, ti_n, ti_0, os_si, os_sj, va_up, upd, Nat.reduceEqDiff, reduceIte] at h101
                        conv => whnf
                        refine pm_gd (by decide) ?_
                        refine hZ1 _ _ ?_
                        conv => whnf
                        refine pm_bt (cdt rfl) ?_
                        conv => whnf
                        refine hZ0 _ _ ?_
                        first
                          | exact Or.inl ⟨by omega, rfl, rfl⟩
                          | exact Or.inr ⟨by omega, rfl, rfl⟩
                      · have h101 := (nc_ge _ _).mp h101
                        try simp (disch := decide) only [ti_iv, ti_ivn, ti_n, ti_0, os_si, os_sj, va_up, upd, Nat.reduceEqDiff, reduceIte] at h101
                        conv => whnf
                        refine pm_gd (by decide) ?_
                        refine hZ1 _ _ ?_
                        conv => whnf
                        refine pm_bf (cdf rfl) ?_
                        conv => whnf
                        refine pm_bt (cdt rfl) ?_
                        conv => whnf
                        refine ⟨fun h102 => ?_, fun h102 => ?_⟩
                        · have h102 := (cc_ne _ _).mp h102
                          try simp (disch := decide) only [ti_iv, ti_ivn, ti_n, ti_0, os_si, os_sj, va_up, upd, Nat.reduceEqDiff, reduceIte] at h102
                          conv => whnf
                          refine pm_gd (gI (by (try simp (disch := decide) only [ti_iv, ti_ivn, ti_n, ti_0, os_si, os_sj, va_up, upd, Nat.reduceEqDiff, reduceIte]); omega) (by (try simp (disch := decide) only [ti_iv, ti_ivn, ti_n, ti_0, os_si, os_sj, va_up, upd, Nat.reduceEqDiff, reduceIte]); omega)) ?_
                          conv => whnf
                          refine pm_gd (gI (by (try simp (disch := decide) only [ti_iv, ti_ivn, ti_n, ti_0, os_si, os_sj, va_up, upd, Nat.reduceEqDiff, reduceIte]); omega) (by (try simp (disch := decide) only [ti_iv, ti_ivn, ti_n, ti_0, os_si, os_sj, va_up, upd, Nat.reduceEqDiff, reduceIte]); omega)) ?_
                          conv => whnf
                          refine pm_gd (gI (by (try simp (disch := decide) only [ti_iv, ti_ivn, ti_n, ti_0, os_si, os_sj, va_up, upd, Nat.reduceEqDiff, reduceIte]); omega) (by (try simp (disch := decide) only [ti_iv, ti_ivn, ti_n, ti_0, os_si, os_sj, va_up, upd, Nat.reduceEqDiff, reduceIte]); omega)) ?_
                          conv => whnf
                          refine pm_gd (gI (by (try simp (disch := decide) only [ti_iv, ti_ivn, ti_n, ti_0, os_si, os_sj, va_up, upd, Nat.reduceEqDiff, reduceIte]); omega) (by (try simp (disch := decide) only [ti_iv, ti_ivn, ti_n, ti_0, os_si, os_sj, va_up, upd, Nat.reduceEqDiff, reduceIte]); omega)) ?_
                          conv => whnf
                          refine hZ0 _ _ ?_
                          first
                            | exact Or.inl ⟨by omega, rfl, rfl⟩
                            | exact Or.inr ⟨by omega, rfl, rfl⟩
                        · have h102 := (nc_ne _ _).mp h102
                          try simp (disch := decide) only [ti_iv, ti_ivn, ti_n, ti_0, os_si, os_sj, va_up, upd, Nat.reduceEqDiff, reduceIte] at h102
                          conv => whnf
                          refine hZ0 _ _ ?_
                          first
                            | exact Or.inl ⟨by omega, rfl, rfl⟩
                            | exact Or.inr ⟨by omega, rfl, rfl⟩
              · have h97 := (nc_ge _ _).mp h97
                try simp (disch := decide) only [ti_iv, ti_ivn, ti_n, ti_0, os_si, os_sj, va_up, upd, Nat.reduceEqDiff, reduceIte] at h97
                conv => whnf
                refine pm_gd (by decide) ?_
                refine hZ1 _ _ ?_
                conv => whnf
                refine pm_bf (cdf rfl) ?_
                conv => whnf
                refine hcl0 _ _ _ _ ?_
                refine S_Model_isIn [] 400 rfl (fun R1 cl1 Z1 hR1 hcl1 hZ1 => ?_)
                conv => whnf
                refine ⟨fun h103 => ?_, fun h103 => ?_⟩
                · have h103 := (cc_lt _ _).mp h103
                  try simp (disch := decide) only [ti_iv, ti_ivn, ti_n, ti_0, os_si, os_sj, va_up, upd, Nat.reduceEqDiff, reduceIte] at h103
                  conv => whnf
                  refine pm_gd (by decide) ?_
                  refine hZ1 _ _ ?_
                  conv => whnf
                  refine pm_bt (cdt rfl) ?_
                  conv => whnf
                  refine hZ0 _ _ ?_
                  first
                    | exact Or.inl ⟨by omega, rfl, rfl⟩
                    | exact Or.inr ⟨by omega, rfl, rfl⟩
                · have h103 := (nc_lt _ _).mp h103
                  try simp (disch := decide) only [ti_iv, ti_ivn, ti_n, ti_0, os_si, os_sj, va_up, upd, Nat.reduceEqDiff, reduceIte] at h103
                  conv => whnf
                  refine ⟨fun h104 => ?_, fun h104 => ?_⟩
                  · have h104 := (cc_gt _ _).mp h104
                    try simp (disch := decide) only [ti_iv, ti_ivn, ti_n, ti_0, os_si, os_sj, va_up, upd, Nat.reduceEqDiff, reduceIte] at h104
                    conv => whnf
                    refine pm_gd (by decide) ?_
                    refine hZ1 _ _ ?_
                    conv => whnf
                    refine pm_bt (cdt rfl) ?_
                    conv => whnf
                    refine hZ0 _ _ ?_
                    first
                      | exact Or.inl ⟨by omega, rfl, rfl⟩
                      | exact Or.inr ⟨by omega, rfl, rfl⟩
                  · have h104 := (nc_gt _ _).mp h104
                    try simp (disch := decide) only [ti_iv, ti_ivn, ti_n, ti_0, os_si, os_sj, va_up, upd, Nat.reduceEqDiff, reduceIte] at h104
                    conv => whnf
                    refine pm_gd (by decide) ?_
                    refine hZ1 _ _ ?_
                    conv => whnf
                    refine pm_bf (cdf rfl) ?_
                    conv => whnf
                    refine hcl0 _ _ _ _ ?_
                    refine S_Model_isOne [] 400 rfl (fun R1 cl1 Z1 hR1 hcl1 hZ1 => ?_)
                    conv => whnf
                    refine ⟨fun h105 => ?_, fun h105 => ?_⟩
                    · have h105 := (cc_lt _ _).mp h105
                      try simp (disch := decide) only [ti_iv, ti_ivn, ti_n, ti_0, os_si, os_sj, va_up, upd, Nat.reduceEqDiff, reduceIte] at h105
                      conv => whnf
                      refine pm_gd (by decide) ?_
                      refine hZ1 _ _ ?_
                      conv => whnf
                      refine pm_bt (cdt rfl) ?_
                      conv => whnf
                      refine hZ0 _ _ ?_
                      first
                        | exact Or.inl ⟨by omega, rfl, rfl⟩
                        | exact Or.inr ⟨by omega, rfl, rfl⟩
                    · have h105 := (nc_lt _ _).mp h105
                      try simp (disch := decide) only [ti_iv, ti_ivn, ti_n, ti_0, os_si, os_sj, va_up, upd, Nat.reduceEqDiff, reduceIte] at h105
                      conv => whnf
                      refine ⟨fun h106 => ?_, fun h106 => ?_⟩
                      · have h106 := (cc_ge _ _).mp h106
                        try simp (disch := decide) only [ti_iv, ti_ivn, ti_n, ti_0, os_si, os_sj, va_up, upd, Nat.reduceEqDiff, reduceIte] at h106
                        conv => whnf
                        refine pm_gd (by decide) ?_
                        refine hZ1 _ _ ?_
                        conv => whnf
                        refine pm_bt (cdt rfl) ?_
                        conv => whnf
                        refine hZ0 _ _ ?_
                        first
                          | exact Or.inl ⟨by omega, rfl, rfl⟩
                          | exact Or.inr ⟨by omega, rfl, rfl⟩
                      · have h106 := (nc_ge _ _).mp h106
                        try simp (disch := decide) only [ti_iv, ti_ivn, ti_n, ti_0, os_si, os_sj, va_up, upd, Nat.reduceEqDiff, reduceIte] at h106
                        conv => whnf
                        refine pm_gd (by decide) ?_
                        refine hZ1 _ _ ?_
                        conv => whnf
                        refine pm_bf (cdf rfl) ?_
                        conv => whnf
                        refine pm_bt (cdt rfl) ?_
                        conv => whnf
                        refine ⟨fun h107 => ?_, fun h107 => ?_⟩
                        · have h107 := (cc_ne _ _).mp h107
                          try simp (disch := decide) only [ti_iv, ti_ivn, ti_n, ti_0, os_si, os_sj, va_up, upd, Nat.reduceEqDiff, reduceIte] at h107
                          conv => whnf
                          refine pm_gd (gI (by (try simp (disch := decide) only [ti_iv, ti_ivn, ti_n, ti_0, os_si, os_sj, va_up, upd, Nat.reduceEqDiff, reduceIte]); omega) (by (try simp (disch := decide) only [ti_iv, ti_ivn, ti_n, ti_0, os_si, os_sj, va_up, upd, Nat.reduceEqDiff, reduceIte]); omega)) ?_
                          conv => whnf
                          refine pm_gd (gI (by (try simp (disch := decide) only [ti_iv, ti_ivn, ti_n, ti_0, os_si, os_sj, va_up, upd, Nat.reduceEqDiff, reduceIte]); omega) (by (try simp (disch := decide) only [ti_iv, ti_ivn, ti_n, ti_0, os_si, os_sj, va_up, upd, Nat.reduceEqDiff, reduceIte]); omega)) ?_
                          conv => whnf
                          refine pm_gd (gI (by (try simp (disch := decide) only [ti_iv, ti_ivn, ti_n, ti_0, os_si, os_sj, va_up, upd, Nat.reduceEqDiff, reduceIte]); omega) (by (try simp (disch := decide) only [ti_iv, ti_ivn, ti_n, ti_0, os_si, os_sj, va_up, upd, Nat.reduceEqDiff, reduceIte]); omega)) ?_
                          conv => whnf
                          refine pm_gd (gI (by (try simp (disch := decide) only [ti_iv, ti_ivn, ti_n, ti_0, os_si, os_sj, va_up, upd, Nat.reduceEqDiff, reduceIte]); omega) (by (try simp (disch := decide) only [ti_iv, ti_ivn, ti_n, ti_0, os_si, os_sj, va_up, upd, Nat.reduceEqDiff, reduceIte]); omega)) ?_
                          conv => whnf
                          refine hZ0 _ _ ?_
                          first
                            | exact Or.inl ⟨by omega, rfl, rfl⟩
                            | exact Or.inr ⟨by omega, rfl, rfl⟩
                        · have h107 := (nc_ne _ _).mp h107
                          try simp (disch := decide) only [ti_iv, ti_ivn, ti_n, ti_0, os_si, os_sj, va_up, upd, Nat.reduceEqDiff, reduceIte] at h107
                          conv => whnf
                          refine hZ0 _ _ ?_
                          first
                            | exact Or.inl ⟨by omega, rfl, rfl⟩
                            | exact Or.inr ⟨by omega, rfl, rfl⟩
