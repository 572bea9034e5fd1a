/-! chance -/
theorem iv_n (x : Nat) : pm_iv x 0 = nI x := rfl
def chF (ch : Nat → Int32) (s h i : Nat) : Int32 := if i = s then 0 else ch (i * 8 + h)
def chQ (ch : Nat → Int32) (n : Nat) (a1 a2 a3 : Int32) (yes no : Prop) : Prop := (∃ s h : Nat, s < n ∧ h < 8 ∧ a1 = nI s ∧ a2 = nI h ∧ (0 ≤ a3.toInt ∧ a3.toInt ≤ 100) ∧ (((sumF (chF ch s h) n + a3).toInt ≤ 100 ∧ yes) ∨ (¬ (sumF (chF ch s h) n + a3).toInt ≤ 100 ∧ no))) ∨ (¬ ((0 ≤ a1.toInt ∧ a1.toInt < n) ∧ (0 ≤ a2.toInt ∧ a2.toInt < 8) ∧ 0 ≤ a3.toInt ∧ a3.toInt ≤ 100) ∧ no)
set_option maxRecDepth 20000 in
theorem x_chance_loop (σ : pm_S) (v : Int32) (n s h : Nat) (hn : n ≤ 10) (hs : s < n) (hh : h < 8) (hL : σ.1 3 0 = nI n) : ∀ (m : Nat) (d : Nat) (a : Int32), n + 1 = d + m → d ≤ n → a = sumF (chF (σ.1 6) s h) d → Ok 86 3 20 [.ref 3, .int (nI s), .int (nI h), .int v, .int a, .int (nI d)] [] σ (fun r τ => ((sumF (chF (σ.1 6) s h) n + v).toInt ≤ 100 ∧ r = some (.int 1) ∧ τ = (va_up σ.1 6 (upd (σ.1 6) (s * 8 + h) v), σ.2)) ∨ (¬ (sumF (chF (σ.1 6) s h) n + v).toInt ≤ 100 ∧ r = some (.int 0) ∧ τ = σ)) := by
  intro m
  induction m with
  | zero => intro d a hd hdn ha; exfalso; omega
  | succ m ih =>
    intro d a hd hdn ha
    refine O_Spots_tellChance [20] 400 (fun R0 cl0 Z0 hR0 hcl0 hZ0 => ?_)
    conv => whnf
    refine ⟨fun h1 => ?_, fun h1 => ?_⟩
    · have h1 := (cc_ge _ _).mp h1
      try simp (disch := omega) only [hL, tn_n, bI_0, bI_1, Classical.not_not, ti_iv, ti_ivn, ti_n, ti_0, os_si, os_sj, va_up, upd, Nat.reduceEqDiff, reduceIte] at h1
      conv => whnf
      refine ⟨fun h2 => ?_, fun h2 => ?_⟩
      · have h2 := (cc_le _ _).mp h2
        try simp (disch := omega) only [hL, tn_n, bI_0, bI_1, Classical.not_not, ti_iv, ti_ivn, ti_n, ti_0, os_si, os_sj, va_up, upd, Nat.reduceEqDiff, reduceIte] at h2
        conv => whnf
        refine pm_gd (gI (by first | omega | ((try simp (disch := omega) only [hL, tn_n, iv_n, nI_mul, nI_add, nI_iv1, ti_iv, ti_ivn, ti_n, ti_0, bI_0, bI_1, Classical.not_not, os_si, os_sj, va_up, upd, Nat.reduceEqDiff, reduceIte]); (try dsimp only); omega)) (by first | omega | ((try simp (disch := omega) only [hL, tn_n, iv_n, nI_mul, nI_add, nI_iv1, ti_iv, ti_ivn, ti_n, ti_0, bI_0, bI_1, Classical.not_not, os_si, os_sj, va_up, upd, Nat.reduceEqDiff, reduceIte]); (try dsimp only); omega))) ?_
        conv => whnf
        refine pm_gd (by decide) ?_
        refine hZ0 _ _ ?_
        first
          | (exfalso; omega)
          | (obtain rfl : d = n := by omega
             rw [ha] at *
             first
               | exact Or.inl ⟨by omega, rfl, by simp (disch := omega) [os_si, iv_n, nI_mul, nI_add, tn_n]⟩
               | exact Or.inr ⟨by omega, rfl, rfl⟩)
      · have h2 := (nc_le _ _).mp h2
        try simp (disch := omega) only [hL, tn_n, bI_0, bI_1, Classical.not_not, ti_iv, ti_ivn, ti_n, ti_0, os_si, os_sj, va_up, upd, Nat.reduceEqDiff, reduceIte] at h2
        conv => whnf
        refine pm_gd (by decide) ?_
        refine hZ0 _ _ ?_
        first
          | (exfalso; omega)
          | (obtain rfl : d = n := by omega
             rw [ha] at *
             first
               | exact Or.inl ⟨by omega, rfl, by simp (disch := omega) [os_si, iv_n, nI_mul, nI_add, tn_n]⟩
               | exact Or.inr ⟨by omega, rfl, rfl⟩)
    · have h1 := (nc_ge _ _).mp h1
      try simp (disch := omega) only [hL, tn_n, bI_0, bI_1, Classical.not_not, ti_iv, ti_ivn, ti_n, ti_0, os_si, os_sj, va_up, upd, Nat.reduceEqDiff, reduceIte] at h1
      conv => whnf
      refine ⟨fun h3 => ?_, fun h3 => ?_⟩
      · have h3 := (cc_ne _ _).mp h3
        try simp (disch := omega) only [hL, tn_n, bI_0, bI_1, Classical.not_not, ti_iv, ti_ivn, ti_n, ti_0, os_si, os_sj, va_up, upd, Nat.reduceEqDiff, reduceIte] at h3
        conv => whnf
        refine hcl0 _ _ _ _ ?_
        refine S_Spots_chanceAt [] 400 rfl (fun R1 cl1 Z1 hR1 hcl1 hZ1 => ?_)
        conv => whnf
        refine hcl1 _ _ _ _ ?_
        refine S_Spots_has [] 400 rfl (fun R2 cl2 Z2 hR2 hcl2 hZ2 => ?_)
        conv => whnf
        refine ⟨fun h4 => ?_, fun h4 => ?_⟩
        · have h4 := (cc_lt _ _).mp h4
          try simp (disch := omega) only [hL, tn_n, bI_0, bI_1, Classical.not_not, ti_iv, ti_ivn, ti_n, ti_0, os_si, os_sj, va_up, upd, Nat.reduceEqDiff, reduceIte] at h4
          conv => whnf
          refine pm_gd (by decide) ?_
          refine hZ2 _ _ ?_
          conv => whnf
          refine pm_bt (cdt rfl) ?_
          conv => whnf
          refine hZ1 _ _ ?_
          conv => whnf
          first
            | (exfalso; omega)
            | (refine hR0 _ _ _ _ ?_
               show Ok 86 3 20 [.ref 3, .int (nI s), .int (nI h), .int v, .int _, .int (nI d + Int32.ofInt 1)] [] σ _
               rw [show nI d + Int32.ofInt 1 = nI (d + 1) from nI_1 d]
               refine ih (d + 1) _ (by omega) (by omega) ?_
               simp (disch := omega) only [sumF, ha, chF, tn_n, iv_n, nI_mul, nI_add]
               first
                 | (rw [if_pos (by omega)]; rfl)
                 | (rw [if_neg (by omega)]))
        · have h4 := (nc_lt _ _).mp h4
          try simp (disch := omega) only [hL, tn_n, bI_0, bI_1, Classical.not_not, ti_iv, ti_ivn, ti_n, ti_0, os_si, os_sj, va_up, upd, Nat.reduceEqDiff, reduceIte] at h4
          conv => whnf
          refine ⟨fun h5 => ?_, fun h5 => ?_⟩
          · have h5 := (cc_ge _ _).mp h5
            try simp (disch := omega) only [hL, tn_n, bI_0, bI_1, Classical.not_not, ti_iv, ti_ivn, ti_n, ti_0, os_si, os_sj, va_up, upd, Nat.reduceEqDiff, reduceIte] at h5
            conv => whnf
            refine pm_gd (by decide) ?_
            refine hZ2 _ _ ?_
            conv => whnf
            refine pm_bt (cdt rfl) ?_
            conv => whnf
            refine hZ1 _ _ ?_
            conv => whnf
            first
              | (exfalso; omega)
              | (refine hR0 _ _ _ _ ?_
                 show Ok 86 3 20 [.ref 3, .int (nI s), .int (nI h), .int v, .int _, .int (nI d + Int32.ofInt 1)] [] σ _
                 rw [show nI d + Int32.ofInt 1 = nI (d + 1) from nI_1 d]
                 refine ih (d + 1) _ (by omega) (by omega) ?_
                 simp (disch := omega) only [sumF, ha, chF, tn_n, iv_n, nI_mul, nI_add]
                 first
                   | (rw [if_pos (by omega)]; rfl)
                   | (rw [if_neg (by omega)]))
          · have h5 := (nc_ge _ _).mp h5
            try simp (disch := omega) only [hL, tn_n, bI_0, bI_1, Classical.not_not, ti_iv, ti_ivn, ti_n, ti_0, os_si, os_sj, va_up, upd, Nat.reduceEqDiff, reduceIte] at h5
            conv => whnf
            refine pm_gd (by decide) ?_
            refine hZ2 _ _ ?_
            conv => whnf
            refine pm_bf (cdf rfl) ?_
            conv => whnf
            refine ⟨fun h6 => ?_, fun h6 => ?_⟩
            · have h6 := (cc_lt _ _).mp h6
              try simp (disch := omega) only [hL, tn_n, bI_0, bI_1, Classical.not_not, ti_iv, ti_ivn, ti_n, ti_0, os_si, os_sj, va_up, upd, Nat.reduceEqDiff, reduceIte] at h6
              conv => whnf
              refine hZ1 _ _ ?_
              conv => whnf
              first
                | (exfalso; omega)
                | (refine hR0 _ _ _ _ ?_
                   show Ok 86 3 20 [.ref 3, .int (nI s), .int (nI h), .int v, .int _, .int (nI d + Int32.ofInt 1)] [] σ _
                   rw [show nI d + Int32.ofInt 1 = nI (d + 1) from nI_1 d]
                   refine ih (d + 1) _ (by omega) (by omega) ?_
                   simp (disch := omega) only [sumF, ha, chF, tn_n, iv_n, nI_mul, nI_add]
                   first
                     | (rw [if_pos (by omega)]; rfl)
                     | (rw [if_neg (by omega)]))
            · have h6 := (nc_lt _ _).mp h6
              try simp (disch := omega) only [hL, tn_n, bI_0, bI_1, Classical.not_not, ti_iv, ti_ivn, ti_n, ti_0, os_si, os_sj, va_up, upd, Nat.reduceEqDiff, reduceIte] at h6
              conv => whnf
              refine ⟨fun h7 => ?_, fun h7 => ?_⟩
              · have h7 := (cc_ge _ _).mp h7
                try simp (disch := omega) only [hL, tn_n, bI_0, bI_1, Classical.not_not, ti_iv, ti_ivn, ti_n, ti_0, os_si, os_sj, va_up, upd, Nat.reduceEqDiff, reduceIte] at h7
                conv => whnf
                refine hZ1 _ _ ?_
                conv => whnf
                first
                  | (exfalso; omega)
                  | (refine hR0 _ _ _ _ ?_
                     show Ok 86 3 20 [.ref 3, .int (nI s), .int (nI h), .int v, .int _, .int (nI d + Int32.ofInt 1)] [] σ _
                     rw [show nI d + Int32.ofInt 1 = nI (d + 1) from nI_1 d]
                     refine ih (d + 1) _ (by omega) (by omega) ?_
                     simp (disch := omega) only [sumF, ha, chF, tn_n, iv_n, nI_mul, nI_add]
                     first
                       | (rw [if_pos (by omega)]; rfl)
                       | (rw [if_neg (by omega)]))
              · have h7 := (nc_ge _ _).mp h7
                try simp (disch := omega) only [hL, tn_n, bI_0, bI_1, Classical.not_not, ti_iv, ti_ivn, ti_n, ti_0, os_si, os_sj, va_up, upd, Nat.reduceEqDiff, reduceIte] at h7
                conv => whnf
                refine pm_gd (gI (by first | omega | ((try simp (disch := omega) only [hL, tn_n, iv_n, nI_mul, nI_add, nI_iv1, ti_iv, ti_ivn, ti_n, ti_0, bI_0, bI_1, Classical.not_not, os_si, os_sj, va_up, upd, Nat.reduceEqDiff, reduceIte]); (try dsimp only); omega)) (by first | omega | ((try simp (disch := omega) only [hL, tn_n, iv_n, nI_mul, nI_add, nI_iv1, ti_iv, ti_ivn, ti_n, ti_0, bI_0, bI_1, Classical.not_not, os_si, os_sj, va_up, upd, Nat.reduceEqDiff, reduceIte]); (try dsimp only); omega))) ?_
                conv => whnf
                refine hZ1 _ _ ?_
                conv => whnf
                first
                  | (exfalso; omega)
                  | (refine hR0 _ _ _ _ ?_
                     show Ok 86 3 20 [.ref 3, .int (nI s), .int (nI h), .int v, .int _, .int (nI d + Int32.ofInt 1)] [] σ _
                     rw [show nI d + Int32.ofInt 1 = nI (d + 1) from nI_1 d]
                     refine ih (d + 1) _ (by omega) (by omega) ?_
                     simp (disch := omega) only [sumF, ha, chF, tn_n, iv_n, nI_mul, nI_add]
                     first
                       | (rw [if_pos (by omega)]; rfl)
                       | (rw [if_neg (by omega)]))
      · have h3 := (nc_ne _ _).mp h3
        try simp (disch := omega) only [hL, tn_n, bI_0, bI_1, Classical.not_not, ti_iv, ti_ivn, ti_n, ti_0, os_si, os_sj, va_up, upd, Nat.reduceEqDiff, reduceIte] at h3
        conv => whnf
        first
          | (exfalso; omega)
          | (refine hR0 _ _ _ _ ?_
             show Ok 86 3 20 [.ref 3, .int (nI s), .int (nI h), .int v, .int _, .int (nI d + Int32.ofInt 1)] [] σ _
             rw [show nI d + Int32.ofInt 1 = nI (d + 1) from nI_1 d]
             refine ih (d + 1) _ (by omega) (by omega) ?_
             simp (disch := omega) only [sumF, ha, chF, tn_n, iv_n, nI_mul, nI_add]
             first
               | (rw [if_pos (by omega)]; rfl)
               | (rw [if_neg (by omega)]))
set_option maxRecDepth 20000 in
theorem x_tell (σ : pm_S) (a1 a2 a3 : Int32) (n : Nat) (hn : n ≤ 10) (hL : σ.1 3 0 = nI n) : Sp 86 3 [.ref 3, .int a1, .int a2, .int a3] σ (fun r τ => ∃ b : Int32, r = some (.int b) ∧ (b = 0 ∨ b = 1) ∧ chQ (σ.1 6) n a1 a2 a3 (b = 1 ∧ τ = (va_up σ.1 6 (upd (σ.1 6) (a1.toNatClampNeg * 8 + a2.toNatClampNeg) a3), σ.2)) (b = 0 ∧ τ = σ)) := by
  refine S_Spots_tellChance [20] 400 rfl (fun R0 cl0 Z0 hR0 hcl0 hZ0 => ?_)
  conv => whnf
  refine hcl0 _ _ _ _ ((x_hasS _ _).use (by decide) (fun rs1 τs1 s1 => ?_))
  obtain ⟨rfl, rfl⟩ := s1
  conv => whnf
  refine ⟨fun h2 => ?_, fun h2 => ?_⟩
  · have h2 := (cc_eq _ _).mp h2
    try simp (disch := omega) only [hL, tn_n, bI_0, bI_1, Classical.not_not, ti_iv, ti_ivn, ti_n, ti_0, os_si, os_sj, va_up, upd, Nat.reduceEqDiff, reduceIte] at h2
    conv => whnf
    refine pm_gd (by decide) ?_
    refine hZ0 _ _ ?_
    exact ⟨0, rfl, Or.inl rfl, Or.inr ⟨by omega, rfl, rfl⟩⟩
  · have h2 := (nc_eq _ _).mp h2
    try simp (disch := omega) only [hL, tn_n, bI_0, bI_1, Classical.not_not, ti_iv, ti_ivn, ti_n, ti_0, os_si, os_sj, va_up, upd, Nat.reduceEqDiff, reduceIte] at h2
    conv => whnf
    refine ⟨fun h3 => ?_, fun h3 => ?_⟩
    · have h3 := (cc_lt _ _).mp h3
      try simp (disch := omega) only [hL, tn_n, bI_0, bI_1, Classical.not_not, ti_iv, ti_ivn, ti_n, ti_0, os_si, os_sj, va_up, upd, Nat.reduceEqDiff, reduceIte] at h3
      conv => whnf
      refine pm_gd (by decide) ?_
      refine hZ0 _ _ ?_
      exact ⟨0, rfl, Or.inl rfl, Or.inr ⟨by omega, rfl, rfl⟩⟩
    · have h3 := (nc_lt _ _).mp h3
      try simp (disch := omega) only [hL, tn_n, bI_0, bI_1, Classical.not_not, ti_iv, ti_ivn, ti_n, ti_0, os_si, os_sj, va_up, upd, Nat.reduceEqDiff, reduceIte] at h3
      conv => whnf
      refine ⟨fun h4 => ?_, fun h4 => ?_⟩
      · have h4 := (cc_ge _ _).mp h4
        try simp (disch := omega) only [hL, tn_n, bI_0, bI_1, Classical.not_not, ti_iv, ti_ivn, ti_n, ti_0, os_si, os_sj, va_up, upd, Nat.reduceEqDiff, reduceIte] at h4
        conv => whnf
        refine pm_gd (by decide) ?_
        refine hZ0 _ _ ?_
        exact ⟨0, rfl, Or.inl rfl, Or.inr ⟨by omega, rfl, rfl⟩⟩
      · have h4 := (nc_ge _ _).mp h4
        try simp (disch := omega) only [hL, tn_n, bI_0, bI_1, Classical.not_not, ti_iv, ti_ivn, ti_n, ti_0, os_si, os_sj, va_up, upd, Nat.reduceEqDiff, reduceIte] at h4
        conv => whnf
        refine ⟨fun h5 => ?_, fun h5 => ?_⟩
        · have h5 := (cc_lt _ _).mp h5
          try simp (disch := omega) only [hL, tn_n, bI_0, bI_1, Classical.not_not, ti_iv, ti_ivn, ti_n, ti_0, os_si, os_sj, va_up, upd, Nat.reduceEqDiff, reduceIte] at h5
          conv => whnf
          refine pm_gd (by decide) ?_
          refine hZ0 _ _ ?_
          exact ⟨0, rfl, Or.inl rfl, Or.inr ⟨by omega, rfl, rfl⟩⟩
        · have h5 := (nc_lt _ _).mp h5
          try simp (disch := omega) only [hL, tn_n, bI_0, bI_1, Classical.not_not, ti_iv, ti_ivn, ti_n, ti_0, os_si, os_sj, va_up, upd, Nat.reduceEqDiff, reduceIte] at h5
          conv => whnf
          refine ⟨fun h6 => ?_, fun h6 => ?_⟩
          · have h6 := (cc_le _ _).mp h6
            try simp (disch := omega) only [hL, tn_n, bI_0, bI_1, Classical.not_not, ti_iv, ti_ivn, ti_n, ti_0, os_si, os_sj, va_up, upd, Nat.reduceEqDiff, reduceIte] at h6
            conv => whnf
            (obtain ⟨h, hh, rfl⟩ := nI_rng (n := 8) (a := a2) (by omega) (by omega) (by omega)
             obtain ⟨s, hs, rfl⟩ := nI_rng (n := n) (a := a1) (by omega) (by omega) (by omega)
             refine hR0 _ _ _ _ ((x_chance_loop σ a3 n s h hn hs hh hL (n + 1) 0 _ (by omega) (by omega) rfl).mono (fun r τ hq => ?_))
             have e1 := tn_n (x := s) (by omega)
             have e2 := tn_n (x := h) (by omega)
             rcases hq with ⟨q1, rfl, rfl⟩ | ⟨q1, rfl, rfl⟩
             · exact ⟨1, rfl, Or.inr rfl, Or.inl ⟨s, h, hs, hh, rfl, rfl, by omega, Or.inl ⟨q1, rfl, by rw [e1, e2]⟩⟩⟩
             · exact ⟨0, rfl, Or.inl rfl, Or.inl ⟨s, h, hs, hh, rfl, rfl, by omega, Or.inr ⟨q1, rfl, rfl⟩⟩⟩)
          · have h6 := (nc_le _ _).mp h6
            try simp (disch := omega) only [hL, tn_n, bI_0, bI_1, Classical.not_not, ti_iv, ti_ivn, ti_n, ti_0, os_si, os_sj, va_up, upd, Nat.reduceEqDiff, reduceIte] at h6
            conv => whnf
            refine pm_gd (by decide) ?_
            refine hZ0 _ _ ?_
            exact ⟨0, rfl, Or.inl rfl, Or.inr ⟨by omega, rfl, rfl⟩⟩
theorem x_chance (σ : pm_S) (a1 a2 a3 : Int32) (n : Nat) (hn : n ≤ 10) (hL : σ.1 3 0 = nI n) : Sp 147 4 [.ref 0, .int a1, .int a2, .int a3] σ (fun r τ => ∃ b : Int32, r = some (.int b) ∧ (b = 0 ∨ b = 1) ∧ chQ (σ.1 6) n a1 a2 a3 (b = 1 ∧ τ = (va_up σ.1 6 (upd (σ.1 6) (a1.toNatClampNeg * 8 + a2.toNatClampNeg) a3), σ.2)) (b = 0 ∧ τ = σ)) := by
  refine S_PaidWhereMade_chance [] 20 rfl (fun R cl Z hR hcl hZ => ?_)
  conv => whnf
  refine hcl _ _ _ _ ((x_tell _ _ _ _ n hn hL).use (by decide) (fun r τ h => ?_))
  obtain ⟨b, rfl, hb, hq⟩ := h
  conv => whnf
  refine pm_gd hb ?_
  exact hZ _ _ ⟨b, rfl, hb, hq⟩
set_option maxRecDepth 20000 in
theorem m_chance_loop (σ : pm_S) (v : Int32) (n s h : Nat) (hn : n ≤ 10) (hs : s < n) (hh : h < 8) (hL : σ.1 93 2 = nI n) : ∀ (m : Nat) (d : Nat) (a : Int32), n + 1 = d + m → d ≤ n → a = v + sumF (chF (σ.1 113) s h) d → Ok 230 3 25 [.ref 93, .int (nI s), .int (nI h), .int v, .int a, .int (nI d)] [] σ (fun r τ => ((sumF (chF (σ.1 113) s h) n + v).toInt ≤ 100 ∧ r = some (.int 1) ∧ τ = (va_up σ.1 113 (upd (σ.1 113) (s * 8 + h) v), σ.2)) ∨ (¬ (sumF (chF (σ.1 113) s h) n + v).toInt ≤ 100 ∧ r = some (.int 0) ∧ τ = σ)) := by
  intro m
  induction m with
  | zero => intro d a hd hdn ha; exfalso; omega
  | succ m ih =>
    intro d a hd hdn ha
    refine O_Model_chance [25] 400 (fun R0 cl0 Z0 hR0 hcl0 hZ0 => ?_)
    conv => whnf
    refine ⟨fun h1 => ?_, fun h1 => ?_⟩
    · have h1 := (cc_ge _ _).mp h1
      try simp (disch := omega) only [hL, tn_n, bI_0, bI_1, Classical.not_not, ti_iv, ti_ivn, ti_n, ti_0, os_si, os_sj, va_up, upd, Nat.reduceEqDiff, reduceIte] at h1
      conv => whnf
      refine ⟨fun h2 => ?_, fun h2 => ?_⟩
      · have h2 := (cc_le _ _).mp h2
        try simp (disch := omega) only [hL, tn_n, bI_0, bI_1, Classical.not_not, ti_iv, ti_ivn, ti_n, ti_0, os_si, os_sj, va_up, upd, Nat.reduceEqDiff, reduceIte] at h2
        conv => whnf
        refine pm_gd (gI (by first | omega | ((try simp (disch := omega) only [hL, tn_n, iv_n, nI_mul, nI_add, nI_iv1, ti_iv, ti_ivn, ti_n, ti_0, bI_0, bI_1, Classical.not_not, os_si, os_sj, va_up, upd, Nat.reduceEqDiff, reduceIte]); (try dsimp only); omega)) (by first | omega | ((try simp (disch := omega) only [hL, tn_n, iv_n, nI_mul, nI_add, nI_iv1, ti_iv, ti_ivn, ti_n, ti_0, bI_0, bI_1, Classical.not_not, os_si, os_sj, va_up, upd, Nat.reduceEqDiff, reduceIte]); (try dsimp only); omega))) ?_
        conv => whnf
        refine pm_gd (by decide) ?_
        refine hZ0 _ _ ?_
        first
          | (exfalso; omega)
          | (obtain rfl : d = n := by omega
             have hc : (v + sumF (chF (σ.1 113) s h) d).toInt = (sumF (chF (σ.1 113) s h) d + v).toInt := by rw [Int32.add_comm]
             rw [ha] at *
             first
               | exact Or.inl ⟨by omega, rfl, by simp (disch := omega) [os_si, iv_n, nI_mul, nI_add, tn_n, Nat.mul_comm 8 s]⟩
               | exact Or.inr ⟨by omega, rfl, rfl⟩)
      · have h2 := (nc_le _ _).mp h2
        try simp (disch := omega) only [hL, tn_n, bI_0, bI_1, Classical.not_not, ti_iv, ti_ivn, ti_n, ti_0, os_si, os_sj, va_up, upd, Nat.reduceEqDiff, reduceIte] at h2
        conv => whnf
        refine pm_gd (by decide) ?_
        refine hZ0 _ _ ?_
        first
          | (exfalso; omega)
          | (obtain rfl : d = n := by omega
             have hc : (v + sumF (chF (σ.1 113) s h) d).toInt = (sumF (chF (σ.1 113) s h) d + v).toInt := by rw [Int32.add_comm]
             rw [ha] at *
             first
               | exact Or.inl ⟨by omega, rfl, by simp (disch := omega) [os_si, iv_n, nI_mul, nI_add, tn_n, Nat.mul_comm 8 s]⟩
               | exact Or.inr ⟨by omega, rfl, rfl⟩)
    · have h1 := (nc_ge _ _).mp h1
      try simp (disch := omega) only [hL, tn_n, bI_0, bI_1, Classical.not_not, ti_iv, ti_ivn, ti_n, ti_0, os_si, os_sj, va_up, upd, Nat.reduceEqDiff, reduceIte] at h1
      conv => whnf
      refine ⟨fun h3 => ?_, fun h3 => ?_⟩
      · have h3 := (cc_eq _ _).mp h3
        try simp (disch := omega) only [hL, tn_n, bI_0, bI_1, Classical.not_not, ti_iv, ti_ivn, ti_n, ti_0, os_si, os_sj, va_up, upd, Nat.reduceEqDiff, reduceIte] at h3
        conv => whnf
        first
          | (exfalso; omega)
          | (refine hR0 _ _ _ _ ?_
             show Ok 230 3 25 [.ref 93, .int (nI s), .int (nI h), .int v, .int _, .int (nI d + Int32.ofInt 1)] [] σ _
             rw [show nI d + Int32.ofInt 1 = nI (d + 1) from nI_1 d]
             refine ih (d + 1) _ (by omega) (by omega) ?_
             simp (disch := omega) only [sumF, ha, chF, tn_n, iv_n, nI_mul, nI_add, Nat.mul_comm 8 d, Int32.add_assoc]
             first
               | (rw [if_pos (by omega), Int32.add_zero])
               | (rw [if_neg (by omega)]))
      · have h3 := (nc_eq _ _).mp h3
        try simp (disch := omega) only [hL, tn_n, bI_0, bI_1, Classical.not_not, ti_iv, ti_ivn, ti_n, ti_0, os_si, os_sj, va_up, upd, Nat.reduceEqDiff, reduceIte] at h3
        conv => whnf
        refine pm_gd (gI (by first | omega | ((try simp (disch := omega) only [hL, tn_n, iv_n, nI_mul, nI_add, nI_iv1, ti_iv, ti_ivn, ti_n, ti_0, bI_0, bI_1, Classical.not_not, os_si, os_sj, va_up, upd, Nat.reduceEqDiff, reduceIte]); (try dsimp only); omega)) (by first | omega | ((try simp (disch := omega) only [hL, tn_n, iv_n, nI_mul, nI_add, nI_iv1, ti_iv, ti_ivn, ti_n, ti_0, bI_0, bI_1, Classical.not_not, os_si, os_sj, va_up, upd, Nat.reduceEqDiff, reduceIte]); (try dsimp only); omega))) ?_
        conv => whnf
        first
          | (exfalso; omega)
          | (refine hR0 _ _ _ _ ?_
             show Ok 230 3 25 [.ref 93, .int (nI s), .int (nI h), .int v, .int _, .int (nI d + Int32.ofInt 1)] [] σ _
             rw [show nI d + Int32.ofInt 1 = nI (d + 1) from nI_1 d]
             refine ih (d + 1) _ (by omega) (by omega) ?_
             simp (disch := omega) only [sumF, ha, chF, tn_n, iv_n, nI_mul, nI_add, Nat.mul_comm 8 d, Int32.add_assoc]
             first
               | (rw [if_pos (by omega), Int32.add_zero])
               | (rw [if_neg (by omega)]))
set_option maxRecDepth 20000 in
theorem m_chance (σ : pm_S) (a1 a2 a3 : Int32) (n : Nat) (hn : n ≤ 10) (hL : σ.1 93 2 = nI n) : Sp 230 3 [.ref 93, .int a1, .int a2, .int a3] σ (fun r τ => ∃ b : Int32, r = some (.int b) ∧ (b = 0 ∨ b = 1) ∧ chQ (σ.1 113) n a1 a2 a3 (b = 1 ∧ τ = (va_up (va_up σ.1 93 (upd (σ.1 93) 0 0)) 113 (upd (σ.1 113) (a1.toNatClampNeg * 8 + a2.toNatClampNeg) a3), σ.2)) (b = 0 ∧ τ = (va_up σ.1 93 (upd (σ.1 93) 0 0), σ.2))) := by
  refine S_Model_chance [25] 400 rfl (fun R0 cl0 Z0 hR0 hcl0 hZ0 => ?_)
  conv => whnf
  refine hcl0 _ _ _ _ ((m_isSpot _ _).use (by decide) (fun rs1 τs1 s1 => ?_))
  obtain ⟨rfl, rfl⟩ := s1
  conv => whnf
  refine ⟨fun h2 => ?_, fun h2 => ?_⟩
  · have h2 := (cc_eq _ _).mp h2
    try simp (disch := omega) only [hL, tn_n, bI_0, bI_1, Classical.not_not, ti_iv, ti_ivn, ti_n, ti_0, os_si, os_sj, va_up, upd, Nat.reduceEqDiff, reduceIte] at h2
    conv => whnf
    refine pm_gd (by decide) ?_
    refine hZ0 _ _ ?_
    exact ⟨0, rfl, Or.inl rfl, Or.inr ⟨by omega, rfl, rfl⟩⟩
  · have h2 := (nc_eq _ _).mp h2
    try simp (disch := omega) only [hL, tn_n, bI_0, bI_1, Classical.not_not, ti_iv, ti_ivn, ti_n, ti_0, os_si, os_sj, va_up, upd, Nat.reduceEqDiff, reduceIte] at h2
    conv => whnf
    refine hcl0 _ _ _ _ ((m_isInB _ _ _ _).use (by decide) (fun rs3 τs3 s3 => ?_))
    obtain ⟨rfl, rfl⟩ := s3
    conv => whnf
    refine ⟨fun h4 => ?_, fun h4 => ?_⟩
    · have h4 := (cc_eq _ _).mp h4
      try simp (disch := omega) only [hL, tn_n, bI_0, bI_1, Classical.not_not, ti_iv, ti_ivn, ti_n, ti_0, os_si, os_sj, va_up, upd, Nat.reduceEqDiff, reduceIte] at h4
      conv => whnf
      refine pm_gd (by decide) ?_
      refine hZ0 _ _ ?_
      exact ⟨0, rfl, Or.inl rfl, Or.inr ⟨by omega, rfl, rfl⟩⟩
    · have h4 := (nc_eq _ _).mp h4
      try simp (disch := omega) only [hL, tn_n, bI_0, bI_1, Classical.not_not, ti_iv, ti_ivn, ti_n, ti_0, os_si, os_sj, va_up, upd, Nat.reduceEqDiff, reduceIte] at h4
      conv => whnf
      refine hcl0 _ _ _ _ ((m_isInB _ _ _ _).use (by decide) (fun rs5 τs5 s5 => ?_))
      obtain ⟨rfl, rfl⟩ := s5
      conv => whnf
      refine ⟨fun h6 => ?_, fun h6 => ?_⟩
      · have h6 := (cc_ne _ _).mp h6
        try simp (disch := omega) only [hL, tn_n, bI_0, bI_1, Classical.not_not, ti_iv, ti_ivn, ti_n, ti_0, os_si, os_sj, va_up, upd, Nat.reduceEqDiff, reduceIte] at h6
        conv => whnf
        (obtain ⟨h, hh, rfl⟩ := nI_rng (n := 8) (a := a2) (by omega) (by omega) (by omega)
         obtain ⟨s, hs, rfl⟩ := nI_rng (n := n) (a := a1) (by omega) (by omega) (by omega)
         refine hR0 _ _ _ _ ((m_chance_loop _ a3 n s h hn hs hh (by exact hL) (n + 1) 0 _ (by omega) (by omega) (Int32.add_zero _).symm).mono (fun r τ hq => ?_))
         have e1 := tn_n (x := s) (by omega)
         have e2 := tn_n (x := h) (by omega)
         rcases hq with ⟨q1, rfl, rfl⟩ | ⟨q1, rfl, rfl⟩
         · exact ⟨1, rfl, Or.inr rfl, Or.inl ⟨s, h, hs, hh, rfl, rfl, by omega, Or.inl ⟨q1, rfl, by rw [e1, e2]; rfl⟩⟩⟩
         · exact ⟨0, rfl, Or.inl rfl, Or.inl ⟨s, h, hs, hh, rfl, rfl, by omega, Or.inr ⟨q1, rfl, rfl⟩⟩⟩)
      · have h6 := (nc_ne _ _).mp h6
        try simp (disch := omega) only [hL, tn_n, bI_0, bI_1, Classical.not_not, ti_iv, ti_ivn, ti_n, ti_0, os_si, os_sj, va_up, upd, Nat.reduceEqDiff, reduceIte] at h6
        conv => whnf
        refine pm_gd (by decide) ?_
        refine hZ0 _ _ ?_
        exact ⟨0, rfl, Or.inl rfl, Or.inr ⟨by omega, rfl, rfl⟩⟩
theorem chF_sum {ch ch' : Nat → Int32} {n s h : Nat} (hn : n ≤ 10) (hh : h < 8) (e : ∀ j, j < 80 → ch j = ch' j) : sumF (chF ch s h) n = sumF (chF ch' s h) n := sumF_congr (fun j hj => by unfold chF; rw [e (j * 8 + h) (by omega)])
theorem p_chance (a1 a2 a3 : Int32) : Pair Inv 147 230 [.int a1, .int a2, .int a3] := by
  intro σ hI
  have hI0 := hI
  obtain ⟨⟨ns, np, nd, nl, nw, sun, r1, r2, r3, r4, r5, r6, r7⟩, ⟨t, rr⟩, ri⟩ := hI
  have s3 := r3.2.2.1
  refine (x_chance σ a1 a2 a3 ns s3 r3.1).use (by decide) (fun r τ h => ?_)
  obtain ⟨b, rfl, hb, h⟩ := h
  refine ⟨_, rfl, ?_⟩
  have e : ∀ j, j < 80 → σ.1 6 j = σ.1 113 j := fun j hj => (r3.2.2.2.2.2 j hj).1
  rcases h with ⟨s, hh, h1, h2, rfl, rfl, h3, h4⟩ | ⟨h1, rfl, rfl⟩
  · rw [chF_sum s3 h2 e] at h4
    rcases h4 with ⟨h4, rfl, rfl⟩ | ⟨h4, rfl, rfl⟩
    · refine (m_chance _ (nI s) (nI hh) a3 ns s3 (by exact r3.2.1)).use (by decide) (fun r' τ' h' => ?_)
      obtain ⟨b', rfl, hb', h'⟩ := h'
      rcases h' with ⟨s', hh', g1, g2, g5, g6, g3, g4⟩ | ⟨g1, rfl, rfl⟩
      · have e1 := (nI_eq (by omega) (by omega)).mp g5
        have e2 := (nI_eq (by omega) (by omega)).mp g6
        subst e1 e2
        rcases g4 with ⟨g4, rfl, rfl⟩ | ⟨g4, rfl, rfl⟩
        · refine ⟨rfl, ⟨⟨ns, np, nd, nl, nw, sun, ?_, ?_, ?_, ?_, ?_, ?_, ?_⟩, ⟨t, ?_⟩, ri_of ri ?_ ?_ ?_ (fun c k1 k2 => ?_)⟩⟩
          · simpa [va_up, upd] using r1
          · simpa [va_up, upd] using r2
          · obtain ⟨v, v1, rfl⟩ := nI_rng (a := a3) (n := 101) h3.1 (by omega) (by omega)
            obtain ⟨c1, c2, c3, c4, c5, c6⟩ := r3
            simp [va_up]
            refine ⟨c1, c2, c3, c4, c5, fun j hj => ?_⟩
            unfold upd
            rw [tn_n (by omega), tn_n (by omega)]
            by_cases hjs : j = s * 8 + hh
            · rw [if_pos hjs, if_pos hjs]; exact ⟨rfl, v, by omega, rfl⟩
            · rw [if_neg hjs, if_neg hjs]; exact c6 j hj
          · simpa [va_up, upd] using r4
          · simpa [va_up, upd] using r5
          · simpa [va_up, upd] using r6
          · simpa [va_up, upd] using r7
          · simpa [va_up, upd] using rr
          · simp [va_up, upd]
          · simp [va_up, upd]
          · simp [va_up, upd]
          · dsimp only; repeat rw [up_k k1 k2 (by decide)]
        · exact absurd h4 g4
      · rw [ti_n (by omega), ti_n (by omega)] at g1
        exfalso; omega
    · refine (m_chance _ (nI s) (nI hh) a3 ns s3 r3.2.1).use (by decide) (fun r' τ' h' => ?_)
      obtain ⟨b', rfl, hb', h'⟩ := h'
      rcases h' with ⟨s', hh', g1, g2, g5, g6, g3, g4⟩ | ⟨g1, rfl, rfl⟩
      · have e1 := (nI_eq (by omega) (by omega)).mp g5
        have e2 := (nI_eq (by omega) (by omega)).mp g6
        subst e1 e2
        rcases g4 with ⟨g4, rfl, rfl⟩ | ⟨g4, rfl, rfl⟩
        · exact absurd g4 h4
        · exact ⟨rfl, Inv_told hI0⟩
      · exact ⟨rfl, Inv_told hI0⟩
  · refine (m_chance _ a1 a2 a3 ns s3 r3.2.1).use (by decide) (fun r' τ' h' => ?_)
    obtain ⟨b', rfl, hb', h'⟩ := h'
    rcases h' with ⟨s', hh', g1, g2, rfl, rfl, g3, g4⟩ | ⟨g1, rfl, rfl⟩
    · rw [ti_n (by omega), ti_n (by omega)] at h1
      exfalso; omega
    · exact ⟨rfl, Inv_told hI0⟩
