/-! sums over rows -/
def sumF (f : Nat → Int32) : Nat → Int32
  | 0 => 0
  | n + 1 => sumF f n + f n
/-- what an open debt of p counts -/
def owF (ho dr co : Nat → Int32) (p : Int32) (d : Nat) : Int32 := if (ho d).toInt = 0 ∧ (dr d).toInt = p.toInt then co d else 0
def opF (ho : Nat → Int32) (d : Nat) : Int32 := if (ho d).toInt = 0 then 1 else 0
set_option maxRecDepth 20000 in
theorem x_sumBy_loop (σ : pm_S) (p : Int32) (n : Nat) (hn : n ≤ 30) (hL : σ.1 13 0 = nI n) : ∀ (m d : Nat) (s : Int32), n = d + m → s = sumF (owF (σ.1 20) (σ.1 14) (σ.1 16) p) d → Ok 6 2 4 [.ref 13, .int p, .int s, .int (nI d)] [] σ (fun r τ => r = some (.int (sumF (owF (σ.1 20) (σ.1 14) (σ.1 16) p) n)) ∧ τ = σ) := by
  intro m
  induction m with
  | zero =>
    intro d s hd hs
    refine O_Debts_sumOwedBy [4] 400 (fun R0 cl0 Z0 hR0 hcl0 hZ0 => ?_)
    conv => whnf
    refine ⟨fun h1 => ?_, fun h1 => ?_⟩
    · have h1 := (cc_ge _ _).mp h1
      try simp (disch := omega) only [hL, tn_n, ti_iv, ti_ivn, ti_n, ti_0, os_si, os_sj, va_up, upd, Nat.reduceEqDiff, reduceIte] at h1
      conv => whnf
      refine hZ0 _ _ ?_
      first
        | (exfalso; omega)
        | exact ⟨by rw [hs, show d = n by omega], rfl⟩
    · have h1 := (nc_ge _ _).mp h1
      try simp (disch := omega) only [hL, tn_n, ti_iv, ti_ivn, ti_n, ti_0, os_si, os_sj, va_up, upd, Nat.reduceEqDiff, reduceIte] at h1
      conv => whnf
      refine hcl0 _ _ _ _ ?_
      refine S_Debts_isOpen [] 400 rfl (fun R1 cl1 Z1 hR1 hcl1 hZ1 => ?_)
      conv => whnf
      refine ⟨fun h2 => ?_, fun h2 => ?_⟩
      · have h2 := (cc_lt _ _).mp h2
        try simp (disch := omega) only [hL, tn_n, ti_iv, ti_ivn, ti_n, ti_0, os_si, os_sj, va_up, upd, Nat.reduceEqDiff, reduceIte] at h2
        conv => whnf
        refine pm_gd (by decide) ?_
        refine hZ1 _ _ ?_
        conv => whnf
        refine pm_bt (cdt rfl) ?_
        conv => whnf
        first
          | (exfalso; omega)
          | (refine hR0 _ _ _ _ ?_
             have e1 : nI d + Int32.ofInt 1 = nI (d + 1) := nI_1 d
             show Ok 6 2 4 [.ref 13, .int p, .int _, .int (nI d + Int32.ofInt 1)] [] σ _
             rw [e1]
             refine ih (d + 1) _ (by omega) ?_
             simp (disch := omega) only [sumF, hs, owF, tn_n]
             first
               | (rw [if_pos ⟨by omega, by omega⟩]; done)
               | (rw [if_pos ⟨by omega, by omega⟩]; rfl)
               | (rw [if_neg (by omega)]; rfl)
               | (rw [if_neg (by omega)]; exact (Int32.add_zero _).symm))
      · have h2 := (nc_lt _ _).mp h2
        try simp (disch := omega) only [hL, tn_n, ti_iv, ti_ivn, ti_n, ti_0, os_si, os_sj, va_up, upd, Nat.reduceEqDiff, reduceIte] at h2
        conv => whnf
        refine ⟨fun h3 => ?_, fun h3 => ?_⟩
        · have h3 := (cc_ge _ _).mp h3
          try simp (disch := omega) only [hL, tn_n, ti_iv, ti_ivn, ti_n, ti_0, os_si, os_sj, va_up, upd, Nat.reduceEqDiff, reduceIte] at h3
          conv => whnf
          refine pm_gd (by decide) ?_
          refine hZ1 _ _ ?_
          conv => whnf
          refine pm_bt (cdt rfl) ?_
          conv => whnf
          first
            | (exfalso; omega)
            | (refine hR0 _ _ _ _ ?_
               have e1 : nI d + Int32.ofInt 1 = nI (d + 1) := nI_1 d
               show Ok 6 2 4 [.ref 13, .int p, .int _, .int (nI d + Int32.ofInt 1)] [] σ _
               rw [e1]
               refine ih (d + 1) _ (by omega) ?_
               simp (disch := omega) only [sumF, hs, owF, tn_n]
               first
                 | (rw [if_pos ⟨by omega, by omega⟩]; done)
                 | (rw [if_pos ⟨by omega, by omega⟩]; rfl)
                 | (rw [if_neg (by omega)]; rfl)
                 | (rw [if_neg (by omega)]; exact (Int32.add_zero _).symm))
        · have h3 := (nc_ge _ _).mp h3
          try simp (disch := omega) only [hL, tn_n, ti_iv, ti_ivn, ti_n, ti_0, os_si, os_sj, va_up, upd, Nat.reduceEqDiff, reduceIte] at h3
          conv => whnf
          refine pm_gd (gI (by first | omega | ((try simp (disch := omega) only [hL, tn_n, ti_iv, ti_ivn, ti_n, ti_0, os_si, os_sj, va_up, upd, Nat.reduceEqDiff, reduceIte]); omega)) (by first | omega | ((try simp (disch := omega) only [hL, tn_n, ti_iv, ti_ivn, ti_n, ti_0, os_si, os_sj, va_up, upd, Nat.reduceEqDiff, reduceIte]); omega))) ?_
          conv => whnf
          refine ⟨fun h4 => ?_, fun h4 => ?_⟩
          · have h4 := (cc_ne _ _).mp h4
            try simp (disch := omega) only [hL, tn_n, ti_iv, ti_ivn, ti_n, ti_0, os_si, os_sj, va_up, upd, Nat.reduceEqDiff, reduceIte] at h4
            conv => whnf
            refine pm_gd (by decide) ?_
            refine hZ1 _ _ ?_
            conv => whnf
            refine pm_bt (cdt rfl) ?_
            conv => whnf
            first
              | (exfalso; omega)
              | (refine hR0 _ _ _ _ ?_
                 have e1 : nI d + Int32.ofInt 1 = nI (d + 1) := nI_1 d
                 show Ok 6 2 4 [.ref 13, .int p, .int _, .int (nI d + Int32.ofInt 1)] [] σ _
                 rw [e1]
                 refine ih (d + 1) _ (by omega) ?_
                 simp (disch := omega) only [sumF, hs, owF, tn_n]
                 first
                   | (rw [if_pos ⟨by omega, by omega⟩]; done)
                   | (rw [if_pos ⟨by omega, by omega⟩]; rfl)
                   | (rw [if_neg (by omega)]; rfl)
                   | (rw [if_neg (by omega)]; exact (Int32.add_zero _).symm))
          · have h4 := (nc_ne _ _).mp h4
            try simp (disch := omega) only [hL, tn_n, ti_iv, ti_ivn, ti_n, ti_0, os_si, os_sj, va_up, upd, Nat.reduceEqDiff, reduceIte] at h4
            conv => whnf
            refine pm_gd (by decide) ?_
            refine hZ1 _ _ ?_
            conv => whnf
            refine pm_bf (cdf rfl) ?_
            conv => whnf
            refine pm_gd (gI (by first | omega | ((try simp (disch := omega) only [hL, tn_n, ti_iv, ti_ivn, ti_n, ti_0, os_si, os_sj, va_up, upd, Nat.reduceEqDiff, reduceIte]); omega)) (by first | omega | ((try simp (disch := omega) only [hL, tn_n, ti_iv, ti_ivn, ti_n, ti_0, os_si, os_sj, va_up, upd, Nat.reduceEqDiff, reduceIte]); omega))) ?_
            conv => whnf
            refine ⟨fun h5 => ?_, fun h5 => ?_⟩
            · have h5 := (cc_ne _ _).mp h5
              try simp (disch := omega) only [hL, tn_n, ti_iv, ti_ivn, ti_n, ti_0, os_si, os_sj, va_up, upd, Nat.reduceEqDiff, reduceIte] at h5
              conv => whnf
              first
                | (exfalso; omega)
                | (refine hR0 _ _ _ _ ?_
                   have e1 : nI d + Int32.ofInt 1 = nI (d + 1) := nI_1 d
                   show Ok 6 2 4 [.ref 13, .int p, .int _, .int (nI d + Int32.ofInt 1)] [] σ _
                   rw [e1]
                   refine ih (d + 1) _ (by omega) ?_
                   simp (disch := omega) only [sumF, hs, owF, tn_n]
                   first
                     | (rw [if_pos ⟨by omega, by omega⟩]; done)
                     | (rw [if_pos ⟨by omega, by omega⟩]; rfl)
                     | (rw [if_neg (by omega)]; rfl)
                     | (rw [if_neg (by omega)]; exact (Int32.add_zero _).symm))
            · have h5 := (nc_ne _ _).mp h5
              try simp (disch := omega) only [hL, tn_n, ti_iv, ti_ivn, ti_n, ti_0, os_si, os_sj, va_up, upd, Nat.reduceEqDiff, reduceIte] at h5
              conv => whnf
              refine pm_gd (gI (by first | omega | ((try simp (disch := omega) only [hL, tn_n, ti_iv, ti_ivn, ti_n, ti_0, os_si, os_sj, va_up, upd, Nat.reduceEqDiff, reduceIte]); omega)) (by first | omega | ((try simp (disch := omega) only [hL, tn_n, ti_iv, ti_ivn, ti_n, ti_0, os_si, os_sj, va_up, upd, Nat.reduceEqDiff, reduceIte]); omega))) ?_
              conv => whnf
              first
                | (exfalso; omega)
                | (refine hR0 _ _ _ _ ?_
                   have e1 : nI d + Int32.ofInt 1 = nI (d + 1) := nI_1 d
                   show Ok 6 2 4 [.ref 13, .int p, .int _, .int (nI d + Int32.ofInt 1)] [] σ _
                   rw [e1]
                   refine ih (d + 1) _ (by omega) ?_
                   simp (disch := omega) only [sumF, hs, owF, tn_n]
                   first
                     | (rw [if_pos ⟨by omega, by omega⟩]; done)
                     | (rw [if_pos ⟨by omega, by omega⟩]; rfl)
                     | (rw [if_neg (by omega)]; rfl)
                     | (rw [if_neg (by omega)]; exact (Int32.add_zero _).symm))
  | succ m ih =>
    intro d s hd hs
    refine O_Debts_sumOwedBy [4] 400 (fun R0 cl0 Z0 hR0 hcl0 hZ0 => ?_)
    conv => whnf
    refine ⟨fun h1 => ?_, fun h1 => ?_⟩
    · have h1 := (cc_ge _ _).mp h1
      try simp (disch := omega) only [hL, tn_n, ti_iv, ti_ivn, ti_n, ti_0, os_si, os_sj, va_up, upd, Nat.reduceEqDiff, reduceIte] at h1
      conv => whnf
      refine hZ0 _ _ ?_
      first
        | (exfalso; omega)
        | exact ⟨by rw [hs, show d = n by omega], rfl⟩
    · have h1 := (nc_ge _ _).mp h1
      try simp (disch := omega) only [hL, tn_n, ti_iv, ti_ivn, ti_n, ti_0, os_si, os_sj, va_up, upd, Nat.reduceEqDiff, reduceIte] at h1
      conv => whnf
      refine hcl0 _ _ _ _ ?_
      refine S_Debts_isOpen [] 400 rfl (fun R1 cl1 Z1 hR1 hcl1 hZ1 => ?_)
      conv => whnf
      refine ⟨fun h2 => ?_, fun h2 => ?_⟩
      · have h2 := (cc_lt _ _).mp h2
        try simp (disch := omega) only [hL, tn_n, ti_iv, ti_ivn, ti_n, ti_0, os_si, os_sj, va_up, upd, Nat.reduceEqDiff, reduceIte] at h2
        conv => whnf
        refine pm_gd (by decide) ?_
        refine hZ1 _ _ ?_
        conv => whnf
        refine pm_bt (cdt rfl) ?_
        conv => whnf
        first
          | (exfalso; omega)
          | (refine hR0 _ _ _ _ ?_
             have e1 : nI d + Int32.ofInt 1 = nI (d + 1) := nI_1 d
             show Ok 6 2 4 [.ref 13, .int p, .int _, .int (nI d + Int32.ofInt 1)] [] σ _
             rw [e1]
             refine ih (d + 1) _ (by omega) ?_
             simp (disch := omega) only [sumF, hs, owF, tn_n]
             first
               | (rw [if_pos ⟨by omega, by omega⟩]; done)
               | (rw [if_pos ⟨by omega, by omega⟩]; rfl)
               | (rw [if_neg (by omega)]; rfl)
               | (rw [if_neg (by omega)]; exact (Int32.add_zero _).symm))
      · have h2 := (nc_lt _ _).mp h2
        try simp (disch := omega) only [hL, tn_n, ti_iv, ti_ivn, ti_n, ti_0, os_si, os_sj, va_up, upd, Nat.reduceEqDiff, reduceIte] at h2
        conv => whnf
        refine ⟨fun h3 => ?_, fun h3 => ?_⟩
        · have h3 := (cc_ge _ _).mp h3
          try simp (disch := omega) only [hL, tn_n, ti_iv, ti_ivn, ti_n, ti_0, os_si, os_sj, va_up, upd, Nat.reduceEqDiff, reduceIte] at h3
          conv => whnf
          refine pm_gd (by decide) ?_
          refine hZ1 _ _ ?_
          conv => whnf
          refine pm_bt (cdt rfl) ?_
          conv => whnf
          first
            | (exfalso; omega)
            | (refine hR0 _ _ _ _ ?_
               have e1 : nI d + Int32.ofInt 1 = nI (d + 1) := nI_1 d
               show Ok 6 2 4 [.ref 13, .int p, .int _, .int (nI d + Int32.ofInt 1)] [] σ _
               rw [e1]
               refine ih (d + 1) _ (by omega) ?_
               simp (disch := omega) only [sumF, hs, owF, tn_n]
               first
                 | (rw [if_pos ⟨by omega, by omega⟩]; done)
                 | (rw [if_pos ⟨by omega, by omega⟩]; rfl)
                 | (rw [if_neg (by omega)]; rfl)
                 | (rw [if_neg (by omega)]; exact (Int32.add_zero _).symm))
        · have h3 := (nc_ge _ _).mp h3
          try simp (disch := omega) only [hL, tn_n, ti_iv, ti_ivn, ti_n, ti_0, os_si, os_sj, va_up, upd, Nat.reduceEqDiff, reduceIte] at h3
          conv => whnf
          refine pm_gd (gI (by first | omega | ((try simp (disch := omega) only [hL, tn_n, ti_iv, ti_ivn, ti_n, ti_0, os_si, os_sj, va_up, upd, Nat.reduceEqDiff, reduceIte]); omega)) (by first | omega | ((try simp (disch := omega) only [hL, tn_n, ti_iv, ti_ivn, ti_n, ti_0, os_si, os_sj, va_up, upd, Nat.reduceEqDiff, reduceIte]); omega))) ?_
          conv => whnf
          refine ⟨fun h4 => ?_, fun h4 => ?_⟩
          · have h4 := (cc_ne _ _).mp h4
            try simp (disch := omega) only [hL, tn_n, ti_iv, ti_ivn, ti_n, ti_0, os_si, os_sj, va_up, upd, Nat.reduceEqDiff, reduceIte] at h4
            conv => whnf
            refine pm_gd (by decide) ?_
            refine hZ1 _ _ ?_
            conv => whnf
            refine pm_bt (cdt rfl) ?_
            conv => whnf
            first
              | (exfalso; omega)
              | (refine hR0 _ _ _ _ ?_
                 have e1 : nI d + Int32.ofInt 1 = nI (d + 1) := nI_1 d
                 show Ok 6 2 4 [.ref 13, .int p, .int _, .int (nI d + Int32.ofInt 1)] [] σ _
                 rw [e1]
                 refine ih (d + 1) _ (by omega) ?_
                 simp (disch := omega) only [sumF, hs, owF, tn_n]
                 first
                   | (rw [if_pos ⟨by omega, by omega⟩]; done)
                   | (rw [if_pos ⟨by omega, by omega⟩]; rfl)
                   | (rw [if_neg (by omega)]; rfl)
                   | (rw [if_neg (by omega)]; exact (Int32.add_zero _).symm))
          · have h4 := (nc_ne _ _).mp h4
            try simp (disch := omega) only [hL, tn_n, ti_iv, ti_ivn, ti_n, ti_0, os_si, os_sj, va_up, upd, Nat.reduceEqDiff, reduceIte] at h4
            conv => whnf
            refine pm_gd (by decide) ?_
            refine hZ1 _ _ ?_
            conv => whnf
            refine pm_bf (cdf rfl) ?_
            conv => whnf
            refine pm_gd (gI (by first | omega | ((try simp (disch := omega) only [hL, tn_n, ti_iv, ti_ivn, ti_n, ti_0, os_si, os_sj, va_up, upd, Nat.reduceEqDiff, reduceIte]); omega)) (by first | omega | ((try simp (disch := omega) only [hL, tn_n, ti_iv, ti_ivn, ti_n, ti_0, os_si, os_sj, va_up, upd, Nat.reduceEqDiff, reduceIte]); omega))) ?_
            conv => whnf
            refine ⟨fun h5 => ?_, fun h5 => ?_⟩
            · have h5 := (cc_ne _ _).mp h5
              try simp (disch := omega) only [hL, tn_n, ti_iv, ti_ivn, ti_n, ti_0, os_si, os_sj, va_up, upd, Nat.reduceEqDiff, reduceIte] at h5
              conv => whnf
              first
                | (exfalso; omega)
                | (refine hR0 _ _ _ _ ?_
                   have e1 : nI d + Int32.ofInt 1 = nI (d + 1) := nI_1 d
                   show Ok 6 2 4 [.ref 13, .int p, .int _, .int (nI d + Int32.ofInt 1)] [] σ _
                   rw [e1]
                   refine ih (d + 1) _ (by omega) ?_
                   simp (disch := omega) only [sumF, hs, owF, tn_n]
                   first
                     | (rw [if_pos ⟨by omega, by omega⟩]; done)
                     | (rw [if_pos ⟨by omega, by omega⟩]; rfl)
                     | (rw [if_neg (by omega)]; rfl)
                     | (rw [if_neg (by omega)]; exact (Int32.add_zero _).symm))
            · have h5 := (nc_ne _ _).mp h5
              try simp (disch := omega) only [hL, tn_n, ti_iv, ti_ivn, ti_n, ti_0, os_si, os_sj, va_up, upd, Nat.reduceEqDiff, reduceIte] at h5
              conv => whnf
              refine pm_gd (gI (by first | omega | ((try simp (disch := omega) only [hL, tn_n, ti_iv, ti_ivn, ti_n, ti_0, os_si, os_sj, va_up, upd, Nat.reduceEqDiff, reduceIte]); omega)) (by first | omega | ((try simp (disch := omega) only [hL, tn_n, ti_iv, ti_ivn, ti_n, ti_0, os_si, os_sj, va_up, upd, Nat.reduceEqDiff, reduceIte]); omega))) ?_
              conv => whnf
              first
                | (exfalso; omega)
                | (refine hR0 _ _ _ _ ?_
                   have e1 : nI d + Int32.ofInt 1 = nI (d + 1) := nI_1 d
                   show Ok 6 2 4 [.ref 13, .int p, .int _, .int (nI d + Int32.ofInt 1)] [] σ _
                   rw [e1]
                   refine ih (d + 1) _ (by omega) ?_
                   simp (disch := omega) only [sumF, hs, owF, tn_n]
                   first
                     | (rw [if_pos ⟨by omega, by omega⟩]; done)
                     | (rw [if_pos ⟨by omega, by omega⟩]; rfl)
                     | (rw [if_neg (by omega)]; rfl)
                     | (rw [if_neg (by omega)]; exact (Int32.add_zero _).symm))
set_option maxRecDepth 20000 in
theorem x_sumTo_loop (σ : pm_S) (p : Int32) (n : Nat) (hn : n ≤ 30) (hL : σ.1 13 0 = nI n) : ∀ (m d : Nat) (s : Int32), n = d + m → s = sumF (owF (σ.1 20) (σ.1 15) (σ.1 16) p) d → Ok 7 2 4 [.ref 13, .int p, .int s, .int (nI d)] [] σ (fun r τ => r = some (.int (sumF (owF (σ.1 20) (σ.1 15) (σ.1 16) p) n)) ∧ τ = σ) := by
  intro m
  induction m with
  | zero =>
    intro d s hd hs
    refine O_Debts_sumOwedTo [4] 400 (fun R0 cl0 Z0 hR0 hcl0 hZ0 => ?_)
    conv => whnf
    refine ⟨fun h1 => ?_, fun h1 => ?_⟩
    · have h1 := (cc_ge _ _).mp h1
      try simp (disch := omega) only [hL, tn_n, ti_iv, ti_ivn, ti_n, ti_0, os_si, os_sj, va_up, upd, Nat.reduceEqDiff, reduceIte] at h1
      conv => whnf
      refine hZ0 _ _ ?_
      first
        | (exfalso; omega)
        | exact ⟨by rw [hs, show d = n by omega], rfl⟩
    · have h1 := (nc_ge _ _).mp h1
      try simp (disch := omega) only [hL, tn_n, ti_iv, ti_ivn, ti_n, ti_0, os_si, os_sj, va_up, upd, Nat.reduceEqDiff, reduceIte] at h1
      conv => whnf
      refine hcl0 _ _ _ _ ?_
      refine S_Debts_isOpen [] 400 rfl (fun R1 cl1 Z1 hR1 hcl1 hZ1 => ?_)
      conv => whnf
      refine ⟨fun h2 => ?_, fun h2 => ?_⟩
      · have h2 := (cc_lt _ _).mp h2
        try simp (disch := omega) only [hL, tn_n, ti_iv, ti_ivn, ti_n, ti_0, os_si, os_sj, va_up, upd, Nat.reduceEqDiff, reduceIte] at h2
        conv => whnf
        refine pm_gd (by decide) ?_
        refine hZ1 _ _ ?_
        conv => whnf
        refine pm_bt (cdt rfl) ?_
        conv => whnf
        first
          | (exfalso; omega)
          | (refine hR0 _ _ _ _ ?_
             have e1 : nI d + Int32.ofInt 1 = nI (d + 1) := nI_1 d
             show Ok 7 2 4 [.ref 13, .int p, .int _, .int (nI d + Int32.ofInt 1)] [] σ _
             rw [e1]
             refine ih (d + 1) _ (by omega) ?_
             simp (disch := omega) only [sumF, hs, owF, tn_n]
             first
               | (rw [if_pos ⟨by omega, by omega⟩]; done)
               | (rw [if_pos ⟨by omega, by omega⟩]; rfl)
               | (rw [if_neg (by omega)]; rfl)
               | (rw [if_neg (by omega)]; exact (Int32.add_zero _).symm))
      · have h2 := (nc_lt _ _).mp h2
        try simp (disch := omega) only [hL, tn_n, ti_iv, ti_ivn, ti_n, ti_0, os_si, os_sj, va_up, upd, Nat.reduceEqDiff, reduceIte] at h2
        conv => whnf
        refine ⟨fun h3 => ?_, fun h3 => ?_⟩
        · have h3 := (cc_ge _ _).mp h3
          try simp (disch := omega) only [hL, tn_n, ti_iv, ti_ivn, ti_n, ti_0, os_si, os_sj, va_up, upd, Nat.reduceEqDiff, reduceIte] at h3
          conv => whnf
          refine pm_gd (by decide) ?_
          refine hZ1 _ _ ?_
          conv => whnf
          refine pm_bt (cdt rfl) ?_
          conv => whnf
          first
            | (exfalso; omega)
            | (refine hR0 _ _ _ _ ?_
               have e1 : nI d + Int32.ofInt 1 = nI (d + 1) := nI_1 d
               show Ok 7 2 4 [.ref 13, .int p, .int _, .int (nI d + Int32.ofInt 1)] [] σ _
               rw [e1]
               refine ih (d + 1) _ (by omega) ?_
               simp (disch := omega) only [sumF, hs, owF, tn_n]
               first
                 | (rw [if_pos ⟨by omega, by omega⟩]; done)
                 | (rw [if_pos ⟨by omega, by omega⟩]; rfl)
                 | (rw [if_neg (by omega)]; rfl)
                 | (rw [if_neg (by omega)]; exact (Int32.add_zero _).symm))
        · have h3 := (nc_ge _ _).mp h3
          try simp (disch := omega) only [hL, tn_n, ti_iv, ti_ivn, ti_n, ti_0, os_si, os_sj, va_up, upd, Nat.reduceEqDiff, reduceIte] at h3
          conv => whnf
          refine pm_gd (gI (by first | omega | ((try simp (disch := omega) only [hL, tn_n, ti_iv, ti_ivn, ti_n, ti_0, os_si, os_sj, va_up, upd, Nat.reduceEqDiff, reduceIte]); omega)) (by first | omega | ((try simp (disch := omega) only [hL, tn_n, ti_iv, ti_ivn, ti_n, ti_0, os_si, os_sj, va_up, upd, Nat.reduceEqDiff, reduceIte]); omega))) ?_
          conv => whnf
          refine ⟨fun h4 => ?_, fun h4 => ?_⟩
          · have h4 := (cc_ne _ _).mp h4
            try simp (disch := omega) only [hL, tn_n, ti_iv, ti_ivn, ti_n, ti_0, os_si, os_sj, va_up, upd, Nat.reduceEqDiff, reduceIte] at h4
            conv => whnf
            refine pm_gd (by decide) ?_
            refine hZ1 _ _ ?_
            conv => whnf
            refine pm_bt (cdt rfl) ?_
            conv => whnf
            first
              | (exfalso; omega)
              | (refine hR0 _ _ _ _ ?_
                 have e1 : nI d + Int32.ofInt 1 = nI (d + 1) := nI_1 d
                 show Ok 7 2 4 [.ref 13, .int p, .int _, .int (nI d + Int32.ofInt 1)] [] σ _
                 rw [e1]
                 refine ih (d + 1) _ (by omega) ?_
                 simp (disch := omega) only [sumF, hs, owF, tn_n]
                 first
                   | (rw [if_pos ⟨by omega, by omega⟩]; done)
                   | (rw [if_pos ⟨by omega, by omega⟩]; rfl)
                   | (rw [if_neg (by omega)]; rfl)
                   | (rw [if_neg (by omega)]; exact (Int32.add_zero _).symm))
          · have h4 := (nc_ne _ _).mp h4
            try simp (disch := omega) only [hL, tn_n, ti_iv, ti_ivn, ti_n, ti_0, os_si, os_sj, va_up, upd, Nat.reduceEqDiff, reduceIte] at h4
            conv => whnf
            refine pm_gd (by decide) ?_
            refine hZ1 _ _ ?_
            conv => whnf
            refine pm_bf (cdf rfl) ?_
            conv => whnf
            refine pm_gd (gI (by first | omega | ((try simp (disch := omega) only [hL, tn_n, ti_iv, ti_ivn, ti_n, ti_0, os_si, os_sj, va_up, upd, Nat.reduceEqDiff, reduceIte]); omega)) (by first | omega | ((try simp (disch := omega) only [hL, tn_n, ti_iv, ti_ivn, ti_n, ti_0, os_si, os_sj, va_up, upd, Nat.reduceEqDiff, reduceIte]); omega))) ?_
            conv => whnf
            refine ⟨fun h5 => ?_, fun h5 => ?_⟩
            · have h5 := (cc_ne _ _).mp h5
              try simp (disch := omega) only [hL, tn_n, ti_iv, ti_ivn, ti_n, ti_0, os_si, os_sj, va_up, upd, Nat.reduceEqDiff, reduceIte] at h5
              conv => whnf
              first
                | (exfalso; omega)
                | (refine hR0 _ _ _ _ ?_
                   have e1 : nI d + Int32.ofInt 1 = nI (d + 1) := nI_1 d
                   show Ok 7 2 4 [.ref 13, .int p, .int _, .int (nI d + Int32.ofInt 1)] [] σ _
                   rw [e1]
                   refine ih (d + 1) _ (by omega) ?_
                   simp (disch := omega) only [sumF, hs, owF, tn_n]
                   first
                     | (rw [if_pos ⟨by omega, by omega⟩]; done)
                     | (rw [if_pos ⟨by omega, by omega⟩]; rfl)
                     | (rw [if_neg (by omega)]; rfl)
                     | (rw [if_neg (by omega)]; exact (Int32.add_zero _).symm))
            · have h5 := (nc_ne _ _).mp h5
              try simp (disch := omega) only [hL, tn_n, ti_iv, ti_ivn, ti_n, ti_0, os_si, os_sj, va_up, upd, Nat.reduceEqDiff, reduceIte] at h5
              conv => whnf
              refine pm_gd (gI (by first | omega | ((try simp (disch := omega) only [hL, tn_n, ti_iv, ti_ivn, ti_n, ti_0, os_si, os_sj, va_up, upd, Nat.reduceEqDiff, reduceIte]); omega)) (by first | omega | ((try simp (disch := omega) only [hL, tn_n, ti_iv, ti_ivn, ti_n, ti_0, os_si, os_sj, va_up, upd, Nat.reduceEqDiff, reduceIte]); omega))) ?_
              conv => whnf
              first
                | (exfalso; omega)
                | (refine hR0 _ _ _ _ ?_
                   have e1 : nI d + Int32.ofInt 1 = nI (d + 1) := nI_1 d
                   show Ok 7 2 4 [.ref 13, .int p, .int _, .int (nI d + Int32.ofInt 1)] [] σ _
                   rw [e1]
                   refine ih (d + 1) _ (by omega) ?_
                   simp (disch := omega) only [sumF, hs, owF, tn_n]
                   first
                     | (rw [if_pos ⟨by omega, by omega⟩]; done)
                     | (rw [if_pos ⟨by omega, by omega⟩]; rfl)
                     | (rw [if_neg (by omega)]; rfl)
                     | (rw [if_neg (by omega)]; exact (Int32.add_zero _).symm))
  | succ m ih =>
    intro d s hd hs
    refine O_Debts_sumOwedTo [4] 400 (fun R0 cl0 Z0 hR0 hcl0 hZ0 => ?_)
    conv => whnf
    refine ⟨fun h1 => ?_, fun h1 => ?_⟩
    · have h1 := (cc_ge _ _).mp h1
      try simp (disch := omega) only [hL, tn_n, ti_iv, ti_ivn, ti_n, ti_0, os_si, os_sj, va_up, upd, Nat.reduceEqDiff, reduceIte] at h1
      conv => whnf
      refine hZ0 _ _ ?_
      first
        | (exfalso; omega)
        | exact ⟨by rw [hs, show d = n by omega], rfl⟩
    · have h1 := (nc_ge _ _).mp h1
      try simp (disch := omega) only [hL, tn_n, ti_iv, ti_ivn, ti_n, ti_0, os_si, os_sj, va_up, upd, Nat.reduceEqDiff, reduceIte] at h1
      conv => whnf
      refine hcl0 _ _ _ _ ?_
      refine S_Debts_isOpen [] 400 rfl (fun R1 cl1 Z1 hR1 hcl1 hZ1 => ?_)
      conv => whnf
      refine ⟨fun h2 => ?_, fun h2 => ?_⟩
      · have h2 := (cc_lt _ _).mp h2
        try simp (disch := omega) only [hL, tn_n, ti_iv, ti_ivn, ti_n, ti_0, os_si, os_sj, va_up, upd, Nat.reduceEqDiff, reduceIte] at h2
        conv => whnf
        refine pm_gd (by decide) ?_
        refine hZ1 _ _ ?_
        conv => whnf
        refine pm_bt (cdt rfl) ?_
        conv => whnf
        first
          | (exfalso; omega)
          | (refine hR0 _ _ _ _ ?_
             have e1 : nI d + Int32.ofInt 1 = nI (d + 1) := nI_1 d
             show Ok 7 2 4 [.ref 13, .int p, .int _, .int (nI d + Int32.ofInt 1)] [] σ _
             rw [e1]
             refine ih (d + 1) _ (by omega) ?_
             simp (disch := omega) only [sumF, hs, owF, tn_n]
             first
               | (rw [if_pos ⟨by omega, by omega⟩]; done)
               | (rw [if_pos ⟨by omega, by omega⟩]; rfl)
               | (rw [if_neg (by omega)]; rfl)
               | (rw [if_neg (by omega)]; exact (Int32.add_zero _).symm))
      · have h2 := (nc_lt _ _).mp h2
        try simp (disch := omega) only [hL, tn_n, ti_iv, ti_ivn, ti_n, ti_0, os_si, os_sj, va_up, upd, Nat.reduceEqDiff, reduceIte] at h2
        conv => whnf
        refine ⟨fun h3 => ?_, fun h3 => ?_⟩
        · have h3 := (cc_ge _ _).mp h3
          try simp (disch := omega) only [hL, tn_n, ti_iv, ti_ivn, ti_n, ti_0, os_si, os_sj, va_up, upd, Nat.reduceEqDiff, reduceIte] at h3
          conv => whnf
          refine pm_gd (by decide) ?_
          refine hZ1 _ _ ?_
          conv => whnf
          refine pm_bt (cdt rfl) ?_
          conv => whnf
          first
            | (exfalso; omega)
            | (refine hR0 _ _ _ _ ?_
               have e1 : nI d + Int32.ofInt 1 = nI (d + 1) := nI_1 d
               show Ok 7 2 4 [.ref 13, .int p, .int _, .int (nI d + Int32.ofInt 1)] [] σ _
               rw [e1]
               refine ih (d + 1) _ (by omega) ?_
               simp (disch := omega) only [sumF, hs, owF, tn_n]
               first
                 | (rw [if_pos ⟨by omega, by omega⟩]; done)
                 | (rw [if_pos ⟨by omega, by omega⟩]; rfl)
                 | (rw [if_neg (by omega)]; rfl)
                 | (rw [if_neg (by omega)]; exact (Int32.add_zero _).symm))
        · have h3 := (nc_ge _ _).mp h3
          try simp (disch := omega) only [hL, tn_n, ti_iv, ti_ivn, ti_n, ti_0, os_si, os_sj, va_up, upd, Nat.reduceEqDiff, reduceIte] at h3
          conv => whnf
          refine pm_gd (gI (by first | omega | ((try simp (disch := omega) only [hL, tn_n, ti_iv, ti_ivn, ti_n, ti_0, os_si, os_sj, va_up, upd, Nat.reduceEqDiff, reduceIte]); omega)) (by first | omega | ((try simp (disch := omega) only [hL, tn_n, ti_iv, ti_ivn, ti_n, ti_0, os_si, os_sj, va_up, upd, Nat.reduceEqDiff, reduceIte]); omega))) ?_
          conv => whnf
          refine ⟨fun h4 => ?_, fun h4 => ?_⟩
          · have h4 := (cc_ne _ _).mp h4
            try simp (disch := omega) only [hL, tn_n, ti_iv, ti_ivn, ti_n, ti_0, os_si, os_sj, va_up, upd, Nat.reduceEqDiff, reduceIte] at h4
            conv => whnf
            refine pm_gd (by decide) ?_
            refine hZ1 _ _ ?_
            conv => whnf
            refine pm_bt (cdt rfl) ?_
            conv => whnf
            first
              | (exfalso; omega)
              | (refine hR0 _ _ _ _ ?_
                 have e1 : nI d + Int32.ofInt 1 = nI (d + 1) := nI_1 d
                 show Ok 7 2 4 [.ref 13, .int p, .int _, .int (nI d + Int32.ofInt 1)] [] σ _
                 rw [e1]
                 refine ih (d + 1) _ (by omega) ?_
                 simp (disch := omega) only [sumF, hs, owF, tn_n]
                 first
                   | (rw [if_pos ⟨by omega, by omega⟩]; done)
                   | (rw [if_pos ⟨by omega, by omega⟩]; rfl)
                   | (rw [if_neg (by omega)]; rfl)
                   | (rw [if_neg (by omega)]; exact (Int32.add_zero _).symm))
          · have h4 := (nc_ne _ _).mp h4
            try simp (disch := omega) only [hL, tn_n, ti_iv, ti_ivn, ti_n, ti_0, os_si, os_sj, va_up, upd, Nat.reduceEqDiff, reduceIte] at h4
            conv => whnf
            refine pm_gd (by decide) ?_
            refine hZ1 _ _ ?_
            conv => whnf
            refine pm_bf (cdf rfl) ?_
            conv => whnf
            refine pm_gd (gI (by first | omega | ((try simp (disch := omega) only [hL, tn_n, ti_iv, ti_ivn, ti_n, ti_0, os_si, os_sj, va_up, upd, Nat.reduceEqDiff, reduceIte]); omega)) (by first | omega | ((try simp (disch := omega) only [hL, tn_n, ti_iv, ti_ivn, ti_n, ti_0, os_si, os_sj, va_up, upd, Nat.reduceEqDiff, reduceIte]); omega))) ?_
            conv => whnf
            refine ⟨fun h5 => ?_, fun h5 => ?_⟩
            · have h5 := (cc_ne _ _).mp h5
              try simp (disch := omega) only [hL, tn_n, ti_iv, ti_ivn, ti_n, ti_0, os_si, os_sj, va_up, upd, Nat.reduceEqDiff, reduceIte] at h5
              conv => whnf
              first
                | (exfalso; omega)
                | (refine hR0 _ _ _ _ ?_
                   have e1 : nI d + Int32.ofInt 1 = nI (d + 1) := nI_1 d
                   show Ok 7 2 4 [.ref 13, .int p, .int _, .int (nI d + Int32.ofInt 1)] [] σ _
                   rw [e1]
                   refine ih (d + 1) _ (by omega) ?_
                   simp (disch := omega) only [sumF, hs, owF, tn_n]
                   first
                     | (rw [if_pos ⟨by omega, by omega⟩]; done)
                     | (rw [if_pos ⟨by omega, by omega⟩]; rfl)
                     | (rw [if_neg (by omega)]; rfl)
                     | (rw [if_neg (by omega)]; exact (Int32.add_zero _).symm))
            · have h5 := (nc_ne _ _).mp h5
              try simp (disch := omega) only [hL, tn_n, ti_iv, ti_ivn, ti_n, ti_0, os_si, os_sj, va_up, upd, Nat.reduceEqDiff, reduceIte] at h5
              conv => whnf
              refine pm_gd (gI (by first | omega | ((try simp (disch := omega) only [hL, tn_n, ti_iv, ti_ivn, ti_n, ti_0, os_si, os_sj, va_up, upd, Nat.reduceEqDiff, reduceIte]); omega)) (by first | omega | ((try simp (disch := omega) only [hL, tn_n, ti_iv, ti_ivn, ti_n, ti_0, os_si, os_sj, va_up, upd, Nat.reduceEqDiff, reduceIte]); omega))) ?_
              conv => whnf
              first
                | (exfalso; omega)
                | (refine hR0 _ _ _ _ ?_
                   have e1 : nI d + Int32.ofInt 1 = nI (d + 1) := nI_1 d
                   show Ok 7 2 4 [.ref 13, .int p, .int _, .int (nI d + Int32.ofInt 1)] [] σ _
                   rw [e1]
                   refine ih (d + 1) _ (by omega) ?_
                   simp (disch := omega) only [sumF, hs, owF, tn_n]
                   first
                     | (rw [if_pos ⟨by omega, by omega⟩]; done)
                     | (rw [if_pos ⟨by omega, by omega⟩]; rfl)
                     | (rw [if_neg (by omega)]; rfl)
                     | (rw [if_neg (by omega)]; exact (Int32.add_zero _).symm))
set_option maxRecDepth 20000 in
theorem x_cnt_loop (σ : pm_S) (n : Nat) (hn : n ≤ 30) (hL : σ.1 13 0 = nI n) : ∀ (m d : Nat) (s : Int32), n = d + m → s = sumF (opF (σ.1 20)) d → Ok 5 2 4 [.ref 13, .int s, .int (nI d)] [] σ (fun r τ => r = some (.int (sumF (opF (σ.1 20)) n)) ∧ τ = σ) := by
  intro m
  induction m with
  | zero =>
    intro d s hd hs
    refine O_Debts_countOpen [4] 400 (fun R0 cl0 Z0 hR0 hcl0 hZ0 => ?_)
    conv => whnf
    refine ⟨fun h1 => ?_, fun h1 => ?_⟩
    · have h1 := (cc_ge _ _).mp h1
      try simp (disch := omega) only [hL, tn_n, ti_iv, ti_ivn, ti_n, ti_0, os_si, os_sj, va_up, upd, Nat.reduceEqDiff, reduceIte] at h1
      conv => whnf
      refine hZ0 _ _ ?_
      first
        | (exfalso; omega)
        | exact ⟨by rw [hs, show d = n by omega], rfl⟩
    · have h1 := (nc_ge _ _).mp h1
      try simp (disch := omega) only [hL, tn_n, ti_iv, ti_ivn, ti_n, ti_0, os_si, os_sj, va_up, upd, Nat.reduceEqDiff, reduceIte] at h1
      conv => whnf
      refine hcl0 _ _ _ _ ?_
      refine S_Debts_isOpen [] 400 rfl (fun R1 cl1 Z1 hR1 hcl1 hZ1 => ?_)
      conv => whnf
      refine ⟨fun h2 => ?_, fun h2 => ?_⟩
      · have h2 := (cc_lt _ _).mp h2
        try simp (disch := omega) only [hL, tn_n, ti_iv, ti_ivn, ti_n, ti_0, os_si, os_sj, va_up, upd, Nat.reduceEqDiff, reduceIte] at h2
        conv => whnf
        refine pm_gd (by decide) ?_
        refine hZ1 _ _ ?_
        conv => whnf
        refine pm_bt (cdt rfl) ?_
        conv => whnf
        first
          | (exfalso; omega)
          | (refine hR0 _ _ _ _ ?_
             have e1 : nI d + Int32.ofInt 1 = nI (d + 1) := nI_1 d
             show Ok 5 2 4 [.ref 13, .int _, .int (nI d + Int32.ofInt 1)] [] σ _
             rw [e1]
             refine ih (d + 1) _ (by omega) ?_
             simp (disch := omega) only [sumF, hs, opF, tn_n]
             first
               | (rw [if_pos (by omega)]; done)
               | (rw [if_pos (by omega)]; rfl)
               | (rw [if_neg (by omega)]; rfl)
               | (rw [if_neg (by omega)]; exact (Int32.add_zero _).symm))
      · have h2 := (nc_lt _ _).mp h2
        try simp (disch := omega) only [hL, tn_n, ti_iv, ti_ivn, ti_n, ti_0, os_si, os_sj, va_up, upd, Nat.reduceEqDiff, reduceIte] at h2
        conv => whnf
        refine ⟨fun h3 => ?_, fun h3 => ?_⟩
        · have h3 := (cc_ge _ _).mp h3
          try simp (disch := omega) only [hL, tn_n, ti_iv, ti_ivn, ti_n, ti_0, os_si, os_sj, va_up, upd, Nat.reduceEqDiff, reduceIte] at h3
          conv => whnf
          refine pm_gd (by decide) ?_
          refine hZ1 _ _ ?_
          conv => whnf
          refine pm_bt (cdt rfl) ?_
          conv => whnf
          first
            | (exfalso; omega)
            | (refine hR0 _ _ _ _ ?_
               have e1 : nI d + Int32.ofInt 1 = nI (d + 1) := nI_1 d
               show Ok 5 2 4 [.ref 13, .int _, .int (nI d + Int32.ofInt 1)] [] σ _
               rw [e1]
               refine ih (d + 1) _ (by omega) ?_
               simp (disch := omega) only [sumF, hs, opF, tn_n]
               first
                 | (rw [if_pos (by omega)]; done)
                 | (rw [if_pos (by omega)]; rfl)
                 | (rw [if_neg (by omega)]; rfl)
                 | (rw [if_neg (by omega)]; exact (Int32.add_zero _).symm))
        · have h3 := (nc_ge _ _).mp h3
          try simp (disch := omega) only [hL, tn_n, ti_iv, ti_ivn, ti_n, ti_0, os_si, os_sj, va_up, upd, Nat.reduceEqDiff, reduceIte] at h3
          conv => whnf
          refine pm_gd (gI (by first | omega | ((try simp (disch := omega) only [hL, tn_n, ti_iv, ti_ivn, ti_n, ti_0, os_si, os_sj, va_up, upd, Nat.reduceEqDiff, reduceIte]); omega)) (by first | omega | ((try simp (disch := omega) only [hL, tn_n, ti_iv, ti_ivn, ti_n, ti_0, os_si, os_sj, va_up, upd, Nat.reduceEqDiff, reduceIte]); omega))) ?_
          conv => whnf
          refine ⟨fun h4 => ?_, fun h4 => ?_⟩
          · have h4 := (cc_ne _ _).mp h4
            try simp (disch := omega) only [hL, tn_n, ti_iv, ti_ivn, ti_n, ti_0, os_si, os_sj, va_up, upd, Nat.reduceEqDiff, reduceIte] at h4
            conv => whnf
            refine pm_gd (by decide) ?_
            refine hZ1 _ _ ?_
            conv => whnf
            refine pm_bt (cdt rfl) ?_
            conv => whnf
            first
              | (exfalso; omega)
              | (refine hR0 _ _ _ _ ?_
                 have e1 : nI d + Int32.ofInt 1 = nI (d + 1) := nI_1 d
                 show Ok 5 2 4 [.ref 13, .int _, .int (nI d + Int32.ofInt 1)] [] σ _
                 rw [e1]
                 refine ih (d + 1) _ (by omega) ?_
                 simp (disch := omega) only [sumF, hs, opF, tn_n]
                 first
                   | (rw [if_pos (by omega)]; done)
                   | (rw [if_pos (by omega)]; rfl)
                   | (rw [if_neg (by omega)]; rfl)
                   | (rw [if_neg (by omega)]; exact (Int32.add_zero _).symm))
          · have h4 := (nc_ne _ _).mp h4
            try simp (disch := omega) only [hL, tn_n, ti_iv, ti_ivn, ti_n, ti_0, os_si, os_sj, va_up, upd, Nat.reduceEqDiff, reduceIte] at h4
            conv => whnf
            refine pm_gd (by decide) ?_
            refine hZ1 _ _ ?_
            conv => whnf
            refine pm_bf (cdf rfl) ?_
            conv => whnf
            first
              | (exfalso; omega)
              | (refine hR0 _ _ _ _ ?_
                 have e1 : nI d + Int32.ofInt 1 = nI (d + 1) := nI_1 d
                 show Ok 5 2 4 [.ref 13, .int _, .int (nI d + Int32.ofInt 1)] [] σ _
                 rw [e1]
                 refine ih (d + 1) _ (by omega) ?_
                 simp (disch := omega) only [sumF, hs, opF, tn_n]
                 first
                   | (rw [if_pos (by omega)]; done)
                   | (rw [if_pos (by omega)]; rfl)
                   | (rw [if_neg (by omega)]; rfl)
                   | (rw [if_neg (by omega)]; exact (Int32.add_zero _).symm))
  | succ m ih =>
    intro d s hd hs
    refine O_Debts_countOpen [4] 400 (fun R0 cl0 Z0 hR0 hcl0 hZ0 => ?_)
    conv => whnf
    refine ⟨fun h1 => ?_, fun h1 => ?_⟩
    · have h1 := (cc_ge _ _).mp h1
      try simp (disch := omega) only [hL, tn_n, ti_iv, ti_ivn, ti_n, ti_0, os_si, os_sj, va_up, upd, Nat.reduceEqDiff, reduceIte] at h1
      conv => whnf
      refine hZ0 _ _ ?_
      first
        | (exfalso; omega)
        | exact ⟨by rw [hs, show d = n by omega], rfl⟩
    · have h1 := (nc_ge _ _).mp h1
      try simp (disch := omega) only [hL, tn_n, ti_iv, ti_ivn, ti_n, ti_0, os_si, os_sj, va_up, upd, Nat.reduceEqDiff, reduceIte] at h1
      conv => whnf
      refine hcl0 _ _ _ _ ?_
      refine S_Debts_isOpen [] 400 rfl (fun R1 cl1 Z1 hR1 hcl1 hZ1 => ?_)
      conv => whnf
      refine ⟨fun h2 => ?_, fun h2 => ?_⟩
      · have h2 := (cc_lt _ _).mp h2
        try simp (disch := omega) only [hL, tn_n, ti_iv, ti_ivn, ti_n, ti_0, os_si, os_sj, va_up, upd, Nat.reduceEqDiff, reduceIte] at h2
        conv => whnf
        refine pm_gd (by decide) ?_
        refine hZ1 _ _ ?_
        conv => whnf
        refine pm_bt (cdt rfl) ?_
        conv => whnf
        first
          | (exfalso; omega)
          | (refine hR0 _ _ _ _ ?_
             have e1 : nI d + Int32.ofInt 1 = nI (d + 1) := nI_1 d
             show Ok 5 2 4 [.ref 13, .int _, .int (nI d + Int32.ofInt 1)] [] σ _
             rw [e1]
             refine ih (d + 1) _ (by omega) ?_
             simp (disch := omega) only [sumF, hs, opF, tn_n]
             first
               | (rw [if_pos (by omega)]; done)
               | (rw [if_pos (by omega)]; rfl)
               | (rw [if_neg (by omega)]; rfl)
               | (rw [if_neg (by omega)]; exact (Int32.add_zero _).symm))
      · have h2 := (nc_lt _ _).mp h2
        try simp (disch := omega) only [hL, tn_n, ti_iv, ti_ivn, ti_n, ti_0, os_si, os_sj, va_up, upd, Nat.reduceEqDiff, reduceIte] at h2
        conv => whnf
        refine ⟨fun h3 => ?_, fun h3 => ?_⟩
        · have h3 := (cc_ge _ _).mp h3
          try simp (disch := omega) only [hL, tn_n, ti_iv, ti_ivn, ti_n, ti_0, os_si, os_sj, va_up, upd, Nat.reduceEqDiff, reduceIte] at h3
          conv => whnf
          refine pm_gd (by decide) ?_
          refine hZ1 _ _ ?_
          conv => whnf
          refine pm_bt (cdt rfl) ?_
          conv => whnf
          first
            | (exfalso; omega)
            | (refine hR0 _ _ _ _ ?_
               have e1 : nI d + Int32.ofInt 1 = nI (d + 1) := nI_1 d
               show Ok 5 2 4 [.ref 13, .int _, .int (nI d + Int32.ofInt 1)] [] σ _
               rw [e1]
               refine ih (d + 1) _ (by omega) ?_
               simp (disch := omega) only [sumF, hs, opF, tn_n]
               first
                 | (rw [if_pos (by omega)]; done)
                 | (rw [if_pos (by omega)]; rfl)
                 | (rw [if_neg (by omega)]; rfl)
                 | (rw [if_neg (by omega)]; exact (Int32.add_zero _).symm))
        · have h3 := (nc_ge _ _).mp h3
          try simp (disch := omega) only [hL, tn_n, ti_iv, ti_ivn, ti_n, ti_0, os_si, os_sj, va_up, upd, Nat.reduceEqDiff, reduceIte] at h3
          conv => whnf
          refine pm_gd (gI (by first | omega | ((try simp (disch := omega) only [hL, tn_n, ti_iv, ti_ivn, ti_n, ti_0, os_si, os_sj, va_up, upd, Nat.reduceEqDiff, reduceIte]); omega)) (by first | omega | ((try simp (disch := omega) only [hL, tn_n, ti_iv, ti_ivn, ti_n, ti_0, os_si, os_sj, va_up, upd, Nat.reduceEqDiff, reduceIte]); omega))) ?_
          conv => whnf
          refine ⟨fun h4 => ?_, fun h4 => ?_⟩
          · have h4 := (cc_ne _ _).mp h4
            try simp (disch := omega) only [hL, tn_n, ti_iv, ti_ivn, ti_n, ti_0, os_si, os_sj, va_up, upd, Nat.reduceEqDiff, reduceIte] at h4
            conv => whnf
            refine pm_gd (by decide) ?_
            refine hZ1 _ _ ?_
            conv => whnf
            refine pm_bt (cdt rfl) ?_
            conv => whnf
            first
              | (exfalso; omega)
              | (refine hR0 _ _ _ _ ?_
                 have e1 : nI d + Int32.ofInt 1 = nI (d + 1) := nI_1 d
                 show Ok 5 2 4 [.ref 13, .int _, .int (nI d + Int32.ofInt 1)] [] σ _
                 rw [e1]
                 refine ih (d + 1) _ (by omega) ?_
                 simp (disch := omega) only [sumF, hs, opF, tn_n]
                 first
                   | (rw [if_pos (by omega)]; done)
                   | (rw [if_pos (by omega)]; rfl)
                   | (rw [if_neg (by omega)]; rfl)
                   | (rw [if_neg (by omega)]; exact (Int32.add_zero _).symm))
          · have h4 := (nc_ne _ _).mp h4
            try simp (disch := omega) only [hL, tn_n, ti_iv, ti_ivn, ti_n, ti_0, os_si, os_sj, va_up, upd, Nat.reduceEqDiff, reduceIte] at h4
            conv => whnf
            refine pm_gd (by decide) ?_
            refine hZ1 _ _ ?_
            conv => whnf
            refine pm_bf (cdf rfl) ?_
            conv => whnf
            first
              | (exfalso; omega)
              | (refine hR0 _ _ _ _ ?_
                 have e1 : nI d + Int32.ofInt 1 = nI (d + 1) := nI_1 d
                 show Ok 5 2 4 [.ref 13, .int _, .int (nI d + Int32.ofInt 1)] [] σ _
                 rw [e1]
                 refine ih (d + 1) _ (by omega) ?_
                 simp (disch := omega) only [sumF, hs, opF, tn_n]
                 first
                   | (rw [if_pos (by omega)]; done)
                   | (rw [if_pos (by omega)]; rfl)
                   | (rw [if_neg (by omega)]; rfl)
                   | (rw [if_neg (by omega)]; exact (Int32.add_zero _).symm))
set_option maxRecDepth 20000 in
theorem m_sumBy_loop (σ : pm_S) (p : Int32) (n : Nat) (hn : n ≤ 30) (hL : σ.1 93 11 = nI n) : ∀ (m d : Nat) (s : Int32), n = d + m → s = sumF (owF (σ.1 107) (σ.1 101) (σ.1 103) p) d → Ok 213 2 4 [.ref 93, .int p, .int 1, .int s, .int (nI d)] [] σ (fun r τ => r = some (.int (sumF (owF (σ.1 107) (σ.1 101) (σ.1 103) p) n)) ∧ τ = σ) := by
  intro m
  induction m with
  | zero =>
    intro d s hd hs
    refine O_Model_sumOf [4] 400 (fun R0 cl0 Z0 hR0 hcl0 hZ0 => ?_)
    conv => whnf
    refine ⟨fun h1 => ?_, fun h1 => ?_⟩
    · have h1 := (cc_ge _ _).mp h1
      try simp (disch := omega) only [hL, tn_n, ti_iv, ti_ivn, ti_n, ti_0, os_si, os_sj, va_up, upd, Nat.reduceEqDiff, reduceIte] at h1
      conv => whnf
      refine hZ0 _ _ ?_
      first
        | (exfalso; omega)
        | exact ⟨by rw [hs, show d = n by omega], rfl⟩
    · have h1 := (nc_ge _ _).mp h1
      try simp (disch := omega) only [hL, tn_n, ti_iv, ti_ivn, ti_n, ti_0, os_si, os_sj, va_up, upd, Nat.reduceEqDiff, reduceIte] at h1
      conv => whnf
      refine hcl0 _ _ _ _ ?_
      refine S_Model_isOpen [] 400 rfl (fun R1 cl1 Z1 hR1 hcl1 hZ1 => ?_)
      conv => whnf
      refine pm_gd (gI (by first | omega | ((try simp (disch := omega) only [hL, tn_n, ti_iv, ti_ivn, ti_n, ti_0, os_si, os_sj, va_up, upd, Nat.reduceEqDiff, reduceIte]); omega)) (by first | omega | ((try simp (disch := omega) only [hL, tn_n, ti_iv, ti_ivn, ti_n, ti_0, os_si, os_sj, va_up, upd, Nat.reduceEqDiff, reduceIte]); omega))) ?_
      conv => whnf
      refine ⟨fun h2 => ?_, fun h2 => ?_⟩
      · have h2 := (cc_ne _ _).mp h2
        try simp (disch := omega) only [hL, tn_n, ti_iv, ti_ivn, ti_n, ti_0, os_si, os_sj, va_up, upd, Nat.reduceEqDiff, reduceIte] at h2
        conv => whnf
        refine pm_gd (by decide) ?_
        refine hZ1 _ _ ?_
        conv => whnf
        refine pm_bt (cdt rfl) ?_
        conv => whnf
        first
          | (exfalso; omega)
          | (refine hR0 _ _ _ _ ?_
             have e1 : nI d + Int32.ofInt 1 = nI (d + 1) := nI_1 d
             show Ok 213 2 4 [.ref 93, .int p, .int 1, .int _, .int (nI d + Int32.ofInt 1)] [] σ _
             rw [e1]
             refine ih (d + 1) _ (by omega) ?_
             simp (disch := omega) only [sumF, hs, owF, tn_n]
             first
               | (rw [if_pos ⟨by omega, by omega⟩]; done)
               | (rw [if_pos ⟨by omega, by omega⟩]; rfl)
               | (rw [if_neg (by omega)]; rfl)
               | (rw [if_neg (by omega)]; exact (Int32.add_zero _).symm))
      · have h2 := (nc_ne _ _).mp h2
        try simp (disch := omega) only [hL, tn_n, ti_iv, ti_ivn, ti_n, ti_0, os_si, os_sj, va_up, upd, Nat.reduceEqDiff, reduceIte] at h2
        conv => whnf
        refine pm_gd (by decide) ?_
        refine hZ1 _ _ ?_
        conv => whnf
        refine pm_bf (cdf rfl) ?_
        conv => whnf
        refine pm_bf (cdf rfl) ?_
        conv => whnf
        refine pm_gd (gI (by first | omega | ((try simp (disch := omega) only [hL, tn_n, ti_iv, ti_ivn, ti_n, ti_0, os_si, os_sj, va_up, upd, Nat.reduceEqDiff, reduceIte]); omega)) (by first | omega | ((try simp (disch := omega) only [hL, tn_n, ti_iv, ti_ivn, ti_n, ti_0, os_si, os_sj, va_up, upd, Nat.reduceEqDiff, reduceIte]); omega))) ?_
        conv => whnf
        refine ⟨fun h3 => ?_, fun h3 => ?_⟩
        · have h3 := (cc_ne _ _).mp h3
          try simp (disch := omega) only [hL, tn_n, ti_iv, ti_ivn, ti_n, ti_0, os_si, os_sj, va_up, upd, Nat.reduceEqDiff, reduceIte] at h3
          conv => whnf
          first
            | (exfalso; omega)
            | (refine hR0 _ _ _ _ ?_
               have e1 : nI d + Int32.ofInt 1 = nI (d + 1) := nI_1 d
               show Ok 213 2 4 [.ref 93, .int p, .int 1, .int _, .int (nI d + Int32.ofInt 1)] [] σ _
               rw [e1]
               refine ih (d + 1) _ (by omega) ?_
               simp (disch := omega) only [sumF, hs, owF, tn_n]
               first
                 | (rw [if_pos ⟨by omega, by omega⟩]; done)
                 | (rw [if_pos ⟨by omega, by omega⟩]; rfl)
                 | (rw [if_neg (by omega)]; rfl)
                 | (rw [if_neg (by omega)]; exact (Int32.add_zero _).symm))
        · have h3 := (nc_ne _ _).mp h3
          try simp (disch := omega) only [hL, tn_n, ti_iv, ti_ivn, ti_n, ti_0, os_si, os_sj, va_up, upd, Nat.reduceEqDiff, reduceIte] at h3
          conv => whnf
          refine pm_gd (gI (by first | omega | ((try simp (disch := omega) only [hL, tn_n, ti_iv, ti_ivn, ti_n, ti_0, os_si, os_sj, va_up, upd, Nat.reduceEqDiff, reduceIte]); omega)) (by first | omega | ((try simp (disch := omega) only [hL, tn_n, ti_iv, ti_ivn, ti_n, ti_0, os_si, os_sj, va_up, upd, Nat.reduceEqDiff, reduceIte]); omega))) ?_
          conv => whnf
          first
            | (exfalso; omega)
            | (refine hR0 _ _ _ _ ?_
               have e1 : nI d + Int32.ofInt 1 = nI (d + 1) := nI_1 d
               show Ok 213 2 4 [.ref 93, .int p, .int 1, .int _, .int (nI d + Int32.ofInt 1)] [] σ _
               rw [e1]
               refine ih (d + 1) _ (by omega) ?_
               simp (disch := omega) only [sumF, hs, owF, tn_n]
               first
                 | (rw [if_pos ⟨by omega, by omega⟩]; done)
                 | (rw [if_pos ⟨by omega, by omega⟩]; rfl)
                 | (rw [if_neg (by omega)]; rfl)
                 | (rw [if_neg (by omega)]; exact (Int32.add_zero _).symm))
  | succ m ih =>
    intro d s hd hs
    refine O_Model_sumOf [4] 400 (fun R0 cl0 Z0 hR0 hcl0 hZ0 => ?_)
    conv => whnf
    refine ⟨fun h1 => ?_, fun h1 => ?_⟩
    · have h1 := (cc_ge _ _).mp h1
      try simp (disch := omega) only [hL, tn_n, ti_iv, ti_ivn, ti_n, ti_0, os_si, os_sj, va_up, upd, Nat.reduceEqDiff, reduceIte] at h1
      conv => whnf
      refine hZ0 _ _ ?_
      first
        | (exfalso; omega)
        | exact ⟨by rw [hs, show d = n by omega], rfl⟩
    · have h1 := (nc_ge _ _).mp h1
      try simp (disch := omega) only [hL, tn_n, ti_iv, ti_ivn, ti_n, ti_0, os_si, os_sj, va_up, upd, Nat.reduceEqDiff, reduceIte] at h1
      conv => whnf
      refine hcl0 _ _ _ _ ?_
      refine S_Model_isOpen [] 400 rfl (fun R1 cl1 Z1 hR1 hcl1 hZ1 => ?_)
      conv => whnf
      refine pm_gd (gI (by first | omega | ((try simp (disch := omega) only [hL, tn_n, ti_iv, ti_ivn, ti_n, ti_0, os_si, os_sj, va_up, upd, Nat.reduceEqDiff, reduceIte]); omega)) (by first | omega | ((try simp (disch := omega) only [hL, tn_n, ti_iv, ti_ivn, ti_n, ti_0, os_si, os_sj, va_up, upd, Nat.reduceEqDiff, reduceIte]); omega))) ?_
      conv => whnf
      refine ⟨fun h2 => ?_, fun h2 => ?_⟩
      · have h2 := (cc_ne _ _).mp h2
        try simp (disch := omega) only [hL, tn_n, ti_iv, ti_ivn, ti_n, ti_0, os_si, os_sj, va_up, upd, Nat.reduceEqDiff, reduceIte] at h2
        conv => whnf
        refine pm_gd (by decide) ?_
        refine hZ1 _ _ ?_
        conv => whnf
        refine pm_bt (cdt rfl) ?_
        conv => whnf
        first
          | (exfalso; omega)
          | (refine hR0 _ _ _ _ ?_
             have e1 : nI d + Int32.ofInt 1 = nI (d + 1) := nI_1 d
             show Ok 213 2 4 [.ref 93, .int p, .int 1, .int _, .int (nI d + Int32.ofInt 1)] [] σ _
             rw [e1]
             refine ih (d + 1) _ (by omega) ?_
             simp (disch := omega) only [sumF, hs, owF, tn_n]
             first
               | (rw [if_pos ⟨by omega, by omega⟩]; done)
               | (rw [if_pos ⟨by omega, by omega⟩]; rfl)
               | (rw [if_neg (by omega)]; rfl)
               | (rw [if_neg (by omega)]; exact (Int32.add_zero _).symm))
      · have h2 := (nc_ne _ _).mp h2
        try simp (disch := omega) only [hL, tn_n, ti_iv, ti_ivn, ti_n, ti_0, os_si, os_sj, va_up, upd, Nat.reduceEqDiff, reduceIte] at h2
        conv => whnf
        refine pm_gd (by decide) ?_
        refine hZ1 _ _ ?_
        conv => whnf
        refine pm_bf (cdf rfl) ?_
        conv => whnf
        refine pm_bf (cdf rfl) ?_
        conv => whnf
        refine pm_gd (gI (by first | omega | ((try simp (disch := omega) only [hL, tn_n, ti_iv, ti_ivn, ti_n, ti_0, os_si, os_sj, va_up, upd, Nat.reduceEqDiff, reduceIte]); omega)) (by first | omega | ((try simp (disch := omega) only [hL, tn_n, ti_iv, ti_ivn, ti_n, ti_0, os_si, os_sj, va_up, upd, Nat.reduceEqDiff, reduceIte]); omega))) ?_
        conv => whnf
        refine ⟨fun h3 => ?_, fun h3 => ?_⟩
        · have h3 := (cc_ne _ _).mp h3
          try simp (disch := omega) only [hL, tn_n, ti_iv, ti_ivn, ti_n, ti_0, os_si, os_sj, va_up, upd, Nat.reduceEqDiff, reduceIte] at h3
          conv => whnf
          first
            | (exfalso; omega)
            | (refine hR0 _ _ _ _ ?_
               have e1 : nI d + Int32.ofInt 1 = nI (d + 1) := nI_1 d
               show Ok 213 2 4 [.ref 93, .int p, .int 1, .int _, .int (nI d + Int32.ofInt 1)] [] σ _
               rw [e1]
               refine ih (d + 1) _ (by omega) ?_
               simp (disch := omega) only [sumF, hs, owF, tn_n]
               first
                 | (rw [if_pos ⟨by omega, by omega⟩]; done)
                 | (rw [if_pos ⟨by omega, by omega⟩]; rfl)
                 | (rw [if_neg (by omega)]; rfl)
                 | (rw [if_neg (by omega)]; exact (Int32.add_zero _).symm))
        · have h3 := (nc_ne _ _).mp h3
          try simp (disch := omega) only [hL, tn_n, ti_iv, ti_ivn, ti_n, ti_0, os_si, os_sj, va_up, upd, Nat.reduceEqDiff, reduceIte] at h3
          conv => whnf
          refine pm_gd (gI (by first | omega | ((try simp (disch := omega) only [hL, tn_n, ti_iv, ti_ivn, ti_n, ti_0, os_si, os_sj, va_up, upd, Nat.reduceEqDiff, reduceIte]); omega)) (by first | omega | ((try simp (disch := omega) only [hL, tn_n, ti_iv, ti_ivn, ti_n, ti_0, os_si, os_sj, va_up, upd, Nat.reduceEqDiff, reduceIte]); omega))) ?_
          conv => whnf
          first
            | (exfalso; omega)
            | (refine hR0 _ _ _ _ ?_
               have e1 : nI d + Int32.ofInt 1 = nI (d + 1) := nI_1 d
               show Ok 213 2 4 [.ref 93, .int p, .int 1, .int _, .int (nI d + Int32.ofInt 1)] [] σ _
               rw [e1]
               refine ih (d + 1) _ (by omega) ?_
               simp (disch := omega) only [sumF, hs, owF, tn_n]
               first
                 | (rw [if_pos ⟨by omega, by omega⟩]; done)
                 | (rw [if_pos ⟨by omega, by omega⟩]; rfl)
                 | (rw [if_neg (by omega)]; rfl)
                 | (rw [if_neg (by omega)]; exact (Int32.add_zero _).symm))
set_option maxRecDepth 20000 in
theorem m_sumTo_loop (σ : pm_S) (p : Int32) (n : Nat) (hn : n ≤ 30) (hL : σ.1 93 11 = nI n) : ∀ (m d : Nat) (s : Int32), n = d + m → s = sumF (owF (σ.1 107) (σ.1 102) (σ.1 103) p) d → Ok 213 2 4 [.ref 93, .int p, .int 0, .int s, .int (nI d)] [] σ (fun r τ => r = some (.int (sumF (owF (σ.1 107) (σ.1 102) (σ.1 103) p) n)) ∧ τ = σ) := by
  intro m
  induction m with
  | zero =>
    intro d s hd hs
    refine O_Model_sumOf [4] 400 (fun R0 cl0 Z0 hR0 hcl0 hZ0 => ?_)
    conv => whnf
    refine ⟨fun h1 => ?_, fun h1 => ?_⟩
    · have h1 := (cc_ge _ _).mp h1
      try simp (disch := omega) only [hL, tn_n, ti_iv, ti_ivn, ti_n, ti_0, os_si, os_sj, va_up, upd, Nat.reduceEqDiff, reduceIte] at h1
      conv => whnf
      refine hZ0 _ _ ?_
      first
        | (exfalso; omega)
        | exact ⟨by rw [hs, show d = n by omega], rfl⟩
    · have h1 := (nc_ge _ _).mp h1
      try simp (disch := omega) only [hL, tn_n, ti_iv, ti_ivn, ti_n, ti_0, os_si, os_sj, va_up, upd, Nat.reduceEqDiff, reduceIte] at h1
      conv => whnf
      refine hcl0 _ _ _ _ ?_
      refine S_Model_isOpen [] 400 rfl (fun R1 cl1 Z1 hR1 hcl1 hZ1 => ?_)
      conv => whnf
      refine pm_gd (gI (by first | omega | ((try simp (disch := omega) only [hL, tn_n, ti_iv, ti_ivn, ti_n, ti_0, os_si, os_sj, va_up, upd, Nat.reduceEqDiff, reduceIte]); omega)) (by first | omega | ((try simp (disch := omega) only [hL, tn_n, ti_iv, ti_ivn, ti_n, ti_0, os_si, os_sj, va_up, upd, Nat.reduceEqDiff, reduceIte]); omega))) ?_
      conv => whnf
      refine ⟨fun h2 => ?_, fun h2 => ?_⟩
      · have h2 := (cc_ne _ _).mp h2
        try simp (disch := omega) only [hL, tn_n, ti_iv, ti_ivn, ti_n, ti_0, os_si, os_sj, va_up, upd, Nat.reduceEqDiff, reduceIte] at h2
        conv => whnf
        refine pm_gd (by decide) ?_
        refine hZ1 _ _ ?_
        conv => whnf
        refine pm_bt (cdt rfl) ?_
        conv => whnf
        first
          | (exfalso; omega)
          | (refine hR0 _ _ _ _ ?_
             have e1 : nI d + Int32.ofInt 1 = nI (d + 1) := nI_1 d
             show Ok 213 2 4 [.ref 93, .int p, .int 0, .int _, .int (nI d + Int32.ofInt 1)] [] σ _
             rw [e1]
             refine ih (d + 1) _ (by omega) ?_
             simp (disch := omega) only [sumF, hs, owF, tn_n]
             first
               | (rw [if_pos ⟨by omega, by omega⟩]; done)
               | (rw [if_pos ⟨by omega, by omega⟩]; rfl)
               | (rw [if_neg (by omega)]; rfl)
               | (rw [if_neg (by omega)]; exact (Int32.add_zero _).symm))
      · have h2 := (nc_ne _ _).mp h2
        try simp (disch := omega) only [hL, tn_n, ti_iv, ti_ivn, ti_n, ti_0, os_si, os_sj, va_up, upd, Nat.reduceEqDiff, reduceIte] at h2
        conv => whnf
        refine pm_gd (by decide) ?_
        refine hZ1 _ _ ?_
        conv => whnf
        refine pm_bf (cdf rfl) ?_
        conv => whnf
        refine pm_bt (cdt rfl) ?_
        conv => whnf
        refine pm_gd (gI (by first | omega | ((try simp (disch := omega) only [hL, tn_n, ti_iv, ti_ivn, ti_n, ti_0, os_si, os_sj, va_up, upd, Nat.reduceEqDiff, reduceIte]); omega)) (by first | omega | ((try simp (disch := omega) only [hL, tn_n, ti_iv, ti_ivn, ti_n, ti_0, os_si, os_sj, va_up, upd, Nat.reduceEqDiff, reduceIte]); omega))) ?_
        conv => whnf
        refine ⟨fun h3 => ?_, fun h3 => ?_⟩
        · have h3 := (cc_ne _ _).mp h3
          try simp (disch := omega) only [hL, tn_n, ti_iv, ti_ivn, ti_n, ti_0, os_si, os_sj, va_up, upd, Nat.reduceEqDiff, reduceIte] at h3
          conv => whnf
          first
            | (exfalso; omega)
            | (refine hR0 _ _ _ _ ?_
               have e1 : nI d + Int32.ofInt 1 = nI (d + 1) := nI_1 d
               show Ok 213 2 4 [.ref 93, .int p, .int 0, .int _, .int (nI d + Int32.ofInt 1)] [] σ _
               rw [e1]
               refine ih (d + 1) _ (by omega) ?_
               simp (disch := omega) only [sumF, hs, owF, tn_n]
               first
                 | (rw [if_pos ⟨by omega, by omega⟩]; done)
                 | (rw [if_pos ⟨by omega, by omega⟩]; rfl)
                 | (rw [if_neg (by omega)]; rfl)
                 | (rw [if_neg (by omega)]; exact (Int32.add_zero _).symm))
        · have h3 := (nc_ne _ _).mp h3
          try simp (disch := omega) only [hL, tn_n, ti_iv, ti_ivn, ti_n, ti_0, os_si, os_sj, va_up, upd, Nat.reduceEqDiff, reduceIte] at h3
          conv => whnf
          refine pm_gd (gI (by first | omega | ((try simp (disch := omega) only [hL, tn_n, ti_iv, ti_ivn, ti_n, ti_0, os_si, os_sj, va_up, upd, Nat.reduceEqDiff, reduceIte]); omega)) (by first | omega | ((try simp (disch := omega) only [hL, tn_n, ti_iv, ti_ivn, ti_n, ti_0, os_si, os_sj, va_up, upd, Nat.reduceEqDiff, reduceIte]); omega))) ?_
          conv => whnf
          first
            | (exfalso; omega)
            | (refine hR0 _ _ _ _ ?_
               have e1 : nI d + Int32.ofInt 1 = nI (d + 1) := nI_1 d
               show Ok 213 2 4 [.ref 93, .int p, .int 0, .int _, .int (nI d + Int32.ofInt 1)] [] σ _
               rw [e1]
               refine ih (d + 1) _ (by omega) ?_
               simp (disch := omega) only [sumF, hs, owF, tn_n]
               first
                 | (rw [if_pos ⟨by omega, by omega⟩]; done)
                 | (rw [if_pos ⟨by omega, by omega⟩]; rfl)
                 | (rw [if_neg (by omega)]; rfl)
                 | (rw [if_neg (by omega)]; exact (Int32.add_zero _).symm))
  | succ m ih =>
    intro d s hd hs
    refine O_Model_sumOf [4] 400 (fun R0 cl0 Z0 hR0 hcl0 hZ0 => ?_)
    conv => whnf
    refine ⟨fun h1 => ?_, fun h1 => ?_⟩
    · have h1 := (cc_ge _ _).mp h1
      try simp (disch := omega) only [hL, tn_n, ti_iv, ti_ivn, ti_n, ti_0, os_si, os_sj, va_up, upd, Nat.reduceEqDiff, reduceIte] at h1
      conv => whnf
      refine hZ0 _ _ ?_
      first
        | (exfalso; omega)
        | exact ⟨by rw [hs, show d = n by omega], rfl⟩
    · have h1 := (nc_ge _ _).mp h1
      try simp (disch := omega) only [hL, tn_n, ti_iv, ti_ivn, ti_n, ti_0, os_si, os_sj, va_up, upd, Nat.reduceEqDiff, reduceIte] at h1
      conv => whnf
      refine hcl0 _ _ _ _ ?_
      refine S_Model_isOpen [] 400 rfl (fun R1 cl1 Z1 hR1 hcl1 hZ1 => ?_)
      conv => whnf
      refine pm_gd (gI (by first | omega | ((try simp (disch := omega) only [hL, tn_n, ti_iv, ti_ivn, ti_n, ti_0, os_si, os_sj, va_up, upd, Nat.reduceEqDiff, reduceIte]); omega)) (by first | omega | ((try simp (disch := omega) only [hL, tn_n, ti_iv, ti_ivn, ti_n, ti_0, os_si, os_sj, va_up, upd, Nat.reduceEqDiff, reduceIte]); omega))) ?_
      conv => whnf
      refine ⟨fun h2 => ?_, fun h2 => ?_⟩
      · have h2 := (cc_ne _ _).mp h2
        try simp (disch := omega) only [hL, tn_n, ti_iv, ti_ivn, ti_n, ti_0, os_si, os_sj, va_up, upd, Nat.reduceEqDiff, reduceIte] at h2
        conv => whnf
        refine pm_gd (by decide) ?_
        refine hZ1 _ _ ?_
        conv => whnf
        refine pm_bt (cdt rfl) ?_
        conv => whnf
        first
          | (exfalso; omega)
          | (refine hR0 _ _ _ _ ?_
             have e1 : nI d + Int32.ofInt 1 = nI (d + 1) := nI_1 d
             show Ok 213 2 4 [.ref 93, .int p, .int 0, .int _, .int (nI d + Int32.ofInt 1)] [] σ _
             rw [e1]
             refine ih (d + 1) _ (by omega) ?_
             simp (disch := omega) only [sumF, hs, owF, tn_n]
             first
               | (rw [if_pos ⟨by omega, by omega⟩]; done)
               | (rw [if_pos ⟨by omega, by omega⟩]; rfl)
               | (rw [if_neg (by omega)]; rfl)
               | (rw [if_neg (by omega)]; exact (Int32.add_zero _).symm))
      · have h2 := (nc_ne _ _).mp h2
        try simp (disch := omega) only [hL, tn_n, ti_iv, ti_ivn, ti_n, ti_0, os_si, os_sj, va_up, upd, Nat.reduceEqDiff, reduceIte] at h2
        conv => whnf
        refine pm_gd (by decide) ?_
        refine hZ1 _ _ ?_
        conv => whnf
        refine pm_bf (cdf rfl) ?_
        conv => whnf
        refine pm_bt (cdt rfl) ?_
        conv => whnf
        refine pm_gd (gI (by first | omega | ((try simp (disch := omega) only [hL, tn_n, ti_iv, ti_ivn, ti_n, ti_0, os_si, os_sj, va_up, upd, Nat.reduceEqDiff, reduceIte]); omega)) (by first | omega | ((try simp (disch := omega) only [hL, tn_n, ti_iv, ti_ivn, ti_n, ti_0, os_si, os_sj, va_up, upd, Nat.reduceEqDiff, reduceIte]); omega))) ?_
        conv => whnf
        refine ⟨fun h3 => ?_, fun h3 => ?_⟩
        · have h3 := (cc_ne _ _).mp h3
          try simp (disch := omega) only [hL, tn_n, ti_iv, ti_ivn, ti_n, ti_0, os_si, os_sj, va_up, upd, Nat.reduceEqDiff, reduceIte] at h3
          conv => whnf
          first
            | (exfalso; omega)
            | (refine hR0 _ _ _ _ ?_
               have e1 : nI d + Int32.ofInt 1 = nI (d + 1) := nI_1 d
               show Ok 213 2 4 [.ref 93, .int p, .int 0, .int _, .int (nI d + Int32.ofInt 1)] [] σ _
               rw [e1]
               refine ih (d + 1) _ (by omega) ?_
               simp (disch := omega) only [sumF, hs, owF, tn_n]
               first
                 | (rw [if_pos ⟨by omega, by omega⟩]; done)
                 | (rw [if_pos ⟨by omega, by omega⟩]; rfl)
                 | (rw [if_neg (by omega)]; rfl)
                 | (rw [if_neg (by omega)]; exact (Int32.add_zero _).symm))
        · have h3 := (nc_ne _ _).mp h3
          try simp (disch := omega) only [hL, tn_n, ti_iv, ti_ivn, ti_n, ti_0, os_si, os_sj, va_up, upd, Nat.reduceEqDiff, reduceIte] at h3
          conv => whnf
          refine pm_gd (gI (by first | omega | ((try simp (disch := omega) only [hL, tn_n, ti_iv, ti_ivn, ti_n, ti_0, os_si, os_sj, va_up, upd, Nat.reduceEqDiff, reduceIte]); omega)) (by first | omega | ((try simp (disch := omega) only [hL, tn_n, ti_iv, ti_ivn, ti_n, ti_0, os_si, os_sj, va_up, upd, Nat.reduceEqDiff, reduceIte]); omega))) ?_
          conv => whnf
          first
            | (exfalso; omega)
            | (refine hR0 _ _ _ _ ?_
               have e1 : nI d + Int32.ofInt 1 = nI (d + 1) := nI_1 d
               show Ok 213 2 4 [.ref 93, .int p, .int 0, .int _, .int (nI d + Int32.ofInt 1)] [] σ _
               rw [e1]
               refine ih (d + 1) _ (by omega) ?_
               simp (disch := omega) only [sumF, hs, owF, tn_n]
               first
                 | (rw [if_pos ⟨by omega, by omega⟩]; done)
                 | (rw [if_pos ⟨by omega, by omega⟩]; rfl)
                 | (rw [if_neg (by omega)]; rfl)
                 | (rw [if_neg (by omega)]; exact (Int32.add_zero _).symm))
