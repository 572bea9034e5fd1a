/-! of -/
theorem x_sumBy (σ : pm_S) (p : Int32) (n : Nat) (hn : n ≤ 30) (hL : σ.1 13 0 = nI n) : Sp 6 2 [.ref 13, .int p] σ (fun r τ => r = some (.int (sumF (owF (σ.1 20) (σ.1 14) (σ.1 16) p) n)) ∧ σ = τ) := by
  refine S_Debts_sumOwedBy [4] 20 rfl (fun R cl Z hR hcl hZ => ?_)
  conv => whnf
  refine hR _ _ _ _ ?_
  exact (x_sumBy_loop σ p n hn hL n 0 _ (by omega) rfl).mono (fun r τ h => ⟨h.1, h.2.symm⟩)
theorem x_sumTo (σ : pm_S) (p : Int32) (n : Nat) (hn : n ≤ 30) (hL : σ.1 13 0 = nI n) : Sp 7 2 [.ref 13, .int p] σ (fun r τ => r = some (.int (sumF (owF (σ.1 20) (σ.1 15) (σ.1 16) p) n)) ∧ σ = τ) := by
  refine S_Debts_sumOwedTo [4] 20 rfl (fun R cl Z hR hcl hZ => ?_)
  conv => whnf
  refine hR _ _ _ _ ?_
  exact (x_sumTo_loop σ p n hn hL n 0 _ (by omega) rfl).mono (fun r τ h => ⟨h.1, h.2.symm⟩)
theorem x_cnt (σ : pm_S) (n : Nat) (hn : n ≤ 30) (hL : σ.1 13 0 = nI n) : Sp 5 2 [.ref 13] σ (fun r τ => r = some (.int (sumF (opF (σ.1 20)) n)) ∧ σ = τ) := by
  refine S_Debts_countOpen [4] 20 rfl (fun R cl Z hR hcl hZ => ?_)
  conv => whnf
  refine hR _ _ _ _ ?_
  exact (x_cnt_loop σ  n hn hL n 0 _ (by omega) rfl).mono (fun r τ h => ⟨h.1, h.2.symm⟩)
theorem m_sumBy (σ : pm_S) (p : Int32) (n : Nat) (hn : n ≤ 30) (hL : σ.1 93 11 = nI n) : Sp 213 2 [.ref 93, .int p, .int 1] σ (fun r τ => r = some (.int (sumF (owF (σ.1 107) (σ.1 101) (σ.1 103) p) n)) ∧ σ = τ) := by
  refine S_Model_sumOf [4] 20 rfl (fun R cl Z hR hcl hZ => ?_)
  conv => whnf
  refine hR _ _ _ _ ?_
  exact (m_sumBy_loop σ p n hn hL n 0 _ (by omega) rfl).mono (fun r τ h => ⟨h.1, h.2.symm⟩)
theorem m_sumTo (σ : pm_S) (p : Int32) (n : Nat) (hn : n ≤ 30) (hL : σ.1 93 11 = nI n) : Sp 213 2 [.ref 93, .int p, .int 0] σ (fun r τ => r = some (.int (sumF (owF (σ.1 107) (σ.1 102) (σ.1 103) p) n)) ∧ σ = τ) := by
  refine S_Model_sumOf [4] 20 rfl (fun R cl Z hR hcl hZ => ?_)
  conv => whnf
  refine hR _ _ _ _ ?_
  exact (m_sumTo_loop σ p n hn hL n 0 _ (by omega) rfl).mono (fun r τ h => ⟨h.1, h.2.symm⟩)
def ansOf (np : Int) (home coin age goal stood : Nat → Int32) (by' to : Int32) (p w : Int32) : Int32 := if ¬ (0 ≤ p.toInt ∧ p.toInt < np) then -2 else if w.toInt = 0 then home p.toNatClampNeg else if w.toInt = 1 then coin p.toNatClampNeg else if w.toInt = 2 then age p.toNatClampNeg else if w.toInt = 3 then goal p.toNatClampNeg else if w.toInt = 4 then stood p.toNatClampNeg else if w.toInt = 5 then by' else if w.toInt = 6 then to else -2
set_option maxRecDepth 20000 in
theorem x_of (σ : pm_S) (a1 a2 : Int32) (nd : Nat) (hd : nd ≤ 30) (hL : σ.1 13 0 = nI nd) (g : (σ.1 7 0).toInt ≤ 10) : Sp 141 4 [.ref 0, .int a1, .int a2] σ (fun r τ => r = some (.int (ansOf (σ.1 7 0).toInt (σ.1 8) (σ.1 9) (σ.1 10) (σ.1 11) (σ.1 12) (sumF (owF (σ.1 20) (σ.1 14) (σ.1 16) a1) nd) (sumF (owF (σ.1 20) (σ.1 15) (σ.1 16) a1) nd) a1 a2)) ∧ σ = τ) := by
  refine S_PaidWhereMade_of [] 400 rfl (fun R0 cl0 Z0 hR0 hcl0 hZ0 => ?_)
  conv => whnf
  refine hcl0 _ _ _ _ ?_
  refine S_People_has [] 400 rfl (fun R1 cl1 Z1 hR1 hcl1 hZ1 => ?_)
  conv => whnf
  refine ⟨fun h1 => ?_, fun h1 => ?_⟩
  · have h1 := (cc_lt _ _).mp h1
    try simp (disch := omega) only [tn_n, ti_iv, ti_ivn, ti_n, ti_0, os_si, os_sj, va_up, upd, Nat.reduceEqDiff, reduceIte] at h1
    conv => whnf
    refine pm_gd (by decide) ?_
    refine hZ1 _ _ ?_
    conv => whnf
    refine pm_bf (cdf rfl) ?_
    conv => whnf
    refine hZ0 _ _ ?_
    refine ⟨?_, rfl⟩
    unfold ansOf
    (repeat (first | rw [if_pos (by omega)] | rw [if_neg (by omega)]))
    try rfl
  · have h1 := (nc_lt _ _).mp h1
    try simp (disch := omega) only [tn_n, ti_iv, ti_ivn, ti_n, ti_0, os_si, os_sj, va_up, upd, Nat.reduceEqDiff, reduceIte] at h1
    conv => whnf
    refine ⟨fun h2 => ?_, fun h2 => ?_⟩
    · have h2 := (cc_ge _ _).mp h2
      try simp (disch := omega) only [tn_n, ti_iv, ti_ivn, ti_n, ti_0, os_si, os_sj, va_up, upd, Nat.reduceEqDiff, reduceIte] at h2
      conv => whnf
      refine pm_gd (by decide) ?_
      refine hZ1 _ _ ?_
      conv => whnf
      refine pm_bf (cdf rfl) ?_
      conv => whnf
      refine hZ0 _ _ ?_
      refine ⟨?_, rfl⟩
      unfold ansOf
      (repeat (first | rw [if_pos (by omega)] | rw [if_neg (by omega)]))
      try rfl
    · have h2 := (nc_ge _ _).mp h2
      try simp (disch := omega) only [tn_n, ti_iv, ti_ivn, ti_n, ti_0, os_si, os_sj, va_up, upd, Nat.reduceEqDiff, reduceIte] at h2
      conv => whnf
      refine pm_gd (by decide) ?_
      refine hZ1 _ _ ?_
      conv => whnf
      refine pm_bt (cdt rfl) ?_
      conv => whnf
      refine ⟨fun h3 => ?_, fun h3 => ?_⟩
      · have h3 : _ = (0 : Int) := (pm_ofInt (by decide) (by decide)).mp h3
        conv => whnf
        refine pm_gd (gI (by first | omega | ((try simp (disch := omega) only [tn_n, ti_iv, ti_ivn, ti_n, ti_0, os_si, os_sj, va_up, upd, Nat.reduceEqDiff, reduceIte]); omega)) (by first | omega | ((try simp (disch := omega) only [tn_n, ti_iv, ti_ivn, ti_n, ti_0, os_si, os_sj, va_up, upd, Nat.reduceEqDiff, reduceIte]); omega))) ?_
        conv => whnf
        refine hZ0 _ _ ?_
        refine ⟨?_, rfl⟩
        unfold ansOf
        (repeat (first | rw [if_pos (by omega)] | rw [if_neg (by omega)]))
        try rfl
      have h3 : ¬ _ = (0 : Int) := mt (pm_ofInt (by decide) (by decide)).mpr h3
      conv => whnf
      refine ⟨fun h4 => ?_, fun h4 => ?_⟩
      · have h4 : _ = (1 : Int) := (pm_ofInt (by decide) (by decide)).mp h4
        conv => whnf
        refine pm_gd (gI (by first | omega | ((try simp (disch := omega) only [tn_n, ti_iv, ti_ivn, ti_n, ti_0, os_si, os_sj, va_up, upd, Nat.reduceEqDiff, reduceIte]); omega)) (by first | omega | ((try simp (disch := omega) only [tn_n, ti_iv, ti_ivn, ti_n, ti_0, os_si, os_sj, va_up, upd, Nat.reduceEqDiff, reduceIte]); omega))) ?_
        conv => whnf
        refine hZ0 _ _ ?_
        refine ⟨?_, rfl⟩
        unfold ansOf
        (repeat (first | rw [if_pos (by omega)] | rw [if_neg (by omega)]))
        try rfl
      have h4 : ¬ _ = (1 : Int) := mt (pm_ofInt (by decide) (by decide)).mpr h4
      conv => whnf
      refine ⟨fun h5 => ?_, fun h5 => ?_⟩
      · have h5 : _ = (2 : Int) := (pm_ofInt (by decide) (by decide)).mp h5
        conv => whnf
        refine pm_gd (gI (by first | omega | ((try simp (disch := omega) only [tn_n, ti_iv, ti_ivn, ti_n, ti_0, os_si, os_sj, va_up, upd, Nat.reduceEqDiff, reduceIte]); omega)) (by first | omega | ((try simp (disch := omega) only [tn_n, ti_iv, ti_ivn, ti_n, ti_0, os_si, os_sj, va_up, upd, Nat.reduceEqDiff, reduceIte]); omega))) ?_
        conv => whnf
        refine hZ0 _ _ ?_
        refine ⟨?_, rfl⟩
        unfold ansOf
        (repeat (first | rw [if_pos (by omega)] | rw [if_neg (by omega)]))
        try rfl
      have h5 : ¬ _ = (2 : Int) := mt (pm_ofInt (by decide) (by decide)).mpr h5
      conv => whnf
      refine ⟨fun h6 => ?_, fun h6 => ?_⟩
      · have h6 : _ = (3 : Int) := (pm_ofInt (by decide) (by decide)).mp h6
        conv => whnf
        refine pm_gd (gI (by first | omega | ((try simp (disch := omega) only [tn_n, ti_iv, ti_ivn, ti_n, ti_0, os_si, os_sj, va_up, upd, Nat.reduceEqDiff, reduceIte]); omega)) (by first | omega | ((try simp (disch := omega) only [tn_n, ti_iv, ti_ivn, ti_n, ti_0, os_si, os_sj, va_up, upd, Nat.reduceEqDiff, reduceIte]); omega))) ?_
        conv => whnf
        refine hZ0 _ _ ?_
        refine ⟨?_, rfl⟩
        unfold ansOf
        (repeat (first | rw [if_pos (by omega)] | rw [if_neg (by omega)]))
        try rfl
      have h6 : ¬ _ = (3 : Int) := mt (pm_ofInt (by decide) (by decide)).mpr h6
      conv => whnf
      refine ⟨fun h7 => ?_, fun h7 => ?_⟩
      · have h7 : _ = (4 : Int) := (pm_ofInt (by decide) (by decide)).mp h7
        conv => whnf
        refine pm_gd (gI (by first | omega | ((try simp (disch := omega) only [tn_n, ti_iv, ti_ivn, ti_n, ti_0, os_si, os_sj, va_up, upd, Nat.reduceEqDiff, reduceIte]); omega)) (by first | omega | ((try simp (disch := omega) only [tn_n, ti_iv, ti_ivn, ti_n, ti_0, os_si, os_sj, va_up, upd, Nat.reduceEqDiff, reduceIte]); omega))) ?_
        conv => whnf
        refine hZ0 _ _ ?_
        refine ⟨?_, rfl⟩
        unfold ansOf
        (repeat (first | rw [if_pos (by omega)] | rw [if_neg (by omega)]))
        try rfl
      have h7 : ¬ _ = (4 : Int) := mt (pm_ofInt (by decide) (by decide)).mpr h7
      conv => whnf
      refine ⟨fun h8 => ?_, fun h8 => ?_⟩
      · have h8 : _ = (5 : Int) := (pm_ofInt (by decide) (by decide)).mp h8
        conv => whnf
        refine hcl0 _ _ _ _ ((x_sumBy _ _ nd hd hL).use (by decide) (fun rs9 τs9 s9 => ?_))
        obtain ⟨rfl, rfl⟩ := s9
        conv => whnf
        refine hZ0 _ _ ?_
        refine ⟨?_, rfl⟩
        unfold ansOf
        (repeat (first | rw [if_pos (by omega)] | rw [if_neg (by omega)]))
        try rfl
      have h8 : ¬ _ = (5 : Int) := mt (pm_ofInt (by decide) (by decide)).mpr h8
      conv => whnf
      refine ⟨fun h10 => ?_, fun h10 => ?_⟩
      · have h10 : _ = (6 : Int) := (pm_ofInt (by decide) (by decide)).mp h10
        conv => whnf
        refine hcl0 _ _ _ _ ((x_sumTo _ _ nd hd hL).use (by decide) (fun rs11 τs11 s11 => ?_))
        obtain ⟨rfl, rfl⟩ := s11
        conv => whnf
        refine hZ0 _ _ ?_
        refine ⟨?_, rfl⟩
        unfold ansOf
        (repeat (first | rw [if_pos (by omega)] | rw [if_neg (by omega)]))
        try rfl
      have h10 : ¬ _ = (6 : Int) := mt (pm_ofInt (by decide) (by decide)).mpr h10
      conv => whnf
      conv => whnf
      refine hZ0 _ _ ?_
      refine ⟨?_, rfl⟩
      unfold ansOf
      (repeat (first | rw [if_pos (by omega)] | rw [if_neg (by omega)]))
      try rfl
