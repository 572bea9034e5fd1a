/-! the open debts, one by one -/
def selL (P : Nat → Bool) : Nat → List Nat
  | 0 => []
  | n + 1 => if P n then selL P n ++ [n] else selL P n
theorem selL_t {P : Nat → Bool} {n : Nat} (h : P n = true) : selL P (n + 1) = selL P n ++ [n] := if_pos h
theorem selL_f {P : Nat → Bool} {n : Nat} (h : ¬ P n = true) : selL P (n + 1) = selL P n := if_neg h
theorem selL_len (P : Nat → Bool) : ∀ n, (selL P n).length ≤ n
  | 0 => Nat.le_refl _
  | n + 1 => by
    have := selL_len P n
    by_cases h : P n = true
    · rw [selL_t h, List.length_append]; show _ + 1 ≤ _; omega
    · rw [selL_f h]; omega
theorem selL_lt {P : Nat → Bool} : ∀ {n d : Nat}, d ∈ selL P n → d < n ∧ P d = true
  | 0, _, h => by cases h
  | n + 1, d, h => by
    by_cases q : P n = true
    · rw [selL_t q] at h
      rcases List.mem_append.mp h with h | h
      · have := selL_lt h; exact ⟨by omega, this.2⟩
      · rcases List.mem_singleton.mp h with rfl; exact ⟨by omega, q⟩
    · rw [selL_f q] at h
      have := selL_lt h; exact ⟨by omega, this.2⟩
theorem selL_congr {P P' : Nat → Bool} : ∀ {n : Nat}, (∀ j, j < n → P j = P' j) → selL P n = selL P' n
  | 0, _ => rfl
  | n + 1, h => by
    show (if P n then selL P n ++ [n] else selL P n) = (if P' n then selL P' n ++ [n] else selL P' n)
    rw [selL_congr (fun j hj => h j (by omega)), h n (by omega)]
def TKR (p s q : Nat) (l : List Nat) (σ τ : pm_S) : Prop := τ.1 p s = nI l.length ∧ (∀ j, j < l.length → τ.1 q j = nI (l.getD j 0)) ∧ (∀ j, j ≠ s → τ.1 p j = σ.1 p j) ∧ (∀ k, k ≠ p → k ≠ q → τ.1 k = σ.1 k) ∧ τ.2 = σ.2
theorem TKR_snoc {p s q d : Nat} {l : List Nat} {σ τ τ' : pm_S} (h : TKR p s q l σ τ) (h1 : τ'.1 q = upd (τ.1 q) l.length (nI d)) (h2 : τ'.1 p = upd (τ.1 p) s (nI (l.length + 1))) (h3 : ∀ k, k ≠ p → k ≠ q → τ'.1 k = τ.1 k) (h4 : τ'.2 = τ.2) : TKR p s q (l ++ [d]) σ τ' := by
  obtain ⟨e1, e2, e3, e4, e5⟩ := h
  refine ⟨?_, fun j hj => ?_, fun j hj => ?_, fun k k1 k2 => by rw [h3 k k1 k2, e4 k k1 k2], by rw [h4, e5]⟩
  · rw [h2, List.length_append]; simp [upd]
  · rw [List.length_append] at hj
    have hj : j < l.length + 1 := hj
    rw [h1]
    by_cases hjl : j = l.length
    · rw [hjl]; simp [upd, List.getD]
    · unfold upd
      rw [if_neg hjl, e2 j (by omega)]
      simp [List.getD, List.getElem?_append_left (show j < l.length by omega)]
  · rw [h2]; unfold upd; rw [if_neg hj]; exact e3 j hj
def opP (ho dr : Nat → Int32) (who : Int32) (d : Nat) : Bool := decide ((ho d).toInt = 0 ∧ (who.toInt = -1 ∨ (dr d).toInt = who.toInt))
set_option maxRecDepth 20000 in
theorem m_takes_loop (σ : pm_S) (who : Int32) (n : Nat) (hn : n ≤ 30) (hL : σ.1 93 11 = nI n) : ∀ (m : Nat) (d : Nat) (σ' : pm_S), n + 1 = d + m → d ≤ n → TKR 93 55 125 (selL (opP (σ.1 107) (σ.1 101) who) d) σ σ' → Ok 219 2 5 [.ref 93, .int who, .int (nI d)] [] σ' (fun r τ => r = none ∧ TKR 93 55 125 (selL (opP (σ.1 107) (σ.1 101) who) n) σ τ) := by
  intro m
  induction m with
  | zero => intro d σ' hd hdn hT; exfalso; omega
  | succ m ih =>
    intro d σ' hd hdn hT
    have hl := selL_len (opP (σ.1 107) (σ.1 101) who) d
    have h55 := hT.1
    have h11 : σ'.1 93 11 = nI n := by rw [hT.2.2.1 11 (by decide), hL]
    have e107 : σ'.1 107 = σ.1 107 := hT.2.2.2.1 107 (by decide) (by decide)
    have e101 : σ'.1 101 = σ.1 101 := hT.2.2.2.1 101 (by decide) (by decide)
    refine O_Model_takesOpen [5] 400 (fun R0 cl0 Z0 hR0 hcl0 hZ0 => ?_)
    conv => whnf
    refine ⟨fun h1 => ?_, fun h1 => ?_⟩
    · have h1 := (cc_ge _ _).mp h1
      try simp (disch := omega) only [h11, h55, e107, e101, tn_n, bI_0, bI_1, Classical.not_not, ti_iv, ti_ivn, ti_n, ti_0, os_si, os_sj, va_up, upd, Nat.reduceEqDiff, reduceIte] at h1
      conv => whnf
      refine hZ0 _ _ ?_
      first
        | (exfalso; omega)
        | exact ⟨rfl, (show d = n by omega) ▸ hT⟩
    · have h1 := (nc_ge _ _).mp h1
      try simp (disch := omega) only [h11, h55, e107, e101, tn_n, bI_0, bI_1, Classical.not_not, ti_iv, ti_ivn, ti_n, ti_0, os_si, os_sj, va_up, upd, Nat.reduceEqDiff, reduceIte] at h1
      conv => whnf
      refine hcl0 _ _ _ _ ((m_isOpen _ _ (by first | omega | ((try simp (disch := omega) only [h11, h55, e107, e101, tn_n, ti_iv, ti_ivn, ti_n, ti_0, bI_0, bI_1, Classical.not_not, os_si, os_sj, va_up, upd, Nat.reduceEqDiff, reduceIte]); (try dsimp only); omega)) (by first | omega | ((try simp (disch := omega) only [h11, h55, e107, e101, tn_n, ti_iv, ti_ivn, ti_n, ti_0, bI_0, bI_1, Classical.not_not, os_si, os_sj, va_up, upd, Nat.reduceEqDiff, reduceIte]); (try dsimp only); omega))).use (by decide) (fun rs2 τs2 s2 => ?_))
      obtain ⟨rfl, rfl⟩ := s2
      conv => whnf
      refine ⟨fun h3 => ?_, fun h3 => ?_⟩
      · have h3 := (cc_eq _ _).mp h3
        try simp (disch := omega) only [h11, h55, e107, e101, tn_n, bI_0, bI_1, Classical.not_not, ti_iv, ti_ivn, ti_n, ti_0, os_si, os_sj, va_up, upd, Nat.reduceEqDiff, reduceIte] at h3
        conv => whnf
        first
          | (exfalso; omega)
          | (refine hR0 _ _ _ _ ?_
             show Ok 219 2 5 [.ref 93, .int who, .int (nI d + Int32.ofInt 1)] [] _ _
             rw [show nI d + Int32.ofInt 1 = nI (d + 1) from nI_1 d]
             refine ih (d + 1) _ (by omega) (by omega) ?_
             first
               | (rw [selL_f (fun z => by have z := of_decide_eq_true z; omega)]; exact hT)
               | (rw [selL_t (decide_eq_true (by omega))]
                  refine TKR_snoc hT ?_ ?_ (fun k k1 k2 => ?_) rfl
                  · simp (disch := omega) [os_si, va_up, h55, tn_n]
                  · simp (disch := omega) [os_si, va_up, h55, nI_iv1]
                  · simp [os_si, va_up, k1, k2]))
      · have h3 := (nc_eq _ _).mp h3
        try simp (disch := omega) only [h11, h55, e107, e101, tn_n, bI_0, bI_1, Classical.not_not, ti_iv, ti_ivn, ti_n, ti_0, os_si, os_sj, va_up, upd, Nat.reduceEqDiff, reduceIte] at h3
        conv => whnf
        refine ⟨fun h4 => ?_, fun h4 => ?_⟩
        · have h4 := (cc_eq _ _).mp h4
          try simp (disch := omega) only [h11, h55, e107, e101, tn_n, bI_0, bI_1, Classical.not_not, ti_iv, ti_ivn, ti_n, ti_0, os_si, os_sj, va_up, upd, Nat.reduceEqDiff, reduceIte] at h4
          conv => whnf
          refine pm_gd (gI (by first | omega | ((try simp (disch := omega) only [h11, h55, e107, e101, tn_n, ti_iv, ti_ivn, ti_n, ti_0, bI_0, bI_1, Classical.not_not, os_si, os_sj, va_up, upd, Nat.reduceEqDiff, reduceIte]); (try dsimp only); omega)) (by first | omega | ((try simp (disch := omega) only [h11, h55, e107, e101, tn_n, ti_iv, ti_ivn, ti_n, ti_0, bI_0, bI_1, Classical.not_not, os_si, os_sj, va_up, upd, Nat.reduceEqDiff, reduceIte]); (try dsimp only); omega))) ?_
          conv => whnf
          first
            | (exfalso; omega)
            | (refine hR0 _ _ _ _ ?_
               show Ok 219 2 5 [.ref 93, .int who, .int (nI d + Int32.ofInt 1)] [] _ _
               rw [show nI d + Int32.ofInt 1 = nI (d + 1) from nI_1 d]
               refine ih (d + 1) _ (by omega) (by omega) ?_
               first
                 | (rw [selL_f (fun z => by have z := of_decide_eq_true z; omega)]; exact hT)
                 | (rw [selL_t (decide_eq_true (by omega))]
                    refine TKR_snoc hT ?_ ?_ (fun k k1 k2 => ?_) rfl
                    · simp (disch := omega) [os_si, va_up, h55, tn_n]
                    · simp (disch := omega) [os_si, va_up, h55, nI_iv1]
                    · simp [os_si, va_up, k1, k2]))
        · have h4 := (nc_eq _ _).mp h4
          try simp (disch := omega) only [h11, h55, e107, e101, tn_n, bI_0, bI_1, Classical.not_not, ti_iv, ti_ivn, ti_n, ti_0, os_si, os_sj, va_up, upd, Nat.reduceEqDiff, reduceIte] at h4
          conv => whnf
          refine pm_gd (gI (by first | omega | ((try simp (disch := omega) only [h11, h55, e107, e101, tn_n, ti_iv, ti_ivn, ti_n, ti_0, bI_0, bI_1, Classical.not_not, os_si, os_sj, va_up, upd, Nat.reduceEqDiff, reduceIte]); (try dsimp only); omega)) (by first | omega | ((try simp (disch := omega) only [h11, h55, e107, e101, tn_n, ti_iv, ti_ivn, ti_n, ti_0, bI_0, bI_1, Classical.not_not, os_si, os_sj, va_up, upd, Nat.reduceEqDiff, reduceIte]); (try dsimp only); omega))) ?_
          conv => whnf
          refine ⟨fun h5 => ?_, fun h5 => ?_⟩
          · have h5 := (cc_eq _ _).mp h5
            try simp (disch := omega) only [h11, h55, e107, e101, tn_n, bI_0, bI_1, Classical.not_not, ti_iv, ti_ivn, ti_n, ti_0, os_si, os_sj, va_up, upd, Nat.reduceEqDiff, reduceIte] at h5
            conv => whnf
            refine pm_gd (gI (by first | omega | ((try simp (disch := omega) only [h11, h55, e107, e101, tn_n, ti_iv, ti_ivn, ti_n, ti_0, bI_0, bI_1, Classical.not_not, os_si, os_sj, va_up, upd, Nat.reduceEqDiff, reduceIte]); (try dsimp only); omega)) (by first | omega | ((try simp (disch := omega) only [h11, h55, e107, e101, tn_n, ti_iv, ti_ivn, ti_n, ti_0, bI_0, bI_1, Classical.not_not, os_si, os_sj, va_up, upd, Nat.reduceEqDiff, reduceIte]); (try dsimp only); omega))) ?_
            conv => whnf
            first
              | (exfalso; omega)
              | (refine hR0 _ _ _ _ ?_
                 show Ok 219 2 5 [.ref 93, .int who, .int (nI d + Int32.ofInt 1)] [] _ _
                 rw [show nI d + Int32.ofInt 1 = nI (d + 1) from nI_1 d]
                 refine ih (d + 1) _ (by omega) (by omega) ?_
                 first
                   | (rw [selL_f (fun z => by have z := of_decide_eq_true z; omega)]; exact hT)
                   | (rw [selL_t (decide_eq_true (by omega))]
                      refine TKR_snoc hT ?_ ?_ (fun k k1 k2 => ?_) rfl
                      · simp (disch := omega) [os_si, va_up, h55, tn_n]
                      · simp (disch := omega) [os_si, va_up, h55, nI_iv1]
                      · simp [os_si, va_up, k1, k2]))
          · have h5 := (nc_eq _ _).mp h5
            try simp (disch := omega) only [h11, h55, e107, e101, tn_n, bI_0, bI_1, Classical.not_not, ti_iv, ti_ivn, ti_n, ti_0, os_si, os_sj, va_up, upd, Nat.reduceEqDiff, reduceIte] at h5
            conv => whnf
            first
              | (exfalso; omega)
              | (refine hR0 _ _ _ _ ?_
                 show Ok 219 2 5 [.ref 93, .int who, .int (nI d + Int32.ofInt 1)] [] _ _
                 rw [show nI d + Int32.ofInt 1 = nI (d + 1) from nI_1 d]
                 refine ih (d + 1) _ (by omega) (by omega) ?_
                 first
                   | (rw [selL_f (fun z => by have z := of_decide_eq_true z; omega)]; exact hT)
                   | (rw [selL_t (decide_eq_true (by omega))]
                      refine TKR_snoc hT ?_ ?_ (fun k k1 k2 => ?_) rfl
                      · simp (disch := omega) [os_si, va_up, h55, tn_n]
                      · simp (disch := omega) [os_si, va_up, h55, nI_iv1]
                      · simp [os_si, va_up, k1, k2]))
theorem m_takes (σ : pm_S) (who : Int32) (n : Nat) (hn : n ≤ 30) (hL : σ.1 93 11 = nI n) : Sp 219 2 [.ref 93, .int who] σ (fun r τ => r = none ∧ TKR 93 55 125 (selL (opP (σ.1 107) (σ.1 101) who) n) σ τ) := by
  refine S_Model_takesOpen [5] 20 rfl (fun R cl Z hR hcl hZ => ?_)
  conv => whnf
  refine hR _ _ _ _ ?_
  refine m_takes_loop σ who n hn hL (n + 1) 0 _ (by omega) (by omega) ⟨?_, fun j hj => absurd hj (Nat.not_lt_zero _), fun j hj => ?_, fun k k1 k2 => ?_, rfl⟩
  · simp [va_up, upd]; rfl
  · simp [va_up, upd, hj]
  · simp [va_up, k1]
set_option maxRecDepth 20000 in
theorem m_look (σ : pm_S) (a1 : Int32) (nd : Nat) (hd : nd ≤ 30) (hL : σ.1 93 11 = nI nd) : Sp 246 4 [.ref 93, .int a1] σ (fun r τ => r = some (.int (ansLook (σ.1 93 2) (σ.1 93 5) (σ.1 93 11) (nI (selL (opP (σ.1 107) (σ.1 101) (-1)) nd).length) (σ.1 93 19) (σ.1 93 20) (σ.1 93 1) (σ.1 93 23) (σ.1 93 36) (σ.1 93 21) (σ.1 108) a1)) ∧ (τ = (va_up σ.1 93 (upd (σ.1 93) 0 0), σ.2) ∨ TKR 93 55 125 (selL (opP (σ.1 107) (σ.1 101) (-1)) nd) (va_up σ.1 93 (upd (σ.1 93) 0 0), σ.2) τ)) := by
  refine S_Model_look [] 400 rfl (fun R0 cl0 Z0 hR0 hcl0 hZ0 => ?_)
  conv => whnf
  refine ⟨fun h1 => ?_, fun h1 => ?_⟩
  · have h1 := (cc_ne _ _).mp h1
    try simp (disch := omega) only [tn_n, bI_0, bI_1, Classical.not_not, ti_iv, ti_ivn, ti_n, ti_0, os_si, os_sj, va_up, upd, Nat.reduceEqDiff, reduceIte] at h1
    conv => whnf
    refine ⟨fun h2 => ?_, fun h2 => ?_⟩
    · have h2 := (cc_ne _ _).mp h2
      try simp (disch := omega) only [tn_n, bI_0, bI_1, Classical.not_not, ti_iv, ti_ivn, ti_n, ti_0, os_si, os_sj, va_up, upd, Nat.reduceEqDiff, reduceIte] at h2
      conv => whnf
      refine ⟨fun h3 => ?_, fun h3 => ?_⟩
      · have h3 := (cc_ne _ _).mp h3
        try simp (disch := omega) only [tn_n, bI_0, bI_1, Classical.not_not, ti_iv, ti_ivn, ti_n, ti_0, os_si, os_sj, va_up, upd, Nat.reduceEqDiff, reduceIte] at h3
        conv => whnf
        refine ⟨fun h4 => ?_, fun h4 => ?_⟩
        · have h4 := (cc_ne _ _).mp h4
          try simp (disch := omega) only [tn_n, bI_0, bI_1, Classical.not_not, ti_iv, ti_ivn, ti_n, ti_0, os_si, os_sj, va_up, upd, Nat.reduceEqDiff, reduceIte] at h4
          conv => whnf
          refine ⟨fun h5 => ?_, fun h5 => ?_⟩
          · have h5 := (cc_ne _ _).mp h5
            try simp (disch := omega) only [tn_n, bI_0, bI_1, Classical.not_not, ti_iv, ti_ivn, ti_n, ti_0, os_si, os_sj, va_up, upd, Nat.reduceEqDiff, reduceIte] at h5
            conv => whnf
            refine ⟨fun h6 => ?_, fun h6 => ?_⟩
            · have h6 := (cc_ne _ _).mp h6
              try simp (disch := omega) only [tn_n, bI_0, bI_1, Classical.not_not, ti_iv, ti_ivn, ti_n, ti_0, os_si, os_sj, va_up, upd, Nat.reduceEqDiff, reduceIte] at h6
              conv => whnf
              refine ⟨fun h7 => ?_, fun h7 => ?_⟩
              · have h7 := (cc_ne _ _).mp h7
                try simp (disch := omega) only [tn_n, bI_0, bI_1, Classical.not_not, ti_iv, ti_ivn, ti_n, ti_0, os_si, os_sj, va_up, upd, Nat.reduceEqDiff, reduceIte] at h7
                conv => whnf
                refine ⟨fun h8 => ?_, fun h8 => ?_⟩
                · have h8 := (cc_ne _ _).mp h8
                  try simp (disch := omega) only [tn_n, bI_0, bI_1, Classical.not_not, ti_iv, ti_ivn, ti_n, ti_0, os_si, os_sj, va_up, upd, Nat.reduceEqDiff, reduceIte] at h8
                  conv => whnf
                  refine ⟨fun h9 => ?_, fun h9 => ?_⟩
                  · have h9 := (cc_ne _ _).mp h9
                    try simp (disch := omega) only [tn_n, bI_0, bI_1, Classical.not_not, ti_iv, ti_ivn, ti_n, ti_0, os_si, os_sj, va_up, upd, Nat.reduceEqDiff, reduceIte] at h9
                    conv => whnf
                    refine ⟨fun h10 => ?_, fun h10 => ?_⟩
                    · have h10 := (cc_ne _ _).mp h10
                      try simp (disch := omega) only [tn_n, bI_0, bI_1, Classical.not_not, ti_iv, ti_ivn, ti_n, ti_0, os_si, os_sj, va_up, upd, Nat.reduceEqDiff, reduceIte] at h10
                      conv => whnf
                      refine hcl0 _ _ _ _ ((m_isInB _ _ _ _).use (by decide) (fun rs11 τs11 s11 => ?_))
                      obtain ⟨rfl, rfl⟩ := s11
                      conv => whnf
                      refine ⟨fun h12 => ?_, fun h12 => ?_⟩
                      · have h12 := (cc_eq _ _).mp h12
                        try simp (disch := omega) only [tn_n, bI_0, bI_1, Classical.not_not, ti_iv, ti_ivn, ti_n, ti_0, os_si, os_sj, va_up, upd, Nat.reduceEqDiff, reduceIte] at h12
                        conv => whnf
                        refine hZ0 _ _ ?_
                        first
                          | (exfalso; omega)
                          | (refine ⟨?_, by first | exact Or.inl rfl | exact Or.inr hk⟩
                             unfold ansLook
                             (repeat (first | rw [if_pos (by omega)] | rw [if_neg (by omega)]))
                             first
                               | rfl
                               | (rw [hk.1]; rfl))
                      · have h12 := (nc_eq _ _).mp h12
                        try simp (disch := omega) only [tn_n, bI_0, bI_1, Classical.not_not, ti_iv, ti_ivn, ti_n, ti_0, os_si, os_sj, va_up, upd, Nat.reduceEqDiff, reduceIte] at h12
                        conv => whnf
                        refine pm_gd (gI (by first | omega | ((try simp (disch := omega) only [tn_n, ti_iv, ti_ivn, ti_n, ti_0, bI_0, bI_1, Classical.not_not, os_si, os_sj, va_up, upd, Nat.reduceEqDiff, reduceIte]); (try dsimp only); omega) | (have hq := ti_sub (a := a1) (b := pm_iv 20 0) (by rw [ti_iv (by decide)]; omega) (by rw [ti_iv (by decide)]; omega); rw [ti_iv (by decide)] at hq; (try dsimp only); omega)) (by first | omega | ((try simp (disch := omega) only [tn_n, ti_iv, ti_ivn, ti_n, ti_0, bI_0, bI_1, Classical.not_not, os_si, os_sj, va_up, upd, Nat.reduceEqDiff, reduceIte]); (try dsimp only); omega) | (have hq := ti_sub (a := a1) (b := pm_iv 20 0) (by rw [ti_iv (by decide)]; omega) (by rw [ti_iv (by decide)]; omega); rw [ti_iv (by decide)] at hq; (try dsimp only); omega))) ?_
                        conv => whnf
                        refine hZ0 _ _ ?_
                        first
                          | (exfalso; omega)
                          | (refine ⟨?_, by first | exact Or.inl rfl | exact Or.inr hk⟩
                             unfold ansLook
                             (repeat (first | rw [if_pos (by omega)] | rw [if_neg (by omega)]))
                             first
                               | rfl
                               | (rw [hk.1]; rfl))
                    · have h10 := (nc_ne _ _).mp h10
                      try simp (disch := omega) only [tn_n, bI_0, bI_1, Classical.not_not, ti_iv, ti_ivn, ti_n, ti_0, os_si, os_sj, va_up, upd, Nat.reduceEqDiff, reduceIte] at h10
                      conv => whnf
                      refine hZ0 _ _ ?_
                      first
                        | (exfalso; omega)
                        | (refine ⟨?_, by first | exact Or.inl rfl | exact Or.inr hk⟩
                           unfold ansLook
                           (repeat (first | rw [if_pos (by omega)] | rw [if_neg (by omega)]))
                           first
                             | rfl
                             | (rw [hk.1]; rfl))
                  · have h9 := (nc_ne _ _).mp h9
                    try simp (disch := omega) only [tn_n, bI_0, bI_1, Classical.not_not, ti_iv, ti_ivn, ti_n, ti_0, os_si, os_sj, va_up, upd, Nat.reduceEqDiff, reduceIte] at h9
                    conv => whnf
                    refine hZ0 _ _ ?_
                    first
                      | (exfalso; omega)
                      | (refine ⟨?_, by first | exact Or.inl rfl | exact Or.inr hk⟩
                         unfold ansLook
                         (repeat (first | rw [if_pos (by omega)] | rw [if_neg (by omega)]))
                         first
                           | rfl
                           | (rw [hk.1]; rfl))
                · have h8 := (nc_ne _ _).mp h8
                  try simp (disch := omega) only [tn_n, bI_0, bI_1, Classical.not_not, ti_iv, ti_ivn, ti_n, ti_0, os_si, os_sj, va_up, upd, Nat.reduceEqDiff, reduceIte] at h8
                  conv => whnf
                  refine hZ0 _ _ ?_
                  first
                    | (exfalso; omega)
                    | (refine ⟨?_, by first | exact Or.inl rfl | exact Or.inr hk⟩
                       unfold ansLook
                       (repeat (first | rw [if_pos (by omega)] | rw [if_neg (by omega)]))
                       first
                         | rfl
                         | (rw [hk.1]; rfl))
              · have h7 := (nc_ne _ _).mp h7
                try simp (disch := omega) only [tn_n, bI_0, bI_1, Classical.not_not, ti_iv, ti_ivn, ti_n, ti_0, os_si, os_sj, va_up, upd, Nat.reduceEqDiff, reduceIte] at h7
                conv => whnf
                refine hZ0 _ _ ?_
                first
                  | (exfalso; omega)
                  | (refine ⟨?_, by first | exact Or.inl rfl | exact Or.inr hk⟩
                     unfold ansLook
                     (repeat (first | rw [if_pos (by omega)] | rw [if_neg (by omega)]))
                     first
                       | rfl
                       | (rw [hk.1]; rfl))
            · have h6 := (nc_ne _ _).mp h6
              try simp (disch := omega) only [tn_n, bI_0, bI_1, Classical.not_not, ti_iv, ti_ivn, ti_n, ti_0, os_si, os_sj, va_up, upd, Nat.reduceEqDiff, reduceIte] at h6
              conv => whnf
              refine hZ0 _ _ ?_
              first
                | (exfalso; omega)
                | (refine ⟨?_, by first | exact Or.inl rfl | exact Or.inr hk⟩
                   unfold ansLook
                   (repeat (first | rw [if_pos (by omega)] | rw [if_neg (by omega)]))
                   first
                     | rfl
                     | (rw [hk.1]; rfl))
          · have h5 := (nc_ne _ _).mp h5
            try simp (disch := omega) only [tn_n, bI_0, bI_1, Classical.not_not, ti_iv, ti_ivn, ti_n, ti_0, os_si, os_sj, va_up, upd, Nat.reduceEqDiff, reduceIte] at h5
            conv => whnf
            refine hZ0 _ _ ?_
            first
              | (exfalso; omega)
              | (refine ⟨?_, by first | exact Or.inl rfl | exact Or.inr hk⟩
                 unfold ansLook
                 (repeat (first | rw [if_pos (by omega)] | rw [if_neg (by omega)]))
                 first
                   | rfl
                   | (rw [hk.1]; rfl))
        · have h4 := (nc_ne _ _).mp h4
          try simp (disch := omega) only [tn_n, bI_0, bI_1, Classical.not_not, ti_iv, ti_ivn, ti_n, ti_0, os_si, os_sj, va_up, upd, Nat.reduceEqDiff, reduceIte] at h4
          conv => whnf
          refine hcl0 _ _ _ _ ((m_takes _ _ nd hd (by exact hL)).use (by decide) (fun rs13 τs13 s13 => ?_))
          obtain ⟨rfl, hk⟩ := s13
          conv => whnf
          refine hZ0 _ _ ?_
          first
            | (exfalso; omega)
            | (refine ⟨?_, by first | exact Or.inl rfl | exact Or.inr hk⟩
               unfold ansLook
               (repeat (first | rw [if_pos (by omega)] | rw [if_neg (by omega)]))
               first
                 | rfl
                 | (rw [hk.1]; rfl))
      · have h3 := (nc_ne _ _).mp h3
        try simp (disch := omega) only [tn_n, bI_0, bI_1, Classical.not_not, ti_iv, ti_ivn, ti_n, ti_0, os_si, os_sj, va_up, upd, Nat.reduceEqDiff, reduceIte] at h3
        conv => whnf
        refine hZ0 _ _ ?_
        first
          | (exfalso; omega)
          | (refine ⟨?_, by first | exact Or.inl rfl | exact Or.inr hk⟩
             unfold ansLook
             (repeat (first | rw [if_pos (by omega)] | rw [if_neg (by omega)]))
             first
               | rfl
               | (rw [hk.1]; rfl))
    · have h2 := (nc_ne _ _).mp h2
      try simp (disch := omega) only [tn_n, bI_0, bI_1, Classical.not_not, ti_iv, ti_ivn, ti_n, ti_0, os_si, os_sj, va_up, upd, Nat.reduceEqDiff, reduceIte] at h2
      conv => whnf
      refine hZ0 _ _ ?_
      first
        | (exfalso; omega)
        | (refine ⟨?_, by first | exact Or.inl rfl | exact Or.inr hk⟩
           unfold ansLook
           (repeat (first | rw [if_pos (by omega)] | rw [if_neg (by omega)]))
           first
             | rfl
             | (rw [hk.1]; rfl))
  · have h1 := (nc_ne _ _).mp h1
    try simp (disch := omega) only [tn_n, bI_0, bI_1, Classical.not_not, ti_iv, ti_ivn, ti_n, ti_0, os_si, os_sj, va_up, upd, Nat.reduceEqDiff, reduceIte] at h1
    conv => whnf
    refine hZ0 _ _ ?_
    first
      | (exfalso; omega)
      | (refine ⟨?_, by first | exact Or.inl rfl | exact Or.inr hk⟩
         unfold ansLook
         (repeat (first | rw [if_pos (by omega)] | rw [if_neg (by omega)]))
         first
           | rfl
           | (rw [hk.1]; rfl))
theorem sumF_sel (ho dr : Nat → Int32) : ∀ n, sumF (opF ho) n = nI (selL (opP ho dr (-1)) n).length
  | 0 => rfl
  | n + 1 => by
    show sumF (opF ho) n + opF ho n = _
    rw [sumF_sel ho dr n]
    unfold opF
    by_cases h : (ho n).toInt = 0
    · rw [if_pos h, selL_t (decide_eq_true ⟨h, Or.inl rfl⟩), List.length_append]; exact nI_1 _
    · rw [if_neg h, selL_f (fun z => h (of_decide_eq_true z).1)]; exact Int32.add_zero _
theorem TKR_Inv {l : List Nat} {σ τ : pm_S} (h : Inv σ) (hT : TKR 93 55 125 l σ τ) : Inv τ := by
  obtain ⟨e1, e2, e3, e4, e5⟩ := hT
  refine Inv_same h (fun q hq => e4 q (by unfold keepQ at hq; omega) (by unfold keepQ at hq; omega)) ⟨by rw [e4 31 (by decide) (by decide)], by rw [e4 31 (by decide) (by decide)]⟩ (fun j hj => e3 j ?_)
  rintro rfl; revert hj; decide
theorem p_look (a1 : Int32) : Pair Inv 152 246 [.int a1] := by
  intro σ hI
  have hI0 := hI
  obtain ⟨⟨ns, np, nd, nl, nw, sun, r1, r2, r3, r4, r5, r6, r7⟩, ⟨t, rr⟩, ri⟩ := hI
  have d1 : (σ.1 13 0).toInt = nd := by rw [r5.1]; exact nI_toInt (by have := r5.2.2.1; omega)
  have d2 : (σ.1 93 11).toInt = nd := by rw [r5.2.1]; exact nI_toInt (by have := r5.2.2.1; omega)
  have d3 := r5.2.2.1
  have g0 : (σ.1 1 3).toInt = 0 → σ.1 1 3 = 0 := fun h => i_eq.mpr h
  have g1 : ¬ (σ.1 1 3).toInt = 0 → σ.1 1 3 = 1 := fun h => by
    rcases r1.2.2.2.2.2.2 with q | q
    · rw [q] at h; exact absurd rfl h
    · exact q
  refine (x_look σ a1 nd d3 r5.1 g0 g1).use (by decide) (fun r τ h => ?_)
  obtain ⟨rfl, rfl⟩ := h
  refine ⟨_, rfl, (m_look σ a1 nd d3 r5.2.1).use (by decide) (fun r' τ' h' => ?_)⟩
  obtain ⟨rfl, h'⟩ := h'
  refine ⟨?_, ?_⟩
  · obtain ⟨c1, c2, c3, c4, c5, c6, c7⟩ := r1
    rw [sumF_sel (σ.1 20) (σ.1 14), selL_congr (P := opP (σ.1 20) (σ.1 14) (-1)) (P' := opP (σ.1 107) (σ.1 101) (-1)) (fun j hj => by
      obtain ⟨q1, q2, q3, q4, q5, q6, q7, -⟩ := r5.2.2.2 j hj
      unfold opP; rw [q1, q7]), r3.1, r3.2.1, r4.1, r4.2.1, r5.1, r5.2.1, c1, c2, c3, c5, c6, r6.1, r6.2.1, r7.1, r7.2.1]
    unfold ansLook
    by_cases hw : 20 ≤ a1.toInt ∧ a1.toInt ≤ 23
    · have hq := ti_sub (a := a1) (b := nI 20) (by rw [nI_toInt (by decide)]; omega) (by rw [nI_toInt (by decide)]; omega)
      rw [nI_toInt (by decide)] at hq
      obtain ⟨v, v1, v2⟩ := nI_rng (a := a1 - nI 20) (n := 4) (by omega) (by omega) (by omega)
      rw [v2, tn_n (by omega), r2.1 v v1]
    · rw [if_neg hw, if_neg hw]
  · rcases h' with rfl | h'
    · exact Inv_told hI0
    · exact TKR_Inv (Inv_told hI0) h'
