/-! of, look -/
set_option maxRecDepth 20000 in
theorem m_of (σ : pm_S) (a1 a2 : Int32) (nd : Nat) (hd : nd ≤ 30) (hL : σ.1 93 11 = nI nd) (g : (σ.1 93 5).toInt ≤ 10) : Sp 214 4 [.ref 93, .int a1, .int a2] σ (fun r τ => r = some (.int (ansOf (σ.1 93 5).toInt (σ.1 96) (σ.1 97) (σ.1 98) (σ.1 99) (fun j => σ.1 100 j - nI 1) (sumF (owF (σ.1 107) (σ.1 101) (σ.1 103) a1) nd) (sumF (owF (σ.1 107) (σ.1 102) (σ.1 103) a1) nd) a1 a2)) ∧ τ = (va_up σ.1 93 (upd (σ.1 93) 0 0), σ.2)) := by
  refine S_Model_of [] 400 rfl (fun R0 cl0 Z0 hR0 hcl0 hZ0 => ?_)
  conv => whnf
  refine hcl0 _ _ _ _ ((m_isOne _ _).use (by decide) (fun rs1 τs1 s1 => ?_))
  obtain ⟨rfl, rfl⟩ := s1
  conv => whnf
  refine ⟨fun h2 => ?_, fun h2 => ?_⟩
  · have h2 := (cc_ne _ _).mp h2
    try simp (disch := omega) only [tn_n, bI_0, bI_1, Classical.not_not, ti_iv, ti_ivn, ti_n, ti_0, os_si, os_sj, va_up, upd, Nat.reduceEqDiff, reduceIte] at h2
    conv => whnf
    refine ⟨fun h3 => ?_, fun h3 => ?_⟩
    · have h3 := (cc_ne _ _).mp h3
      try simp (disch := omega) only [tn_n, bI_0, bI_1, Classical.not_not, ti_iv, ti_ivn, ti_n, ti_0, os_si, os_sj, va_up, upd, Nat.reduceEqDiff, reduceIte] at h3
      conv => whnf
      refine ⟨fun h4 => ?_, fun h4 => ?_⟩
      · have h4 := (cc_ne _ _).mp h4
        try simp (disch := omega) only [tn_n, bI_0, bI_1, Classical.not_not, ti_iv, ti_ivn, ti_n, ti_0, os_si, os_sj, va_up, upd, Nat.reduceEqDiff, reduceIte] at h4
        conv => whnf
        refine ⟨fun h5 => ?_, fun h5 => ?_⟩
        · have h5 := (cc_ne _ _).mp h5
          try simp (disch := omega) only [tn_n, bI_0, bI_1, Classical.not_not, ti_iv, ti_ivn, ti_n, ti_0, os_si, os_sj, va_up, upd, Nat.reduceEqDiff, reduceIte] at h5
          conv => whnf
          refine ⟨fun h6 => ?_, fun h6 => ?_⟩
          · have h6 := (cc_ne _ _).mp h6
            try simp (disch := omega) only [tn_n, bI_0, bI_1, Classical.not_not, ti_iv, ti_ivn, ti_n, ti_0, os_si, os_sj, va_up, upd, Nat.reduceEqDiff, reduceIte] at h6
            conv => whnf
            refine ⟨fun h7 => ?_, fun h7 => ?_⟩
            · have h7 := (cc_ne _ _).mp h7
              try simp (disch := omega) only [tn_n, bI_0, bI_1, Classical.not_not, ti_iv, ti_ivn, ti_n, ti_0, os_si, os_sj, va_up, upd, Nat.reduceEqDiff, reduceIte] at h7
              conv => whnf
              refine ⟨fun h8 => ?_, fun h8 => ?_⟩
              · have h8 := (cc_eq _ _).mp h8
                try simp (disch := omega) only [tn_n, bI_0, bI_1, Classical.not_not, ti_iv, ti_ivn, ti_n, ti_0, os_si, os_sj, va_up, upd, Nat.reduceEqDiff, reduceIte] at h8
                conv => whnf
                refine ⟨fun h9 => ?_, fun h9 => ?_⟩
                · have h9 := (cc_ne _ _).mp h9
                  try simp (disch := omega) only [tn_n, bI_0, bI_1, Classical.not_not, ti_iv, ti_ivn, ti_n, ti_0, os_si, os_sj, va_up, upd, Nat.reduceEqDiff, reduceIte] at h9
                  conv => whnf
                  refine hcl0 _ _ _ _ ((m_sumTo _ _ nd hd (by exact hL)).use (by decide) (fun rs10 τs10 s10 => ?_))
                  obtain ⟨rfl, rfl⟩ := s10
                  conv => whnf
                  refine hZ0 _ _ ?_
                  first
                    | (exfalso; omega)
                    | (refine ⟨?_, rfl⟩
                       unfold ansOf
                       (repeat (first | rw [if_pos (by omega)] | rw [if_neg (by omega)]))
                       try rfl)
                · have h9 := (nc_ne _ _).mp h9
                  try simp (disch := omega) only [tn_n, bI_0, bI_1, Classical.not_not, ti_iv, ti_ivn, ti_n, ti_0, os_si, os_sj, va_up, upd, Nat.reduceEqDiff, reduceIte] at h9
                  conv => whnf
                  refine hcl0 _ _ _ _ ((m_sumBy _ _ nd hd (by exact hL)).use (by decide) (fun rs11 τs11 s11 => ?_))
                  obtain ⟨rfl, rfl⟩ := s11
                  conv => whnf
                  refine hZ0 _ _ ?_
                  first
                    | (exfalso; omega)
                    | (refine ⟨?_, rfl⟩
                       unfold ansOf
                       (repeat (first | rw [if_pos (by omega)] | rw [if_neg (by omega)]))
                       try rfl)
              · have h8 := (nc_eq _ _).mp h8
                try simp (disch := omega) only [tn_n, bI_0, bI_1, Classical.not_not, ti_iv, ti_ivn, ti_n, ti_0, os_si, os_sj, va_up, upd, Nat.reduceEqDiff, reduceIte] at h8
                conv => whnf
                refine ⟨fun h12 => ?_, fun h12 => ?_⟩
                · have h12 := (cc_ne _ _).mp h12
                  try simp (disch := omega) only [tn_n, bI_0, bI_1, Classical.not_not, ti_iv, ti_ivn, ti_n, ti_0, os_si, os_sj, va_up, upd, Nat.reduceEqDiff, reduceIte] at h12
                  conv => whnf
                  refine hZ0 _ _ ?_
                  first
                    | (exfalso; omega)
                    | (refine ⟨?_, rfl⟩
                       unfold ansOf
                       (repeat (first | rw [if_pos (by omega)] | rw [if_neg (by omega)]))
                       try rfl)
                · have h12 := (nc_ne _ _).mp h12
                  try simp (disch := omega) only [tn_n, bI_0, bI_1, Classical.not_not, ti_iv, ti_ivn, ti_n, ti_0, os_si, os_sj, va_up, upd, Nat.reduceEqDiff, reduceIte] at h12
                  conv => whnf
                  refine ⟨fun h13 => ?_, fun h13 => ?_⟩
                  · have h13 := (cc_ne _ _).mp h13
                    try simp (disch := omega) only [tn_n, bI_0, bI_1, Classical.not_not, ti_iv, ti_ivn, ti_n, ti_0, os_si, os_sj, va_up, upd, Nat.reduceEqDiff, reduceIte] at h13
                    conv => whnf
                    refine hcl0 _ _ _ _ ((m_sumTo _ _ nd hd (by exact hL)).use (by decide) (fun rs14 τs14 s14 => ?_))
                    obtain ⟨rfl, rfl⟩ := s14
                    conv => whnf
                    refine hZ0 _ _ ?_
                    first
                      | (exfalso; omega)
                      | (refine ⟨?_, rfl⟩
                         unfold ansOf
                         (repeat (first | rw [if_pos (by omega)] | rw [if_neg (by omega)]))
                         try rfl)
                  · have h13 := (nc_ne _ _).mp h13
                    try simp (disch := omega) only [tn_n, bI_0, bI_1, Classical.not_not, ti_iv, ti_ivn, ti_n, ti_0, os_si, os_sj, va_up, upd, Nat.reduceEqDiff, reduceIte] at h13
                    conv => whnf
                    refine hcl0 _ _ _ _ ((m_sumBy _ _ nd hd (by exact hL)).use (by decide) (fun rs15 τs15 s15 => ?_))
                    obtain ⟨rfl, rfl⟩ := s15
                    conv => whnf
                    refine hZ0 _ _ ?_
                    first
                      | (exfalso; omega)
                      | (refine ⟨?_, rfl⟩
                         unfold ansOf
                         (repeat (first | rw [if_pos (by omega)] | rw [if_neg (by omega)]))
                         try rfl)
            · have h7 := (nc_ne _ _).mp h7
              try simp (disch := omega) only [tn_n, bI_0, bI_1, Classical.not_not, ti_iv, ti_ivn, ti_n, ti_0, os_si, os_sj, va_up, upd, Nat.reduceEqDiff, reduceIte] at h7
              conv => whnf
              refine pm_gd (gI (by first | omega | ((try simp (disch := omega) only [tn_n, ti_iv, ti_ivn, ti_n, ti_0, os_si, os_sj, va_up, upd, Nat.reduceEqDiff, reduceIte]); omega)) (by first | omega | ((try simp (disch := omega) only [tn_n, ti_iv, ti_ivn, ti_n, ti_0, os_si, os_sj, va_up, upd, Nat.reduceEqDiff, reduceIte]); omega))) ?_
              conv => whnf
              refine hZ0 _ _ ?_
              first
                | (exfalso; omega)
                | (refine ⟨?_, rfl⟩
                   unfold ansOf
                   (repeat (first | rw [if_pos (by omega)] | rw [if_neg (by omega)]))
                   try rfl)
          · have h6 := (nc_ne _ _).mp h6
            try simp (disch := omega) only [tn_n, bI_0, bI_1, Classical.not_not, ti_iv, ti_ivn, ti_n, ti_0, os_si, os_sj, va_up, upd, Nat.reduceEqDiff, reduceIte] at h6
            conv => whnf
            refine pm_gd (gI (by first | omega | ((try simp (disch := omega) only [tn_n, ti_iv, ti_ivn, ti_n, ti_0, os_si, os_sj, va_up, upd, Nat.reduceEqDiff, reduceIte]); omega)) (by first | omega | ((try simp (disch := omega) only [tn_n, ti_iv, ti_ivn, ti_n, ti_0, os_si, os_sj, va_up, upd, Nat.reduceEqDiff, reduceIte]); omega))) ?_
            conv => whnf
            refine hZ0 _ _ ?_
            first
              | (exfalso; omega)
              | (refine ⟨?_, rfl⟩
                 unfold ansOf
                 (repeat (first | rw [if_pos (by omega)] | rw [if_neg (by omega)]))
                 try rfl)
        · have h5 := (nc_ne _ _).mp h5
          try simp (disch := omega) only [tn_n, bI_0, bI_1, Classical.not_not, ti_iv, ti_ivn, ti_n, ti_0, os_si, os_sj, va_up, upd, Nat.reduceEqDiff, reduceIte] at h5
          conv => whnf
          refine pm_gd (gI (by first | omega | ((try simp (disch := omega) only [tn_n, ti_iv, ti_ivn, ti_n, ti_0, os_si, os_sj, va_up, upd, Nat.reduceEqDiff, reduceIte]); omega)) (by first | omega | ((try simp (disch := omega) only [tn_n, ti_iv, ti_ivn, ti_n, ti_0, os_si, os_sj, va_up, upd, Nat.reduceEqDiff, reduceIte]); omega))) ?_
          conv => whnf
          refine hZ0 _ _ ?_
          first
            | (exfalso; omega)
            | (refine ⟨?_, rfl⟩
               unfold ansOf
               (repeat (first | rw [if_pos (by omega)] | rw [if_neg (by omega)]))
               try rfl)
      · have h4 := (nc_ne _ _).mp h4
        try simp (disch := omega) only [tn_n, bI_0, bI_1, Classical.not_not, ti_iv, ti_ivn, ti_n, ti_0, os_si, os_sj, va_up, upd, Nat.reduceEqDiff, reduceIte] at h4
        conv => whnf
        refine pm_gd (gI (by first | omega | ((try simp (disch := omega) only [tn_n, ti_iv, ti_ivn, ti_n, ti_0, os_si, os_sj, va_up, upd, Nat.reduceEqDiff, reduceIte]); omega)) (by first | omega | ((try simp (disch := omega) only [tn_n, ti_iv, ti_ivn, ti_n, ti_0, os_si, os_sj, va_up, upd, Nat.reduceEqDiff, reduceIte]); omega))) ?_
        conv => whnf
        refine hZ0 _ _ ?_
        first
          | (exfalso; omega)
          | (refine ⟨?_, rfl⟩
             unfold ansOf
             (repeat (first | rw [if_pos (by omega)] | rw [if_neg (by omega)]))
             try rfl)
    · have h3 := (nc_ne _ _).mp h3
      try simp (disch := omega) only [tn_n, bI_0, bI_1, Classical.not_not, ti_iv, ti_ivn, ti_n, ti_0, os_si, os_sj, va_up, upd, Nat.reduceEqDiff, reduceIte] at h3
      conv => whnf
      refine pm_gd (gI (by first | omega | ((try simp (disch := omega) only [tn_n, ti_iv, ti_ivn, ti_n, ti_0, os_si, os_sj, va_up, upd, Nat.reduceEqDiff, reduceIte]); omega)) (by first | omega | ((try simp (disch := omega) only [tn_n, ti_iv, ti_ivn, ti_n, ti_0, os_si, os_sj, va_up, upd, Nat.reduceEqDiff, reduceIte]); omega))) ?_
      conv => whnf
      refine hZ0 _ _ ?_
      first
        | (exfalso; omega)
        | (refine ⟨?_, rfl⟩
           unfold ansOf
           (repeat (first | rw [if_pos (by omega)] | rw [if_neg (by omega)]))
           try rfl)
  · have h2 := (nc_ne _ _).mp h2
    try simp (disch := omega) only [tn_n, bI_0, bI_1, Classical.not_not, ti_iv, ti_ivn, ti_n, ti_0, os_si, os_sj, va_up, upd, Nat.reduceEqDiff, reduceIte] at h2
    conv => whnf
    refine hZ0 _ _ ?_
    first
      | (exfalso; omega)
      | (refine ⟨?_, rfl⟩
         unfold ansOf
         (repeat (first | rw [if_pos (by omega)] | rw [if_neg (by omega)]))
         try rfl)
theorem sumF_congr {f g : Nat → Int32} : ∀ {n : Nat}, (∀ j, j < n → f j = g j) → sumF f n = sumF g n := by
  intro n
  induction n with
  | zero => intro _; rfl
  | succ n ih => intro h; show sumF f n + f n = sumF g n + g n; rw [ih (fun j hj => h j (by omega)), h n (by omega)]
theorem p_of (a1 a2 : Int32) : Pair Inv 141 214 [.int a1, .int a2] := by
  intro σ hI
  have hI0 := hI
  obtain ⟨⟨ns, np, nd, nl, nw, sun, r1, r2, r3, r4, r5, r6, r7⟩, ⟨t, rr⟩, ri⟩ := hI
  have p1 : (σ.1 7 0).toInt = np := by rw [r4.1]; exact nI_toInt (by have := r4.2.2.1; omega)
  have p2 : (σ.1 93 5).toInt = np := by rw [r4.2.1]; exact nI_toInt (by have := r4.2.2.1; omega)
  have p3 := r4.2.2.1
  have d1 : (σ.1 13 0).toInt = nd := by rw [r5.1]; exact nI_toInt (by have := r5.2.2.1; omega)
  have d2 : (σ.1 93 11).toInt = nd := by rw [r5.2.1]; exact nI_toInt (by have := r5.2.2.1; omega)
  have d3 := r5.2.2.1
  refine (x_of σ a1 a2 nd d3 r5.1 (by omega)).use (by decide) (fun r τ h => ?_)
  obtain ⟨rfl, rfl⟩ := h
  refine ⟨_, rfl, (m_of σ a1 a2 nd d3 r5.2.1 (by omega)).use (by decide) (fun r' τ' h' => ?_)⟩
  obtain ⟨rfl, rfl⟩ := h'
  refine ⟨?_, Inv_told hI0⟩
  rw [p1, p2]
  have e1 : sumF (owF (σ.1 20) (σ.1 14) (σ.1 16) a1) nd = sumF (owF (σ.1 107) (σ.1 101) (σ.1 103) a1) nd := sumF_congr (fun j hj => by
    obtain ⟨q1, q2, q3, q4, q5, q6, q7, -⟩ := r5.2.2.2 j hj
    unfold owF; rw [q1, q3, q7])
  have e2 : sumF (owF (σ.1 20) (σ.1 15) (σ.1 16) a1) nd = sumF (owF (σ.1 107) (σ.1 102) (σ.1 103) a1) nd := sumF_congr (fun j hj => by
    obtain ⟨q1, q2, q3, q4, q5, q6, q7, -⟩ := r5.2.2.2 j hj
    unfold owF; rw [q2, q3, q7])
  rw [e1, e2]
  unfold ansOf
  by_cases hp : 0 ≤ a1.toInt ∧ a1.toInt < np
  · obtain ⟨v, v1, rfl⟩ := nI_rng (n := np) hp.1 hp.2 (by omega)
    rw [tn_n (by omega)]
    obtain ⟨q1, q2, q3, q4, q5, -⟩ := r4.2.2.2.1 v v1
    rw [q1, q2, q3, q4, q5]
  · rw [if_pos hp, if_pos hp]
def ansLook (ns np nd op sun mi st nl nw fg : Int32) (se : Nat → Int32) (w : Int32) : Int32 := if w.toInt = 0 then ns else if w.toInt = 1 then np else if w.toInt = 2 then nd else if w.toInt = 3 then op else if w.toInt = 4 then sun else if w.toInt = 5 then mi else if w.toInt = 6 then st else if w.toInt = 7 then nl else if w.toInt = 8 then nw else if w.toInt = 9 then fg else if 20 ≤ w.toInt ∧ w.toInt ≤ 23 then se (w - nI 20).toNatClampNeg else -1
theorem ti_sub {a b : Int32} (h1 : -2147483648 ≤ a.toInt - b.toInt) (h2 : a.toInt - b.toInt < 2147483648) : (a - b).toInt = a.toInt - b.toInt := by
  rw [Int32.toInt_sub]
  exact Int.bmod_eq_of_le (by omega) (by omega)
theorem ti_add {a b : Int32} (h1 : -2147483648 ≤ a.toInt + b.toInt) (h2 : a.toInt + b.toInt < 2147483648) : (a + b).toInt = a.toInt + b.toInt := by
  rw [Int32.toInt_add]
  exact Int.bmod_eq_of_le (by omega) (by omega)
set_option maxRecDepth 20000 in
theorem x_look (σ : pm_S) (a1 : Int32) (nd : Nat) (hd : nd ≤ 30) (hL : σ.1 13 0 = nI nd) (g0 : (σ.1 1 3).toInt = 0 → σ.1 1 3 = 0) (g1 : ¬ (σ.1 1 3).toInt = 0 → σ.1 1 3 = 1) : Sp 152 4 [.ref 0, .int a1] σ (fun r τ => r = some (.int (ansLook (σ.1 3 0) (σ.1 7 0) (σ.1 13 0) (sumF (opF (σ.1 20)) nd) (σ.1 1 1) (σ.1 1 2) (σ.1 1 0) (σ.1 21 0) (σ.1 31 0) (σ.1 1 3) (σ.1 2) a1)) ∧ σ = τ) := by
  refine S_PaidWhereMade_look [] 400 rfl (fun R0 cl0 Z0 hR0 hcl0 hZ0 => ?_)
  conv => whnf
  refine ⟨fun h1 => ?_, fun h1 => ?_⟩
  · have h1 : _ = (0 : Int) := (pm_ofInt (by decide) (by decide)).mp h1
    conv => whnf
    refine hZ0 _ _ ?_
    first
      | (exfalso; omega)
      | (refine ⟨?_, rfl⟩
         unfold ansLook
         (repeat (first | rw [if_pos (by omega)] | rw [if_neg (by omega)]))
         first
           | done
           | rfl
           | (rw [g0 (by omega)]; rfl)
           | (rw [g1 (by omega)]; rfl))
  have h1 : ¬ _ = (0 : Int) := mt (pm_ofInt (by decide) (by decide)).mpr h1
  conv => whnf
  refine ⟨fun h2 => ?_, fun h2 => ?_⟩
  · have h2 : _ = (1 : Int) := (pm_ofInt (by decide) (by decide)).mp h2
    conv => whnf
    refine hZ0 _ _ ?_
    first
      | (exfalso; omega)
      | (refine ⟨?_, rfl⟩
         unfold ansLook
         (repeat (first | rw [if_pos (by omega)] | rw [if_neg (by omega)]))
         first
           | done
           | rfl
           | (rw [g0 (by omega)]; rfl)
           | (rw [g1 (by omega)]; rfl))
  have h2 : ¬ _ = (1 : Int) := mt (pm_ofInt (by decide) (by decide)).mpr h2
  conv => whnf
  refine ⟨fun h3 => ?_, fun h3 => ?_⟩
  · have h3 : _ = (2 : Int) := (pm_ofInt (by decide) (by decide)).mp h3
    conv => whnf
    refine hZ0 _ _ ?_
    first
      | (exfalso; omega)
      | (refine ⟨?_, rfl⟩
         unfold ansLook
         (repeat (first | rw [if_pos (by omega)] | rw [if_neg (by omega)]))
         first
           | done
           | rfl
           | (rw [g0 (by omega)]; rfl)
           | (rw [g1 (by omega)]; rfl))
  have h3 : ¬ _ = (2 : Int) := mt (pm_ofInt (by decide) (by decide)).mpr h3
  conv => whnf
  refine ⟨fun h4 => ?_, fun h4 => ?_⟩
  · have h4 : _ = (3 : Int) := (pm_ofInt (by decide) (by decide)).mp h4
    conv => whnf
    refine hcl0 _ _ _ _ ((x_cnt _ nd hd hL).use (by decide) (fun rs5 τs5 s5 => ?_))
    obtain ⟨rfl, rfl⟩ := s5
    conv => whnf
    refine hZ0 _ _ ?_
    first
      | (exfalso; omega)
      | (refine ⟨?_, rfl⟩
         unfold ansLook
         (repeat (first | rw [if_pos (by omega)] | rw [if_neg (by omega)]))
         first
           | done
           | rfl
           | (rw [g0 (by omega)]; rfl)
           | (rw [g1 (by omega)]; rfl))
  have h4 : ¬ _ = (3 : Int) := mt (pm_ofInt (by decide) (by decide)).mpr h4
  conv => whnf
  refine ⟨fun h6 => ?_, fun h6 => ?_⟩
  · have h6 : _ = (4 : Int) := (pm_ofInt (by decide) (by decide)).mp h6
    conv => whnf
    refine hZ0 _ _ ?_
    first
      | (exfalso; omega)
      | (refine ⟨?_, rfl⟩
         unfold ansLook
         (repeat (first | rw [if_pos (by omega)] | rw [if_neg (by omega)]))
         first
           | done
           | rfl
           | (rw [g0 (by omega)]; rfl)
           | (rw [g1 (by omega)]; rfl))
  have h6 : ¬ _ = (4 : Int) := mt (pm_ofInt (by decide) (by decide)).mpr h6
  conv => whnf
  refine ⟨fun h7 => ?_, fun h7 => ?_⟩
  · have h7 : _ = (5 : Int) := (pm_ofInt (by decide) (by decide)).mp h7
    conv => whnf
    refine hZ0 _ _ ?_
    first
      | (exfalso; omega)
      | (refine ⟨?_, rfl⟩
         unfold ansLook
         (repeat (first | rw [if_pos (by omega)] | rw [if_neg (by omega)]))
         first
           | done
           | rfl
           | (rw [g0 (by omega)]; rfl)
           | (rw [g1 (by omega)]; rfl))
  have h7 : ¬ _ = (5 : Int) := mt (pm_ofInt (by decide) (by decide)).mpr h7
  conv => whnf
  refine ⟨fun h8 => ?_, fun h8 => ?_⟩
  · have h8 : _ = (6 : Int) := (pm_ofInt (by decide) (by decide)).mp h8
    conv => whnf
    refine hZ0 _ _ ?_
    first
      | (exfalso; omega)
      | (refine ⟨?_, rfl⟩
         unfold ansLook
         (repeat (first | rw [if_pos (by omega)] | rw [if_neg (by omega)]))
         first
           | done
           | rfl
           | (rw [g0 (by omega)]; rfl)
           | (rw [g1 (by omega)]; rfl))
  have h8 : ¬ _ = (6 : Int) := mt (pm_ofInt (by decide) (by decide)).mpr h8
  conv => whnf
  refine ⟨fun h9 => ?_, fun h9 => ?_⟩
  · have h9 : _ = (7 : Int) := (pm_ofInt (by decide) (by decide)).mp h9
    conv => whnf
    refine hZ0 _ _ ?_
    first
      | (exfalso; omega)
      | (refine ⟨?_, rfl⟩
         unfold ansLook
         (repeat (first | rw [if_pos (by omega)] | rw [if_neg (by omega)]))
         first
           | done
           | rfl
           | (rw [g0 (by omega)]; rfl)
           | (rw [g1 (by omega)]; rfl))
  have h9 : ¬ _ = (7 : Int) := mt (pm_ofInt (by decide) (by decide)).mpr h9
  conv => whnf
  refine ⟨fun h10 => ?_, fun h10 => ?_⟩
  · have h10 : _ = (8 : Int) := (pm_ofInt (by decide) (by decide)).mp h10
    conv => whnf
    refine hZ0 _ _ ?_
    first
      | (exfalso; omega)
      | (refine ⟨?_, rfl⟩
         unfold ansLook
         (repeat (first | rw [if_pos (by omega)] | rw [if_neg (by omega)]))
         first
           | done
           | rfl
           | (rw [g0 (by omega)]; rfl)
           | (rw [g1 (by omega)]; rfl))
  have h10 : ¬ _ = (8 : Int) := mt (pm_ofInt (by decide) (by decide)).mpr h10
  conv => whnf
  refine ⟨fun h11 => ?_, fun h11 => ?_⟩
  · have h11 : _ = (9 : Int) := (pm_ofInt (by decide) (by decide)).mp h11
    conv => whnf
    refine ⟨fun h12 => ?_, fun h12 => ?_⟩
    · have h12 := (cc_eq _ _).mp h12
      try simp (disch := omega) only [tn_n, bI_0, bI_1, Classical.not_not, ti_iv, ti_ivn, ti_n, ti_0, os_si, os_sj, va_up, upd, Nat.reduceEqDiff, reduceIte] at h12
      conv => whnf
      refine hZ0 _ _ ?_
      first
        | (exfalso; omega)
        | (refine ⟨?_, rfl⟩
           unfold ansLook
           (repeat (first | rw [if_pos (by omega)] | rw [if_neg (by omega)]))
           first
             | done
             | rfl
             | (rw [g0 (by omega)]; rfl)
             | (rw [g1 (by omega)]; rfl))
    · have h12 := (nc_eq _ _).mp h12
      try simp (disch := omega) only [tn_n, bI_0, bI_1, Classical.not_not, ti_iv, ti_ivn, ti_n, ti_0, os_si, os_sj, va_up, upd, Nat.reduceEqDiff, reduceIte] at h12
      conv => whnf
      refine hZ0 _ _ ?_
      first
        | (exfalso; omega)
        | (refine ⟨?_, rfl⟩
           unfold ansLook
           (repeat (first | rw [if_pos (by omega)] | rw [if_neg (by omega)]))
           first
             | done
             | rfl
             | (rw [g0 (by omega)]; rfl)
             | (rw [g1 (by omega)]; rfl))
  have h11 : ¬ _ = (9 : Int) := mt (pm_ofInt (by decide) (by decide)).mpr h11
  conv => whnf
  conv => whnf
  refine hcl0 _ _ _ _ ?_
  refine S_PaidWhereMade_lookAtSetting [] 400 rfl (fun R1 cl1 Z1 hR1 hcl1 hZ1 => ?_)
  conv => whnf
  refine ⟨fun h13 => ?_, fun h13 => ?_⟩
  · have h13 := (cc_lt _ _).mp h13
    try simp (disch := omega) only [tn_n, bI_0, bI_1, Classical.not_not, ti_iv, ti_ivn, ti_n, ti_0, os_si, os_sj, va_up, upd, Nat.reduceEqDiff, reduceIte] at h13
    conv => whnf
    refine hZ1 _ _ ?_
    conv => whnf
    refine hZ0 _ _ ?_
    first
      | (exfalso; omega)
      | (refine ⟨?_, rfl⟩
         unfold ansLook
         (repeat (first | rw [if_pos (by omega)] | rw [if_neg (by omega)]))
         first
           | done
           | rfl
           | (rw [g0 (by omega)]; rfl)
           | (rw [g1 (by omega)]; rfl))
  · have h13 := (nc_lt _ _).mp h13
    try simp (disch := omega) only [tn_n, bI_0, bI_1, Classical.not_not, ti_iv, ti_ivn, ti_n, ti_0, os_si, os_sj, va_up, upd, Nat.reduceEqDiff, reduceIte] at h13
    conv => whnf
    refine ⟨fun h14 => ?_, fun h14 => ?_⟩
    · have h14 := (cc_lt _ _).mp h14
      try simp (disch := omega) only [tn_n, bI_0, bI_1, Classical.not_not, ti_iv, ti_ivn, ti_n, ti_0, os_si, os_sj, va_up, upd, Nat.reduceEqDiff, reduceIte] at h14
      conv => whnf
      refine pm_gd (gI (by first | omega | ((try simp (disch := omega) only [tn_n, ti_iv, ti_ivn, ti_n, ti_0, os_si, os_sj, va_up, upd, Nat.reduceEqDiff, reduceIte]); omega) | (have hq := ti_sub (a := a1) (b := pm_iv 20 0) (by rw [ti_iv (by decide)]; omega) (by rw [ti_iv (by decide)]; omega); rw [ti_iv (by decide)] at hq; (try dsimp only); omega)) (by first | omega | ((try simp (disch := omega) only [tn_n, ti_iv, ti_ivn, ti_n, ti_0, os_si, os_sj, va_up, upd, Nat.reduceEqDiff, reduceIte]); omega) | (have hq := ti_sub (a := a1) (b := pm_iv 20 0) (by rw [ti_iv (by decide)]; omega) (by rw [ti_iv (by decide)]; omega); rw [ti_iv (by decide)] at hq; (try dsimp only); omega))) ?_
      conv => whnf
      refine hZ1 _ _ ?_
      conv => whnf
      refine hZ0 _ _ ?_
      first
        | (exfalso; omega)
        | (refine ⟨?_, rfl⟩
           unfold ansLook
           (repeat (first | rw [if_pos (by omega)] | rw [if_neg (by omega)]))
           first
             | done
             | rfl
             | (rw [g0 (by omega)]; rfl)
             | (rw [g1 (by omega)]; rfl))
    · have h14 := (nc_lt _ _).mp h14
      try simp (disch := omega) only [tn_n, bI_0, bI_1, Classical.not_not, ti_iv, ti_ivn, ti_n, ti_0, os_si, os_sj, va_up, upd, Nat.reduceEqDiff, reduceIte] at h14
      conv => whnf
      refine hZ1 _ _ ?_
      conv => whnf
      refine hZ0 _ _ ?_
      first
        | (exfalso; omega)
        | (refine ⟨?_, rfl⟩
           unfold ansLook
           (repeat (first | rw [if_pos (by omega)] | rw [if_neg (by omega)]))
           first
             | done
             | rfl
             | (rw [g0 (by omega)]; rfl)
             | (rw [g1 (by omega)]; rfl))
