/-! texts: what the tokens are, and what the law's grammar makes of them -/
section TOK
variable (tp : Nat → Int) (n : Nat)
/-- the byte at a place; NONE behind the end -/
def ts_b (p : Nat) : Int := if p < n then tp p else -1
def ts_L (c : Int) : Bool := (decide (97 ≤ c) && decide (c ≤ 122)) || (decide (65 ≤ c) && decide (c ≤ 90))
def ts_D (c : Int) : Bool := decide (48 ≤ c) && decide (c ≤ 57)
def ts_W (c : Int) : Bool := decide (c = 32) || decide (c = 10)
def ts_k (f : Int → Bool) : Nat → Nat → Nat
  | 0, p => p
  | k + 1, p => if f (ts_b tp n p) = true then ts_k f k (p + 1) else p
/-- the first place from p on whose byte isn't of that kind -/
def ts_e (f : Int → Bool) (p : Nat) : Nat := ts_k tp n f (n - p) p
/-- the keyword behind the blank k is what stands from a to b -/
def ts_m (k a b : Nat) : Bool := (List.range (b - a)).all (fun j => decide (wt (k + 1 + j) = tp (a + j))) && decide (wt (k + 1 + (b - a)) = 32)
def ts_wk (a b : Nat) : Nat → Nat → Int
  | 0, _ => -1
  | m + 1, k => if (decide (wt k = 32) && ts_m tp k a b) = true then bl k else ts_wk a b m (k + 1)
/-- the keyword's number, or -1 -/
def ts_w (a b : Nat) : Int := ts_wk tp a b 79 0
def ts_v (a : Nat) : Nat → Int
  | 0 => 0
  | k + 1 => ts_v a k * 10 + tp (a + k) - 48
def ts_s (c : Int) : Int := if c = 59 then -16 else if c = 43 then -17 else if c = 45 then -18 else if c = 42 then -19 else if c = 47 then -20 else if c = 40 then -21 else if c = 41 then -22 else if c = 60 then -23 else if c = 61 then -24 else if c = 62 then -25 else -27
/-- the token that begins at p -/
def ts_t (p : Nat) : Int := if p < n then (if ts_L (tp p) = true then (if ts_w tp p (ts_e tp n ts_L p) = -1 then -27 else -1 - ts_w tp p (ts_e tp n ts_L p)) else if ts_D (tp p) = true then (if ts_e tp n ts_D p - p ≤ 4 then ts_v tp p (ts_e tp n ts_D p - p) else -27) else ts_s (tp p)) else -26
/-- where it ends -/
def ts_n (p : Nat) : Nat := if p < n then (if ts_L (tp p) = true then ts_e tp n ts_L p else if ts_D (tp p) = true then ts_e tp n ts_D p else p + 1) else n
/-- where the j-th begins -/
def ts_P : Nat → Nat
  | 0 => ts_e tp n ts_W 0
  | j + 1 => ts_e tp n ts_W (ts_n tp n (ts_P j))
def ts_T (j : Nat) : Int := ts_t tp n (ts_P tp n j)
def ts_ck : Nat → Nat → Nat
  | 0, j => j
  | k + 1, j => if ts_P tp n j < n then ts_ck k (j + 1) else j
/-- how many tokens ahead of the end -/
def ts_c : Nat := ts_ck tp n n 0
end TOK
section TOKL
variable {tp : Nat → Int} {n : Nat}
theorem ts_e_s {f : Int → Bool} (h : f (-1) = false) (p : Nat) : ts_e tp n f p = if f (ts_b tp n p) = true then ts_e tp n f (p + 1) else p := by
  unfold ts_e
  by_cases c : p < n
  · obtain ⟨k, hk⟩ : ∃ k, n - p = k + 1 := ⟨n - p - 1, by omega⟩
    rw [hk, show n - (p + 1) = k by omega]
    rfl
  · have e : ts_b tp n p = -1 := if_neg c
    rw [e, h, show n - p = 0 by omega]
    rfl
theorem ts_k_le {f : Int → Bool} : ∀ k p, p + k ≤ n → p ≤ ts_k tp n f k p ∧ ts_k tp n f k p ≤ p + k
  | 0, p, _ => ⟨Nat.le_refl _, Nat.le_refl _⟩
  | k + 1, p, h => by
    have ih := ts_k_le (f := f) k (p + 1) (by omega)
    unfold ts_k
    split
    · omega
    · omega
theorem ts_e_le {f : Int → Bool} {p : Nat} (h : p ≤ n) : p ≤ ts_e tp n f p ∧ ts_e tp n f p ≤ n := by
  have := ts_k_le (tp := tp) (n := n) (f := f) (n - p) p (by omega)
  unfold ts_e
  omega
theorem ts_n_le {p : Nat} (h : p ≤ n) : ts_n tp n p ≤ n ∧ (p < n → p < ts_n tp n p) := by
  unfold ts_n
  by_cases c : p < n
  · rw [if_pos c]
    have b : ts_b tp n p = tp p := if_pos c
    split
    · rename_i l
      rw [ts_e_s (by decide), b, if_pos l]
      have := ts_e_le (tp := tp) (n := n) (f := ts_L) (p := p + 1) (by omega)
      omega
    · split
      · rename_i l
        rw [ts_e_s (by decide), b, if_pos l]
        have := ts_e_le (tp := tp) (n := n) (f := ts_D) (p := p + 1) (by omega)
        omega
      · omega
  · rw [if_neg c]
    omega
theorem ts_P_le : ∀ j, ts_P tp n j ≤ n ∧ (ts_P tp n j < n → j ≤ ts_P tp n j)
  | 0 => by
    have := ts_e_le (tp := tp) (n := n) (f := ts_W) (p := 0) (by omega)
    unfold ts_P
    omega
  | j + 1 => by
    have ih := ts_P_le j
    have a := ts_n_le (tp := tp) ih.1
    have b := ts_e_le (tp := tp) (n := n) (f := ts_W) (p := ts_n tp n (ts_P tp n j)) a.1
    unfold ts_P
    refine ⟨b.2, fun h => ?_⟩
    have c : ts_P tp n j < n := by
      rcases Nat.lt_or_ge (ts_P tp n j) n with x | x
      · exact x
      · have e : ts_n tp n (ts_P tp n j) = n := if_neg (by omega)
        omega
    have := ih.2 c
    have := a.2 c
    omega
theorem ts_P_end {j : Nat} (h : ts_P tp n j = n) : ts_P tp n (j + 1) = n := by
  have a : ts_n tp n (ts_P tp n j) = n := if_neg (by omega)
  have b := ts_e_le (tp := tp) (n := n) (f := ts_W) (p := n) (Nat.le_refl n)
  show ts_e tp n ts_W (ts_n tp n (ts_P tp n j)) = n
  rw [a]
  omega
theorem ts_ck_ok : ∀ k j, j + k = n → (∀ i, i < j → ts_P tp n i < n) → ts_ck tp n k j ≤ n ∧ ts_P tp n (ts_ck tp n k j) = n ∧ ∀ i, i < ts_ck tp n k j → ts_P tp n i < n
  | 0, j, h, hj => by
    have q := ts_P_le (tp := tp) (n := n) j
    refine ⟨by show j ≤ n; omega, ?_, hj⟩
    show ts_P tp n j = n
    rcases Nat.lt_or_ge (ts_P tp n j) n with x | x
    · have := q.2 x
      omega
    · omega
  | k + 1, j, h, hj => by
    unfold ts_ck
    by_cases c : ts_P tp n j < n
    · rw [if_pos c]
      exact ts_ck_ok k (j + 1) (by omega) (fun i hi => by
        by_cases e : i = j
        · rw [e]
          exact c
        · exact hj i (by omega))
    · rw [if_neg c]
      have q := ts_P_le (tp := tp) (n := n) j
      exact ⟨by omega, by omega, hj⟩
theorem ts_c_ok : ts_c tp n ≤ n ∧ ts_P tp n (ts_c tp n) = n ∧ ∀ i, i < ts_c tp n → ts_P tp n i < n := ts_ck_ok n 0 (by omega) (fun i hi => absurd hi (Nat.not_lt_zero i))
theorem bl_r : ∀ k, k < 79 → wt k = 32 → 0 ≤ bl k ∧ bl k ≤ 14 := bl_14
theorem ts_wk_r {a b : Nat} : ∀ m k, m + k = 79 → (-1) ≤ ts_wk tp a b m k ∧ ts_wk tp a b m k ≤ 14
  | 0, k, _ => by
    show (-1 : Int) ≤ -1 ∧ (-1 : Int) ≤ 14
    decide
  | m + 1, k, h => by
    unfold ts_wk
    split
    · rename_i c
      rw [Bool.and_eq_true] at c
      have := bl_14 k (by omega) (of_decide_eq_true c.1)
      omega
    · exact ts_wk_r m (k + 1) (by omega)
theorem ts_v_r {a : Nat} : ∀ k, k ≤ 4 → (∀ j, j < k → 48 ≤ tp (a + j) ∧ tp (a + j) ≤ 57) → 0 ≤ ts_v tp a k ∧ ts_v tp a k < 10 ^ k
  | 0, _, _ => by
    show (0 : Int) ≤ 0 ∧ (0 : Int) < 10 ^ 0
    decide
  | k + 1, h, hd => by
    have ih := ts_v_r k (by omega) (fun j hj => hd j (by omega))
    have d := hd k (by omega)
    unfold ts_v
    rw [Int.pow_succ]
    omega
theorem ts_k_in {f : Int → Bool} : ∀ k p j, p ≤ j → j < ts_k tp n f k p → f (ts_b tp n j) = true
  | 0, p, j, h1, h2 => by
    have : j < p := h2
    omega
  | k + 1, p, j, h1, h2 => by
    unfold ts_k at h2
    split at h2
    · rename_i c
      by_cases e : j = p
      · rw [e]
        exact c
      · exact ts_k_in k (p + 1) j (by omega) h2
    · omega
theorem ts_e_in {f : Int → Bool} {p j : Nat} (h1 : p ≤ j) (h2 : j < ts_e tp n f p) : f (ts_b tp n j) = true := ts_k_in _ p j h1 h2
theorem ts_s_r (c : Int) : ts_s c = -27 ∨ ((-25) ≤ ts_s c ∧ ts_s c ≤ -16) := by
  unfold ts_s
  repeat' split
  all_goals omega
/-- what tokens can be -/
theorem ts_t_r {p : Nat} (hp : p ≤ n) : (-27) ≤ ts_t tp n p ∧ ts_t tp n p ≤ 9999 ∧ (ts_t tp n p = -26 ↔ p = n) := by
  unfold ts_t
  by_cases c : p < n
  · rw [if_pos c]
    split
    · have r := ts_wk_r (tp := tp) (a := p) (b := ts_e tp n ts_L p) 79 0 rfl
      have e : ts_w tp p (ts_e tp n ts_L p) = ts_wk tp p (ts_e tp n ts_L p) 79 0 := rfl
      split
      · omega
      · omega
    · split
      · have l := ts_e_le (tp := tp) (n := n) (f := ts_D) hp
        split
        · rename_i h4
          have q := ts_v_r (tp := tp) (a := p) (ts_e tp n ts_D p - p) h4 (fun j hj => by
            have h := ts_e_in (tp := tp) (n := n) (f := ts_D) (p := p) (j := p + j) (by omega) (by omega)
            have e : ts_b tp n (p + j) = tp (p + j) := if_pos (by omega)
            rw [e] at h
            unfold ts_D at h
            rw [Bool.and_eq_true, decide_eq_true_eq, decide_eq_true_eq] at h
            exact h)
          have m : (10 : Int) ^ (ts_e tp n ts_D p - p) ≤ 10 ^ 4 := by
            rcases (show ts_e tp n ts_D p - p = 0 ∨ ts_e tp n ts_D p - p = 1 ∨ ts_e tp n ts_D p - p = 2 ∨ ts_e tp n ts_D p - p = 3 ∨ ts_e tp n ts_D p - p = 4 by omega) with e | e | e | e | e <;> rw [e] <;> decide
          have m2 : (10 : Int) ^ 4 = 10000 := by decide
          omega
        · omega
      · have := ts_s_r (tp p)
        omega
  · rw [if_neg c]
    omega
theorem ts_T_r (j : Nat) : (-27) ≤ ts_T tp n j ∧ ts_T tp n j ≤ 9999 := by
  have := ts_t_r (tp := tp) (n := n) (ts_P_le (tp := tp) (n := n) j).1
  exact ⟨this.1, this.2.1⟩
theorem ts_T_end (j : Nat) : ts_T tp n j = -26 ↔ ts_P tp n j = n := (ts_t_r (ts_P_le (tp := tp) (n := n) j).1).2.2
end TOKL
/-! the grammar: a fault (0: none) and at which token, or which comes next and what it comes to -/
abbrev gyR : Type := Nat × Nat × List Int
def ps_U (T : Nat → Int) (i : Nat) : gyR := if 0 ≤ T i ∨ ((-15) ≤ T i ∧ T i ≤ -7) then (0, i + 1, [T i]) else (1, i, [])
abbrev ps_h (h : Int) : List Int := if h = -27 then [] else [h]
/-- the rest of a side; h: what waits -/
def ps_S (T : Nat → Int) : Nat → Int → Nat → gyR
  | 0, _, i => (9, i, [])
  | k + 1, h, i => if (-20) ≤ T i ∧ T i ≤ -17 then
      (if T i = -17 ∨ T i = -18 then
        (if (ps_U T (i + 1)).1 = 0 then ((ps_S T k (T i) (ps_U T (i + 1)).2.1).1, (ps_S T k (T i) (ps_U T (i + 1)).2.1).2.1, ps_h h ++ ((ps_U T (i + 1)).2.2 ++ (ps_S T k (T i) (ps_U T (i + 1)).2.1).2.2)) else ps_U T (i + 1))
      else if T i = -20 ∧ T (i + 1) < 0 then (1, i + 1, [])
      else if T i = -20 ∧ T (i + 1) = 0 then (2, i + 1, [])
      else (if (ps_U T (i + 1)).1 = 0 then ((ps_S T k h (ps_U T (i + 1)).2.1).1, (ps_S T k h (ps_U T (i + 1)).2.1).2.1, (ps_U T (i + 1)).2.2 ++ (T i :: (ps_S T k h (ps_U T (i + 1)).2.1).2.2)) else ps_U T (i + 1)))
    else (0, i, ps_h h)
/-- a side -/
def ps_E (T : Nat → Int) (k i : Nat) : gyR := if (ps_U T i).1 = 0 then ((ps_S T k (-27) (ps_U T i).2.1).1, (ps_S T k (-27) (ps_U T i).2.1).2.1, (ps_U T i).2.2 ++ (ps_S T k (-27) (ps_U T i).2.1).2.2) else ps_U T i
/-- a comparison -/
def ps_M (T : Nat → Int) (k i : Nat) : gyR := if (ps_E T k i).1 = 0 then
    (if (-25) ≤ T (ps_E T k i).2.1 ∧ T (ps_E T k i).2.1 ≤ -23 then
      (if (ps_E T k ((ps_E T k i).2.1 + 1)).1 = 0 then (0, (ps_E T k ((ps_E T k i).2.1 + 1)).2.1, (ps_E T k i).2.2 ++ ((ps_E T k ((ps_E T k i).2.1 + 1)).2.2 ++ [T (ps_E T k i).2.1])) else ((ps_E T k ((ps_E T k i).2.1 + 1)).1, (ps_E T k ((ps_E T k i).2.1 + 1)).2.1, []))
    else (1, (ps_E T k i).2.1, []))
  else ps_E T k i
/-- mode 0: a condition C; mode 1: what follows a condition (w: an or waits); o: how many are open -/
def ps_G (T : Nat → Int) (k : Nat) : Nat → Nat → Nat → Nat → Nat → gyR
  | 0, _, _, _, i => (9, i, [])
  | f + 1, 0, o, _, i => if T i = -6 then
      (if 8 ≤ o then (3, i, []) else if (ps_G T k f 0 (o + 1) 0 (i + 1)).1 = 0 then (0, (ps_G T k f 0 (o + 1) 0 (i + 1)).2.1, (ps_G T k f 0 (o + 1) 0 (i + 1)).2.2 ++ [-6]) else ps_G T k f 0 (o + 1) 0 (i + 1))
    else if T i = -21 then
      (if 8 ≤ o then (3, i, []) else if (ps_G T k f 0 (o + 1) 0 (i + 1)).1 = 0 then
        (if (ps_G T k f 1 (o + 1) 0 (ps_G T k f 0 (o + 1) 0 (i + 1)).2.1).1 = 0 then
          (if T (ps_G T k f 1 (o + 1) 0 (ps_G T k f 0 (o + 1) 0 (i + 1)).2.1).2.1 = -22 then (0, (ps_G T k f 1 (o + 1) 0 (ps_G T k f 0 (o + 1) 0 (i + 1)).2.1).2.1 + 1, (ps_G T k f 0 (o + 1) 0 (i + 1)).2.2 ++ (ps_G T k f 1 (o + 1) 0 (ps_G T k f 0 (o + 1) 0 (i + 1)).2.1).2.2) else (1, (ps_G T k f 1 (o + 1) 0 (ps_G T k f 0 (o + 1) 0 (i + 1)).2.1).2.1, []))
        else ps_G T k f 1 (o + 1) 0 (ps_G T k f 0 (o + 1) 0 (i + 1)).2.1)
      else ps_G T k f 0 (o + 1) 0 (i + 1))
    else ps_M T k i
  | f + 1, _ + 1, o, w, i => if T i = -4 then
      (if (ps_G T k f 0 o 0 (i + 1)).1 = 0 then ((ps_G T k f 1 o 1 (ps_G T k f 0 o 0 (i + 1)).2.1).1, (ps_G T k f 1 o 1 (ps_G T k f 0 o 0 (i + 1)).2.1).2.1, (if w = 1 then [-4] else []) ++ ((ps_G T k f 0 o 0 (i + 1)).2.2 ++ (ps_G T k f 1 o 1 (ps_G T k f 0 o 0 (i + 1)).2.1).2.2)) else ps_G T k f 0 o 0 (i + 1))
    else if T i = -5 then
      (if (ps_G T k f 0 o 0 (i + 1)).1 = 0 then ((ps_G T k f 1 o w (ps_G T k f 0 o 0 (i + 1)).2.1).1, (ps_G T k f 1 o w (ps_G T k f 0 o 0 (i + 1)).2.1).2.1, (ps_G T k f 0 o 0 (i + 1)).2.2 ++ (-5 :: (ps_G T k f 1 o w (ps_G T k f 0 o 0 (i + 1)).2.1).2.2)) else ps_G T k f 0 o 0 (i + 1))
    else (0, i, if w = 1 then [-4] else [])
/-- a whole condition -/
def ps_A (T : Nat → Int) (i : Nat) : gyR := if (ps_G T 500 1500 0 0 0 i).1 = 0 then ((ps_G T 500 1500 1 0 0 (ps_G T 500 1500 0 0 0 i).2.1).1, (ps_G T 500 1500 1 0 0 (ps_G T 500 1500 0 0 0 i).2.1).2.1, (ps_G T 500 1500 0 0 0 i).2.2 ++ (ps_G T 500 1500 1 0 0 (ps_G T 500 1500 0 0 0 i).2.1).2.2) else ps_G T 500 1500 0 0 0 i
/-- a line's condition and its sign behind: the line begins at i -/
def ps_B (T : Nat → Int) (i : Nat) : gyR := if T (i + 1) = -3 then ps_A T (i + 2) else (0, i + 1, [1])
def ps_L (T : Nat → Int) (i : Nat) : gyR := if (ps_B T i).1 = 0 then (if T (ps_B T i).2.1 = -16 then (0, (ps_B T i).2.1 + 1, (ps_B T i).2.2 ++ [T i]) else (1, (ps_B T i).2.1, [])) else ps_B T i
/-- the lines from the m-th on: a fault and where, or how many in all; the codes of the lines -/
def ps_X (T : Nat → Int) : Nat → Nat → Nat → Nat × Nat × List (List Int)
  | 0, m, i => (9, i, [])
  | g + 1, m, i => if T i = -1 ∨ T i = -2 then
      (if 16 ≤ m then (3, i, []) else if (ps_L T i).1 = 0 then ((ps_X T g (m + 1) (ps_L T i).2.1).1, (ps_X T g (m + 1) (ps_L T i).2.1).2.1, (ps_L T i).2.2 :: (ps_X T g (m + 1) (ps_L T i).2.1).2.2) else ((ps_L T i).1, (ps_L T i).2.1, []))
    else if T i = -26 then (0, m, []) else (1, i, [])
