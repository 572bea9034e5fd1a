/-! the law's steps over a row of what waits -/
def two (op x y : Int32) : Int32 := if op = 2 then x + y else if op = 3 then x - y else if op = 4 then x * y else if op = 5 then x / y else if op = 6 then bI (x.toInt < y.toInt) else if op = 7 then bI (x.toInt = y.toInt) else if op = 8 then bI (y.toInt < x.toInt) else if op = 10 then x * y else bI (0 < (x + y).toInt)
def stepL (f : Nat → Int32) (op arg : Int32) (st : List Int32) : List Int32 :=
  if op = 0 then arg :: st else if op = 1 then f arg.toNatClampNeg :: st
  else match st with
    | [] => []
    | y :: r => if op = 9 then (1 - y) :: r else match r with
      | [] => []
      | x :: r2 => two op x y :: r2
def evL (f op arg : Nat → Int32) (k : Nat) : Nat → List Int32
  | 0 => []
  | n + 1 => stepL f (op (k + n)) (arg (k + n)) (evL f op arg k n)
def BT : List Nat → List Int32 → Prop
  | [], [] => True
  | b :: e, x :: st => ((b = 1 → x = 0 ∨ x = 1) ∧ (b = 2 → x ≠ 0)) ∧ BT e st
  | _, _ => False
theorem BT_len : ∀ {e : List Nat} {st : List Int32}, BT e st → e.length = st.length
  | [], [], _ => rfl
  | b :: e, x :: st, h => by simp [BT_len h.2]
  | [], _ :: _, h => h.elim
  | _ :: _, [], h => h.elim
theorem bI_or {p : Prop} [Decidable p] : bI p = 0 ∨ bI p = 1 := bI_01
/-- what a step may be -/
theorem tyS_cases {op arg : Int32} {e e' : List Nat} (h : tyS op arg e = some e') :
    (op = 0 ∧ 0 ≤ arg ∧ e.length < 40 ∧ e' = (if arg = 0 then 0 else 2) :: e) ∨ (op = 1 ∧ 0 ≤ arg ∧ arg ≤ 8 ∧ e.length < 40 ∧ e' = 0 :: e) ∨ (op = 9 ∧ ∃ r, e = 1 :: r ∧ e' = 1 :: r) ∨ ((op = 10 ∨ op = 11) ∧ ∃ r, e = 1 :: 1 :: r ∧ e' = 1 :: r) ∨ (op = 5 ∧ ∃ b r, b ≠ 1 ∧ e = 2 :: b :: r ∧ e' = 0 :: r) ∨ ((op = 2 ∨ op = 3 ∨ op = 4) ∧ ∃ a b r, a ≠ 1 ∧ b ≠ 1 ∧ e = a :: b :: r ∧ e' = 0 :: r) ∨ ((op = 6 ∨ op = 7 ∨ op = 8) ∧ ∃ a b r, a ≠ 1 ∧ b ≠ 1 ∧ e = a :: b :: r ∧ e' = 1 :: r) := by
  unfold tyS at h
  split at h
  · rename_i h0
    split at h
    · rename_i h1; cases h; exact Or.inl ⟨h0, h1.1, h1.2, rfl⟩
    · cases h
  · split at h
    · rename_i h0
      split at h
      · rename_i h1; cases h; exact Or.inr (Or.inl ⟨h0, h1.1, h1.2.1, h1.2.2, rfl⟩)
      · cases h
    · split at h
      · cases h
      · rename_i a e1
        split at h
        · rename_i h9
          split at h
          · rename_i ha; cases h; subst ha; exact Or.inr (Or.inr (Or.inl ⟨h9, _, rfl, rfl⟩))
          · cases h
        · split at h
          · cases h
          · rename_i b e2
            split at h
            · rename_i h10
              split at h
              · rename_i hab; cases h; obtain ⟨rfl, rfl⟩ := hab; exact Or.inr (Or.inr (Or.inr (Or.inl ⟨h10, _, rfl, rfl⟩)))
              · cases h
            · split at h
              · rename_i h5
                split at h
                · rename_i hab; cases h; obtain ⟨rfl, hb⟩ := hab; exact Or.inr (Or.inr (Or.inr (Or.inr (Or.inl ⟨h5, _, _, hb, rfl, rfl⟩))))
                · cases h
              · split at h
                · rename_i h2
                  split at h
                  · rename_i hab; cases h; exact Or.inr (Or.inr (Or.inr (Or.inr (Or.inr (Or.inl ⟨h2, _, _, _, hab.1, hab.2, rfl, rfl⟩)))))
                  · cases h
                · split at h
                  · rename_i h6
                    split at h
                    · rename_i hab; cases h; exact Or.inr (Or.inr (Or.inr (Or.inr (Or.inr (Or.inr ⟨h6, _, _, _, hab.1, hab.2, rfl, rfl⟩)))))
                    · cases h
                  · cases h
theorem BT_1 {b : Nat} {e : List Nat} {st : List Int32} (h : BT (b :: e) st) : ∃ x r, st = x :: r ∧ (b = 1 → x = 0 ∨ x = 1) ∧ (b = 2 → x ≠ 0) ∧ BT e r := by
  cases st with
  | nil => exact h.elim
  | cons x r => exact ⟨x, r, rfl, h.1.1, h.1.2, h.2⟩
theorem two_bool {op x y : Int32} (h : op = 6 ∨ op = 7 ∨ op = 8) : two op x y = 0 ∨ two op x y = 1 := by
  unfold two
  rcases h with rfl | rfl | rfl
  · exact bI_01
  · exact bI_01
  · exact bI_01
theorem two_bool2 {op x y : Int32} (h : op = 10 ∨ op = 11) (hx : x = 0 ∨ x = 1) (hy : y = 0 ∨ y = 1) : two op x y = 0 ∨ two op x y = 1 := by
  unfold two
  rcases h with rfl | rfl
  · rcases hx with rfl | rfl <;> rcases hy with rfl | rfl <;> decide
  · exact bI_01
theorem BT_step {f : Nat → Int32} {op arg : Int32} {e e' : List Nat} {st : List Int32} (h : tyS op arg e = some e') (hb : BT e st) : BT e' (stepL f op arg st) := by
  rcases tyS_cases h with ⟨rfl, h1, h2, rfl⟩ | ⟨rfl, h1, h2, h3, rfl⟩ | ⟨rfl, r, rfl, rfl⟩ | ⟨ho, r, rfl, rfl⟩ | ⟨rfl, b, r, h1, rfl, rfl⟩ | ⟨ho, a, b, r, h1, h2, rfl, rfl⟩ | ⟨ho, a, b, r, h1, h2, rfl, rfl⟩
  · refine ⟨⟨fun h3 => ?_, fun h3 => ?_⟩, hb⟩
    · split at h3 <;> cases h3
    · split at h3
      · cases h3
      · assumption
  · exact ⟨⟨fun h => (by cases h), fun h => (by cases h)⟩, hb⟩
  · obtain ⟨x, s, rfl, k1, k2, k3⟩ := BT_1 hb
    refine ⟨⟨fun _ => ?_, fun h => by cases h⟩, k3⟩
    rcases k1 rfl with rfl | rfl
    · exact Or.inr (by decide)
    · exact Or.inl (by decide)
  · obtain ⟨x, s, rfl, k1, k2, k3⟩ := BT_1 hb
    obtain ⟨y, s, rfl, k4, k5, k6⟩ := BT_1 k3
    have e1 : stepL f op arg (x :: y :: s) = two op y x :: s := by
      rcases ho with rfl | rfl <;> rfl
    rw [e1]
    exact ⟨⟨fun _ => two_bool2 ho (k4 rfl) (k1 rfl), fun h => by cases h⟩, k6⟩
  · obtain ⟨x, s, rfl, k1, k2, k3⟩ := BT_1 hb
    obtain ⟨y, s, rfl, k4, k5, k6⟩ := BT_1 k3
    exact ⟨⟨fun h => (by cases h), fun h => by cases h⟩, k6⟩
  · obtain ⟨x, s, rfl, k1, k2, k3⟩ := BT_1 hb
    obtain ⟨y, s, rfl, k4, k5, k6⟩ := BT_1 k3
    have e1 : stepL f op arg (x :: y :: s) = two op y x :: s := by
      rcases ho with rfl | rfl | rfl <;> rfl
    rw [e1]
    exact ⟨⟨fun h => (by cases h), fun h => by cases h⟩, k6⟩
  · obtain ⟨x, s, rfl, k1, k2, k3⟩ := BT_1 hb
    obtain ⟨y, s, rfl, k4, k5, k6⟩ := BT_1 k3
    have e1 : stepL f op arg (x :: y :: s) = two op y x :: s := by
      rcases ho with rfl | rfl | rfl <;> rfl
    rw [e1]
    exact ⟨⟨fun _ => two_bool ho, fun h => by cases h⟩, k6⟩
theorem Rrun_succ {op arg : Nat → Int32} {k n : Nat} {e : List Nat} (h : Rrun op arg k (n + 1) = some e) : ∃ e0, Rrun op arg k n = some e0 ∧ tyS (op (k + n)) (arg (k + n)) e0 = some e := by
  have h : (Rrun op arg k n).bind (tyS (op (k + n)) (arg (k + n))) = some e := h
  cases hq : Rrun op arg k n with
  | none => rw [hq] at h; cases h
  | some e0 => rw [hq] at h; exact ⟨e0, rfl, h⟩
theorem Rrun_le {op arg : Nat → Int32} {k : Nat} {e : List Nat} : ∀ {n : Nat}, Rrun op arg k n = some e → ∀ m, m ≤ n → ∃ e0, Rrun op arg k m = some e0
  | 0, h, m, hm => by
    obtain rfl : m = 0 := by omega
    exact ⟨_, h⟩
  | n + 1, h, m, hm => by
    by_cases q : m = n + 1
    · subst q; exact ⟨_, h⟩
    · obtain ⟨e0, h0, -⟩ := Rrun_succ h
      exact Rrun_le h0 m (by omega)
theorem ev_BT {f op arg : Nat → Int32} {k : Nat} : ∀ {n : Nat} {e : List Nat}, Rrun op arg k n = some e → BT e (evL f op arg k n)
  | 0, e, h => by cases h; trivial
  | n + 1, e, h => by
    obtain ⟨e0, h0, h1⟩ := Rrun_succ h
    exact BT_step h1 (ev_BT h0)
theorem tyS_len {op arg : Int32} {e e' : List Nat} (h : tyS op arg e = some e') (hl : e.length ≤ 40) : e'.length ≤ 40 := by
  rcases tyS_cases h with ⟨rfl, h1, h2, rfl⟩ | ⟨rfl, h1, h2, h3, rfl⟩ | ⟨rfl, r, rfl, rfl⟩ | ⟨ho, r, rfl, rfl⟩ | ⟨rfl, b, r, h1, rfl, rfl⟩ | ⟨ho, a, b, r, h1, h2, rfl, rfl⟩ | ⟨ho, a, b, r, h1, h2, rfl, rfl⟩ <;> simp only [List.length_cons] at * <;> omega
theorem Rrun_len {op arg : Nat → Int32} {k : Nat} : ∀ {n : Nat} {e : List Nat}, Rrun op arg k n = some e → e.length ≤ 40
  | 0, e, h => by cases h; exact Nat.zero_le _
  | n + 1, e, h => by
    obtain ⟨e0, h0, h1⟩ := Rrun_succ h
    exact tyS_len h1 (Rrun_len h0)
/-- a row holds what waits, the last on top -/
def RS (row : Nat → Int32) : List Int32 → Prop
  | [] => True
  | x :: st => row st.length = x ∧ RS row st
theorem RS_upd {row : Nat → Int32} {i : Nat} {v : Int32} : ∀ {st : List Int32}, st.length ≤ i → RS row st → RS (upd row i v) st
  | [], _, _ => trivial
  | x :: st, hi, h => by
    have hi : st.length + 1 ≤ i := hi
    refine ⟨?_, RS_upd (by omega) h.2⟩
    unfold upd
    rw [if_neg (by omega)]
    exact h.1
theorem RS_push {row : Nat → Int32} {v : Int32} {st : List Int32} (h : RS row st) : RS (upd row st.length v) (v :: st) := ⟨by simp [upd], RS_upd (Nat.le_refl _) h⟩
/-! the class's law: what waits on its stack -/
def LwS (σ0 σ : pm_S) (st : List Int32) : Prop := σ.1 31 2 = nI st.length ∧ RS (σ.1 33) st ∧ st.length ≤ 40 ∧ (∀ j, j ≠ 2 → σ.1 31 j = σ0.1 31 j) ∧ (∀ q, q ≠ 31 → q ≠ 33 → σ.1 q = σ0.1 q) ∧ σ.2 = σ0.2
set_option maxRecDepth 20000 in
theorem x_push (σ : pm_S) {σ0 : pm_S} {st : List Int32} (hT : LwS σ0 σ st) (hl : st.length < 40) (v : Int32) : Sp 20 1 [.ref 31, .int v] σ (fun r τ => r = none ∧ LwS σ0 τ (v :: st)) := by
  have kt := hT.1
  refine S_Law_push [] 400 rfl (fun R0 cl0 Z0 hR0 hcl0 hZ0 => ?_)
  conv => whnf
  refine ⟨fun h1 => ?_, fun h1 => ?_⟩
  · have h1 := (cc_lt _ _).mp h1
    try simp (disch := omega) only [kt, tn_n, bI_0, bI_1, Classical.not_not, ti_iv, ti_ivn, ti_n, ti_0, os_si, os_sj, va_up, upd, Nat.reduceEqDiff, reduceIte] at h1
    conv => whnf
    refine hZ0 _ _ ?_
    first
      | (exfalso; omega)
      | (refine ⟨rfl, ?_, ?_, ?_, fun j hj => ?_, fun q q1 q2 => ?_, ?_⟩
         · simp (disch := omega) [os_si, va_up, upd, kt, nI_iv1]
         · simp (disch := omega) [os_si, va_up, kt, tn_n]
           exact RS_push hT.2.1
         · exact hl
         · simp [os_si, va_up, upd, hj]; exact hT.2.2.2.1 j hj
         · simp [os_si, va_up, q1, q2]; exact hT.2.2.2.2.1 q q1 q2
         · exact hT.2.2.2.2.2)
  · have h1 := (nc_lt _ _).mp h1
    try simp (disch := omega) only [kt, tn_n, bI_0, bI_1, Classical.not_not, ti_iv, ti_ivn, ti_n, ti_0, os_si, os_sj, va_up, upd, Nat.reduceEqDiff, reduceIte] at h1
    conv => whnf
    refine ⟨fun h2 => ?_, fun h2 => ?_⟩
    · have h2 := (cc_ge _ _).mp h2
      try simp (disch := omega) only [kt, tn_n, bI_0, bI_1, Classical.not_not, ti_iv, ti_ivn, ti_n, ti_0, os_si, os_sj, va_up, upd, Nat.reduceEqDiff, reduceIte] at h2
      conv => whnf
      refine hZ0 _ _ ?_
      first
        | (exfalso; omega)
        | (refine ⟨rfl, ?_, ?_, ?_, fun j hj => ?_, fun q q1 q2 => ?_, ?_⟩
           · simp (disch := omega) [os_si, va_up, upd, kt, nI_iv1]
           · simp (disch := omega) [os_si, va_up, kt, tn_n]
             exact RS_push hT.2.1
           · exact hl
           · simp [os_si, va_up, upd, hj]; exact hT.2.2.2.1 j hj
           · simp [os_si, va_up, q1, q2]; exact hT.2.2.2.2.1 q q1 q2
           · exact hT.2.2.2.2.2)
    · have h2 := (nc_ge _ _).mp h2
      try simp (disch := omega) only [kt, tn_n, bI_0, bI_1, Classical.not_not, ti_iv, ti_ivn, ti_n, ti_0, os_si, os_sj, va_up, upd, Nat.reduceEqDiff, reduceIte] at h2
      conv => whnf
      refine pm_gd (gI (by first | omega | ((try simp (disch := omega) only [kt, tn_n, iv_n, nI_mul, nI_add, nI_sub, nI_iv1, ti_iv, ti_ivn, ti_n, ti_0, bI_0, bI_1, Classical.not_not, os_si, os_sj, va_up, upd, Nat.reduceEqDiff, reduceIte]); (try dsimp only); omega)) (by first | omega | ((try simp (disch := omega) only [kt, tn_n, iv_n, nI_mul, nI_add, nI_sub, nI_iv1, ti_iv, ti_ivn, ti_n, ti_0, bI_0, bI_1, Classical.not_not, os_si, os_sj, va_up, upd, Nat.reduceEqDiff, reduceIte]); (try dsimp only); omega))) ?_
      conv => whnf
      refine hZ0 _ _ ?_
      first
        | (exfalso; omega)
        | (refine ⟨rfl, ?_, ?_, ?_, fun j hj => ?_, fun q q1 q2 => ?_, ?_⟩
           · simp (disch := omega) [os_si, va_up, upd, kt, nI_iv1]
           · simp (disch := omega) [os_si, va_up, kt, tn_n]
             exact RS_push hT.2.1
           · exact hl
           · simp [os_si, va_up, upd, hj]; exact hT.2.2.2.1 j hj
           · simp [os_si, va_up, q1, q2]; exact hT.2.2.2.2.1 q q1 q2
           · exact hT.2.2.2.2.2)
set_option maxRecDepth 20000 in
theorem x_pop (σ : pm_S) {σ0 : pm_S} {x : Int32} {st : List Int32} (hT : LwS σ0 σ (x :: st)) : Sp 21 1 [.ref 31] σ (fun r τ => r = some (.int x) ∧ LwS σ0 τ st) := by
  have kt : σ.1 31 2 = nI (st.length + 1) := hT.1
  have hl : st.length + 1 ≤ 40 := hT.2.2.1
  have hm : nI (st.length + 1) - pm_iv 1 0 = nI st.length := nI_pred _
  refine S_Law_pop [] 400 rfl (fun R0 cl0 Z0 hR0 hcl0 hZ0 => ?_)
  conv => whnf
  refine ⟨fun h1 => ?_, fun h1 => ?_⟩
  · have h1 := (cc_le _ _).mp h1
    try simp (disch := omega) only [kt, tn_n, bI_0, bI_1, Classical.not_not, ti_iv, ti_ivn, ti_n, ti_0, os_si, os_sj, va_up, upd, Nat.reduceEqDiff, reduceIte] at h1
    conv => whnf
    refine hZ0 _ _ ?_
    first
      | (exfalso; omega)
      | (refine ⟨?_, ?_, ?_, ?_, fun j hj => ?_, fun q q1 q2 => ?_, ?_⟩
         · simp (disch := omega) [os_si, va_up, upd, kt, hm, tn_n]
           exact hT.2.1.1
         · simp (disch := omega) [os_si, va_up, upd, kt, hm]
         · simp (disch := omega) [os_si, va_up]
           exact hT.2.1.2
         · omega
         · simp [os_si, va_up, upd, hj]; exact hT.2.2.2.1 j hj
         · simp [os_si, va_up, q1, q2]; exact hT.2.2.2.2.1 q q1 q2
         · exact hT.2.2.2.2.2)
  · have h1 := (nc_le _ _).mp h1
    try simp (disch := omega) only [kt, tn_n, bI_0, bI_1, Classical.not_not, ti_iv, ti_ivn, ti_n, ti_0, os_si, os_sj, va_up, upd, Nat.reduceEqDiff, reduceIte] at h1
    conv => whnf
    refine ⟨fun h2 => ?_, fun h2 => ?_⟩
    · have h2 := (cc_le _ _).mp h2
      try simp (disch := omega) only [kt, tn_n, bI_0, bI_1, Classical.not_not, ti_iv, ti_ivn, ti_n, ti_0, os_si, os_sj, va_up, upd, Nat.reduceEqDiff, reduceIte] at h2
      conv => whnf
      refine pm_gd (gI (by first | omega | ((try simp (disch := omega) only [kt, hm, tn_n, iv_n, nI_mul, nI_add, nI_sub, nI_iv1, ti_iv, ti_ivn, ti_n, ti_0, bI_0, bI_1, Classical.not_not, os_si, os_sj, va_up, upd, Nat.reduceEqDiff, reduceIte]); (try dsimp only); omega)) (by first | omega | ((try simp (disch := omega) only [kt, hm, tn_n, iv_n, nI_mul, nI_add, nI_sub, nI_iv1, ti_iv, ti_ivn, ti_n, ti_0, bI_0, bI_1, Classical.not_not, os_si, os_sj, va_up, upd, Nat.reduceEqDiff, reduceIte]); (try dsimp only); omega))) ?_
      conv => whnf
      refine hZ0 _ _ ?_
      first
        | (exfalso; omega)
        | (refine ⟨?_, ?_, ?_, ?_, fun j hj => ?_, fun q q1 q2 => ?_, ?_⟩
           · simp (disch := omega) [os_si, va_up, upd, kt, hm, tn_n]
             exact hT.2.1.1
           · simp (disch := omega) [os_si, va_up, upd, kt, hm]
           · simp (disch := omega) [os_si, va_up]
             exact hT.2.1.2
           · omega
           · simp [os_si, va_up, upd, hj]; exact hT.2.2.2.1 j hj
           · simp [os_si, va_up, q1, q2]; exact hT.2.2.2.2.1 q q1 q2
           · exact hT.2.2.2.2.2)
    · have h2 := (nc_le _ _).mp h2
      try simp (disch := omega) only [kt, tn_n, bI_0, bI_1, Classical.not_not, ti_iv, ti_ivn, ti_n, ti_0, os_si, os_sj, va_up, upd, Nat.reduceEqDiff, reduceIte] at h2
      conv => whnf
      refine hZ0 _ _ ?_
      first
        | (exfalso; omega)
        | (refine ⟨?_, ?_, ?_, ?_, fun j hj => ?_, fun q q1 q2 => ?_, ?_⟩
           · simp (disch := omega) [os_si, va_up, upd, kt, hm, tn_n]
             exact hT.2.1.1
           · simp (disch := omega) [os_si, va_up, upd, kt, hm]
           · simp (disch := omega) [os_si, va_up]
             exact hT.2.1.2
           · omega
           · simp [os_si, va_up, upd, hj]; exact hT.2.2.2.1 j hj
           · simp [os_si, va_up, q1, q2]; exact hT.2.2.2.2.1 q q1 q2
           · exact hT.2.2.2.2.2)
def joinedF (w l r : Int32) : Int32 := if w.toInt = -4 then l ||| r else if w.toInt = -5 then l &&& r else if w.toInt = -17 then l + r else if w.toInt = -18 then l - r else if w.toInt = -19 then l * r else if w.toInt = -20 then (if r.toInt = 0 then 0 else l / r) else if w.toInt = -23 then bI (l.toInt < r.toInt) else if w.toInt = -24 then bI (l.toInt = r.toInt) else bI (r.toInt < l.toInt)
set_option maxRecDepth 20000 in
theorem x_joined (σ : pm_S) (w a b : Int32) : Sp 18 1 [.int w, .int a, .int b] σ (fun r τ => r = some (.int (joinedF w a b)) ∧ σ = τ) := by
  refine S_Law_joined [] 400 rfl (fun R0 cl0 Z0 hR0 hcl0 hZ0 => ?_)
  conv => whnf
  refine ⟨fun h1 => ?_, fun h1 => ?_⟩
  · have h1 : _ = (-24 : Int) := (pm_ofInt (by decide) (by decide)).mp h1
    conv => whnf
    refine ⟨fun h2 => ?_, fun h2 => ?_⟩
    · have h2 := (cc_ne _ _).mp h2
      try simp (disch := omega) only [tn_n, bI_0, bI_1, Classical.not_not, ti_iv, ti_ivn, ti_n, ti_0, os_si, os_sj, va_up, upd, Nat.reduceEqDiff, reduceIte] at h2
      conv => whnf
      refine hZ0 _ _ ?_
      refine ⟨?_, rfl⟩
      unfold joinedF
      (repeat (first | rw [if_pos (by omega)] | rw [if_neg (by omega)]))
      first
        | done
        | rfl
        | exact congrArg (fun z => some (Value.int z)) (bI_t (by omega)).symm
        | exact congrArg (fun z => some (Value.int z)) (bI_f (by omega)).symm
    · have h2 := (nc_ne _ _).mp h2
      try simp (disch := omega) only [tn_n, bI_0, bI_1, Classical.not_not, ti_iv, ti_ivn, ti_n, ti_0, os_si, os_sj, va_up, upd, Nat.reduceEqDiff, reduceIte] at h2
      conv => whnf
      refine hZ0 _ _ ?_
      refine ⟨?_, rfl⟩
      unfold joinedF
      (repeat (first | rw [if_pos (by omega)] | rw [if_neg (by omega)]))
      first
        | done
        | rfl
        | exact congrArg (fun z => some (Value.int z)) (bI_t (by omega)).symm
        | exact congrArg (fun z => some (Value.int z)) (bI_f (by omega)).symm
  have h1 : ¬ _ = (-24 : Int) := mt (pm_ofInt (by decide) (by decide)).mpr h1
  conv => whnf
  refine ⟨fun h3 => ?_, fun h3 => ?_⟩
  · have h3 : _ = (-23 : Int) := (pm_ofInt (by decide) (by decide)).mp h3
    conv => whnf
    refine ⟨fun h4 => ?_, fun h4 => ?_⟩
    · have h4 := (cc_ge _ _).mp h4
      try simp (disch := omega) only [tn_n, bI_0, bI_1, Classical.not_not, ti_iv, ti_ivn, ti_n, ti_0, os_si, os_sj, va_up, upd, Nat.reduceEqDiff, reduceIte] at h4
      conv => whnf
      refine hZ0 _ _ ?_
      refine ⟨?_, rfl⟩
      unfold joinedF
      (repeat (first | rw [if_pos (by omega)] | rw [if_neg (by omega)]))
      first
        | done
        | rfl
        | exact congrArg (fun z => some (Value.int z)) (bI_t (by omega)).symm
        | exact congrArg (fun z => some (Value.int z)) (bI_f (by omega)).symm
    · have h4 := (nc_ge _ _).mp h4
      try simp (disch := omega) only [tn_n, bI_0, bI_1, Classical.not_not, ti_iv, ti_ivn, ti_n, ti_0, os_si, os_sj, va_up, upd, Nat.reduceEqDiff, reduceIte] at h4
      conv => whnf
      refine hZ0 _ _ ?_
      refine ⟨?_, rfl⟩
      unfold joinedF
      (repeat (first | rw [if_pos (by omega)] | rw [if_neg (by omega)]))
      first
        | done
        | rfl
        | exact congrArg (fun z => some (Value.int z)) (bI_t (by omega)).symm
        | exact congrArg (fun z => some (Value.int z)) (bI_f (by omega)).symm
  have h3 : ¬ _ = (-23 : Int) := mt (pm_ofInt (by decide) (by decide)).mpr h3
  conv => whnf
  refine ⟨fun h5 => ?_, fun h5 => ?_⟩
  · have h5 : _ = (-22 : Int) := (pm_ofInt (by decide) (by decide)).mp h5
    conv => whnf
    refine ⟨fun h6 => ?_, fun h6 => ?_⟩
    · have h6 := (cc_le _ _).mp h6
      try simp (disch := omega) only [tn_n, bI_0, bI_1, Classical.not_not, ti_iv, ti_ivn, ti_n, ti_0, os_si, os_sj, va_up, upd, Nat.reduceEqDiff, reduceIte] at h6
      conv => whnf
      refine hZ0 _ _ ?_
      refine ⟨?_, rfl⟩
      unfold joinedF
      (repeat (first | rw [if_pos (by omega)] | rw [if_neg (by omega)]))
      first
        | done
        | rfl
        | exact congrArg (fun z => some (Value.int z)) (bI_t (by omega)).symm
        | exact congrArg (fun z => some (Value.int z)) (bI_f (by omega)).symm
    · have h6 := (nc_le _ _).mp h6
      try simp (disch := omega) only [tn_n, bI_0, bI_1, Classical.not_not, ti_iv, ti_ivn, ti_n, ti_0, os_si, os_sj, va_up, upd, Nat.reduceEqDiff, reduceIte] at h6
      conv => whnf
      refine hZ0 _ _ ?_
      refine ⟨?_, rfl⟩
      unfold joinedF
      (repeat (first | rw [if_pos (by omega)] | rw [if_neg (by omega)]))
      first
        | done
        | rfl
        | exact congrArg (fun z => some (Value.int z)) (bI_t (by omega)).symm
        | exact congrArg (fun z => some (Value.int z)) (bI_f (by omega)).symm
  have h5 : ¬ _ = (-22 : Int) := mt (pm_ofInt (by decide) (by decide)).mpr h5
  conv => whnf
  refine ⟨fun h7 => ?_, fun h7 => ?_⟩
  · have h7 : _ = (-21 : Int) := (pm_ofInt (by decide) (by decide)).mp h7
    conv => whnf
    refine ⟨fun h8 => ?_, fun h8 => ?_⟩
    · have h8 := (cc_le _ _).mp h8
      try simp (disch := omega) only [tn_n, bI_0, bI_1, Classical.not_not, ti_iv, ti_ivn, ti_n, ti_0, os_si, os_sj, va_up, upd, Nat.reduceEqDiff, reduceIte] at h8
      conv => whnf
      refine hZ0 _ _ ?_
      refine ⟨?_, rfl⟩
      unfold joinedF
      (repeat (first | rw [if_pos (by omega)] | rw [if_neg (by omega)]))
      first
        | done
        | rfl
        | exact congrArg (fun z => some (Value.int z)) (bI_t (by omega)).symm
        | exact congrArg (fun z => some (Value.int z)) (bI_f (by omega)).symm
    · have h8 := (nc_le _ _).mp h8
      try simp (disch := omega) only [tn_n, bI_0, bI_1, Classical.not_not, ti_iv, ti_ivn, ti_n, ti_0, os_si, os_sj, va_up, upd, Nat.reduceEqDiff, reduceIte] at h8
      conv => whnf
      refine hZ0 _ _ ?_
      refine ⟨?_, rfl⟩
      unfold joinedF
      (repeat (first | rw [if_pos (by omega)] | rw [if_neg (by omega)]))
      first
        | done
        | rfl
        | exact congrArg (fun z => some (Value.int z)) (bI_t (by omega)).symm
        | exact congrArg (fun z => some (Value.int z)) (bI_f (by omega)).symm
  have h7 : ¬ _ = (-21 : Int) := mt (pm_ofInt (by decide) (by decide)).mpr h7
  conv => whnf
  refine ⟨fun h9 => ?_, fun h9 => ?_⟩
  · have h9 : _ = (-20 : Int) := (pm_ofInt (by decide) (by decide)).mp h9
    conv => whnf
    refine ⟨fun h10 => ?_, fun h10 => ?_⟩
    · have h10 := (cc_ne _ _).mp h10
      try simp (disch := omega) only [tn_n, bI_0, bI_1, Classical.not_not, ti_iv, ti_ivn, ti_n, ti_0, os_si, os_sj, va_up, upd, Nat.reduceEqDiff, reduceIte] at h10
      conv => whnf
      refine pm_gd (by intro z; have z := congrArg Int32.toInt z; (try simp (disch := omega) only [ti_0] at z); omega) ?_
      conv => whnf
      refine hZ0 _ _ ?_
      refine ⟨?_, rfl⟩
      unfold joinedF
      (repeat (first | rw [if_pos (by omega)] | rw [if_neg (by omega)]))
      first
        | done
        | rfl
        | exact congrArg (fun z => some (Value.int z)) (bI_t (by omega)).symm
        | exact congrArg (fun z => some (Value.int z)) (bI_f (by omega)).symm
    · have h10 := (nc_ne _ _).mp h10
      try simp (disch := omega) only [tn_n, bI_0, bI_1, Classical.not_not, ti_iv, ti_ivn, ti_n, ti_0, os_si, os_sj, va_up, upd, Nat.reduceEqDiff, reduceIte] at h10
      conv => whnf
      refine hZ0 _ _ ?_
      refine ⟨?_, rfl⟩
      unfold joinedF
      (repeat (first | rw [if_pos (by omega)] | rw [if_neg (by omega)]))
      first
        | done
        | rfl
        | exact congrArg (fun z => some (Value.int z)) (bI_t (by omega)).symm
        | exact congrArg (fun z => some (Value.int z)) (bI_f (by omega)).symm
  have h9 : ¬ _ = (-20 : Int) := mt (pm_ofInt (by decide) (by decide)).mpr h9
  conv => whnf
  refine ⟨fun h11 => ?_, fun h11 => ?_⟩
  · have h11 : _ = (-19 : Int) := (pm_ofInt (by decide) (by decide)).mp h11
    conv => whnf
    refine hZ0 _ _ ?_
    refine ⟨?_, rfl⟩
    unfold joinedF
    (repeat (first | rw [if_pos (by omega)] | rw [if_neg (by omega)]))
    first
      | done
      | rfl
      | exact congrArg (fun z => some (Value.int z)) (bI_t (by omega)).symm
      | exact congrArg (fun z => some (Value.int z)) (bI_f (by omega)).symm
  have h11 : ¬ _ = (-19 : Int) := mt (pm_ofInt (by decide) (by decide)).mpr h11
  conv => whnf
  refine ⟨fun h12 => ?_, fun h12 => ?_⟩
  · have h12 : _ = (-18 : Int) := (pm_ofInt (by decide) (by decide)).mp h12
    conv => whnf
    refine hZ0 _ _ ?_
    refine ⟨?_, rfl⟩
    unfold joinedF
    (repeat (first | rw [if_pos (by omega)] | rw [if_neg (by omega)]))
    first
      | done
      | rfl
      | exact congrArg (fun z => some (Value.int z)) (bI_t (by omega)).symm
      | exact congrArg (fun z => some (Value.int z)) (bI_f (by omega)).symm
  have h12 : ¬ _ = (-18 : Int) := mt (pm_ofInt (by decide) (by decide)).mpr h12
  conv => whnf
  refine ⟨fun h13 => ?_, fun h13 => ?_⟩
  · have h13 : _ = (-17 : Int) := (pm_ofInt (by decide) (by decide)).mp h13
    conv => whnf
    refine hZ0 _ _ ?_
    refine ⟨?_, rfl⟩
    unfold joinedF
    (repeat (first | rw [if_pos (by omega)] | rw [if_neg (by omega)]))
    first
      | done
      | rfl
      | exact congrArg (fun z => some (Value.int z)) (bI_t (by omega)).symm
      | exact congrArg (fun z => some (Value.int z)) (bI_f (by omega)).symm
  have h13 : ¬ _ = (-17 : Int) := mt (pm_ofInt (by decide) (by decide)).mpr h13
  conv => whnf
  refine ⟨fun h14 => ?_, fun h14 => ?_⟩
  · have h14 : _ = (-16 : Int) := (pm_ofInt (by decide) (by decide)).mp h14
    conv => whnf
    refine ⟨fun h15 => ?_, fun h15 => ?_⟩
    · have h15 := (cc_le _ _).mp h15
      try simp (disch := omega) only [tn_n, bI_0, bI_1, Classical.not_not, ti_iv, ti_ivn, ti_n, ti_0, os_si, os_sj, va_up, upd, Nat.reduceEqDiff, reduceIte] at h15
      conv => whnf
      refine hZ0 _ _ ?_
      refine ⟨?_, rfl⟩
      unfold joinedF
      (repeat (first | rw [if_pos (by omega)] | rw [if_neg (by omega)]))
      first
        | done
        | rfl
        | exact congrArg (fun z => some (Value.int z)) (bI_t (by omega)).symm
        | exact congrArg (fun z => some (Value.int z)) (bI_f (by omega)).symm
    · have h15 := (nc_le _ _).mp h15
      try simp (disch := omega) only [tn_n, bI_0, bI_1, Classical.not_not, ti_iv, ti_ivn, ti_n, ti_0, os_si, os_sj, va_up, upd, Nat.reduceEqDiff, reduceIte] at h15
      conv => whnf
      refine hZ0 _ _ ?_
      refine ⟨?_, rfl⟩
      unfold joinedF
      (repeat (first | rw [if_pos (by omega)] | rw [if_neg (by omega)]))
      first
        | done
        | rfl
        | exact congrArg (fun z => some (Value.int z)) (bI_t (by omega)).symm
        | exact congrArg (fun z => some (Value.int z)) (bI_f (by omega)).symm
  have h14 : ¬ _ = (-16 : Int) := mt (pm_ofInt (by decide) (by decide)).mpr h14
  conv => whnf
  refine ⟨fun h16 => ?_, fun h16 => ?_⟩
  · have h16 : _ = (-15 : Int) := (pm_ofInt (by decide) (by decide)).mp h16
    conv => whnf
    refine ⟨fun h17 => ?_, fun h17 => ?_⟩
    · have h17 := (cc_le _ _).mp h17
      try simp (disch := omega) only [tn_n, bI_0, bI_1, Classical.not_not, ti_iv, ti_ivn, ti_n, ti_0, os_si, os_sj, va_up, upd, Nat.reduceEqDiff, reduceIte] at h17
      conv => whnf
      refine hZ0 _ _ ?_
      refine ⟨?_, rfl⟩
      unfold joinedF
      (repeat (first | rw [if_pos (by omega)] | rw [if_neg (by omega)]))
      first
        | done
        | rfl
        | exact congrArg (fun z => some (Value.int z)) (bI_t (by omega)).symm
        | exact congrArg (fun z => some (Value.int z)) (bI_f (by omega)).symm
    · have h17 := (nc_le _ _).mp h17
      try simp (disch := omega) only [tn_n, bI_0, bI_1, Classical.not_not, ti_iv, ti_ivn, ti_n, ti_0, os_si, os_sj, va_up, upd, Nat.reduceEqDiff, reduceIte] at h17
      conv => whnf
      refine hZ0 _ _ ?_
      refine ⟨?_, rfl⟩
      unfold joinedF
      (repeat (first | rw [if_pos (by omega)] | rw [if_neg (by omega)]))
      first
        | done
        | rfl
        | exact congrArg (fun z => some (Value.int z)) (bI_t (by omega)).symm
        | exact congrArg (fun z => some (Value.int z)) (bI_f (by omega)).symm
  have h16 : ¬ _ = (-15 : Int) := mt (pm_ofInt (by decide) (by decide)).mpr h16
  conv => whnf
  refine ⟨fun h18 => ?_, fun h18 => ?_⟩
  · have h18 : _ = (-14 : Int) := (pm_ofInt (by decide) (by decide)).mp h18
    conv => whnf
    refine ⟨fun h19 => ?_, fun h19 => ?_⟩
    · have h19 := (cc_le _ _).mp h19
      try simp (disch := omega) only [tn_n, bI_0, bI_1, Classical.not_not, ti_iv, ti_ivn, ti_n, ti_0, os_si, os_sj, va_up, upd, Nat.reduceEqDiff, reduceIte] at h19
      conv => whnf
      refine hZ0 _ _ ?_
      refine ⟨?_, rfl⟩
      unfold joinedF
      (repeat (first | rw [if_pos (by omega)] | rw [if_neg (by omega)]))
      first
        | done
        | rfl
        | exact congrArg (fun z => some (Value.int z)) (bI_t (by omega)).symm
        | exact congrArg (fun z => some (Value.int z)) (bI_f (by omega)).symm
    · have h19 := (nc_le _ _).mp h19
      try simp (disch := omega) only [tn_n, bI_0, bI_1, Classical.not_not, ti_iv, ti_ivn, ti_n, ti_0, os_si, os_sj, va_up, upd, Nat.reduceEqDiff, reduceIte] at h19
      conv => whnf
      refine hZ0 _ _ ?_
      refine ⟨?_, rfl⟩
      unfold joinedF
      (repeat (first | rw [if_pos (by omega)] | rw [if_neg (by omega)]))
      first
        | done
        | rfl
        | exact congrArg (fun z => some (Value.int z)) (bI_t (by omega)).symm
        | exact congrArg (fun z => some (Value.int z)) (bI_f (by omega)).symm
  have h18 : ¬ _ = (-14 : Int) := mt (pm_ofInt (by decide) (by decide)).mpr h18
  conv => whnf
  refine ⟨fun h20 => ?_, fun h20 => ?_⟩
  · have h20 : _ = (-13 : Int) := (pm_ofInt (by decide) (by decide)).mp h20
    conv => whnf
    refine ⟨fun h21 => ?_, fun h21 => ?_⟩
    · have h21 := (cc_le _ _).mp h21
      try simp (disch := omega) only [tn_n, bI_0, bI_1, Classical.not_not, ti_iv, ti_ivn, ti_n, ti_0, os_si, os_sj, va_up, upd, Nat.reduceEqDiff, reduceIte] at h21
      conv => whnf
      refine hZ0 _ _ ?_
      refine ⟨?_, rfl⟩
      unfold joinedF
      (repeat (first | rw [if_pos (by omega)] | rw [if_neg (by omega)]))
      first
        | done
        | rfl
        | exact congrArg (fun z => some (Value.int z)) (bI_t (by omega)).symm
        | exact congrArg (fun z => some (Value.int z)) (bI_f (by omega)).symm
    · have h21 := (nc_le _ _).mp h21
      try simp (disch := omega) only [tn_n, bI_0, bI_1, Classical.not_not, ti_iv, ti_ivn, ti_n, ti_0, os_si, os_sj, va_up, upd, Nat.reduceEqDiff, reduceIte] at h21
      conv => whnf
      refine hZ0 _ _ ?_
      refine ⟨?_, rfl⟩
      unfold joinedF
      (repeat (first | rw [if_pos (by omega)] | rw [if_neg (by omega)]))
      first
        | done
        | rfl
        | exact congrArg (fun z => some (Value.int z)) (bI_t (by omega)).symm
        | exact congrArg (fun z => some (Value.int z)) (bI_f (by omega)).symm
  have h20 : ¬ _ = (-13 : Int) := mt (pm_ofInt (by decide) (by decide)).mpr h20
  conv => whnf
  refine ⟨fun h22 => ?_, fun h22 => ?_⟩
  · have h22 : _ = (-12 : Int) := (pm_ofInt (by decide) (by decide)).mp h22
    conv => whnf
    refine ⟨fun h23 => ?_, fun h23 => ?_⟩
    · have h23 := (cc_le _ _).mp h23
      try simp (disch := omega) only [tn_n, bI_0, bI_1, Classical.not_not, ti_iv, ti_ivn, ti_n, ti_0, os_si, os_sj, va_up, upd, Nat.reduceEqDiff, reduceIte] at h23
      conv => whnf
      refine hZ0 _ _ ?_
      refine ⟨?_, rfl⟩
      unfold joinedF
      (repeat (first | rw [if_pos (by omega)] | rw [if_neg (by omega)]))
      first
        | done
        | rfl
        | exact congrArg (fun z => some (Value.int z)) (bI_t (by omega)).symm
        | exact congrArg (fun z => some (Value.int z)) (bI_f (by omega)).symm
    · have h23 := (nc_le _ _).mp h23
      try simp (disch := omega) only [tn_n, bI_0, bI_1, Classical.not_not, ti_iv, ti_ivn, ti_n, ti_0, os_si, os_sj, va_up, upd, Nat.reduceEqDiff, reduceIte] at h23
      conv => whnf
      refine hZ0 _ _ ?_
      refine ⟨?_, rfl⟩
      unfold joinedF
      (repeat (first | rw [if_pos (by omega)] | rw [if_neg (by omega)]))
      first
        | done
        | rfl
        | exact congrArg (fun z => some (Value.int z)) (bI_t (by omega)).symm
        | exact congrArg (fun z => some (Value.int z)) (bI_f (by omega)).symm
  have h22 : ¬ _ = (-12 : Int) := mt (pm_ofInt (by decide) (by decide)).mpr h22
  conv => whnf
  refine ⟨fun h24 => ?_, fun h24 => ?_⟩
  · have h24 : _ = (-11 : Int) := (pm_ofInt (by decide) (by decide)).mp h24
    conv => whnf
    refine ⟨fun h25 => ?_, fun h25 => ?_⟩
    · have h25 := (cc_le _ _).mp h25
      try simp (disch := omega) only [tn_n, bI_0, bI_1, Classical.not_not, ti_iv, ti_ivn, ti_n, ti_0, os_si, os_sj, va_up, upd, Nat.reduceEqDiff, reduceIte] at h25
      conv => whnf
      refine hZ0 _ _ ?_
      refine ⟨?_, rfl⟩
      unfold joinedF
      (repeat (first | rw [if_pos (by omega)] | rw [if_neg (by omega)]))
      first
        | done
        | rfl
        | exact congrArg (fun z => some (Value.int z)) (bI_t (by omega)).symm
        | exact congrArg (fun z => some (Value.int z)) (bI_f (by omega)).symm
    · have h25 := (nc_le _ _).mp h25
      try simp (disch := omega) only [tn_n, bI_0, bI_1, Classical.not_not, ti_iv, ti_ivn, ti_n, ti_0, os_si, os_sj, va_up, upd, Nat.reduceEqDiff, reduceIte] at h25
      conv => whnf
      refine hZ0 _ _ ?_
      refine ⟨?_, rfl⟩
      unfold joinedF
      (repeat (first | rw [if_pos (by omega)] | rw [if_neg (by omega)]))
      first
        | done
        | rfl
        | exact congrArg (fun z => some (Value.int z)) (bI_t (by omega)).symm
        | exact congrArg (fun z => some (Value.int z)) (bI_f (by omega)).symm
  have h24 : ¬ _ = (-11 : Int) := mt (pm_ofInt (by decide) (by decide)).mpr h24
  conv => whnf
  refine ⟨fun h26 => ?_, fun h26 => ?_⟩
  · have h26 : _ = (-10 : Int) := (pm_ofInt (by decide) (by decide)).mp h26
    conv => whnf
    refine ⟨fun h27 => ?_, fun h27 => ?_⟩
    · have h27 := (cc_le _ _).mp h27
      try simp (disch := omega) only [tn_n, bI_0, bI_1, Classical.not_not, ti_iv, ti_ivn, ti_n, ti_0, os_si, os_sj, va_up, upd, Nat.reduceEqDiff, reduceIte] at h27
      conv => whnf
      refine hZ0 _ _ ?_
      refine ⟨?_, rfl⟩
      unfold joinedF
      (repeat (first | rw [if_pos (by omega)] | rw [if_neg (by omega)]))
      first
        | done
        | rfl
        | exact congrArg (fun z => some (Value.int z)) (bI_t (by omega)).symm
        | exact congrArg (fun z => some (Value.int z)) (bI_f (by omega)).symm
    · have h27 := (nc_le _ _).mp h27
      try simp (disch := omega) only [tn_n, bI_0, bI_1, Classical.not_not, ti_iv, ti_ivn, ti_n, ti_0, os_si, os_sj, va_up, upd, Nat.reduceEqDiff, reduceIte] at h27
      conv => whnf
      refine hZ0 _ _ ?_
      refine ⟨?_, rfl⟩
      unfold joinedF
      (repeat (first | rw [if_pos (by omega)] | rw [if_neg (by omega)]))
      first
        | done
        | rfl
        | exact congrArg (fun z => some (Value.int z)) (bI_t (by omega)).symm
        | exact congrArg (fun z => some (Value.int z)) (bI_f (by omega)).symm
  have h26 : ¬ _ = (-10 : Int) := mt (pm_ofInt (by decide) (by decide)).mpr h26
  conv => whnf
  refine ⟨fun h28 => ?_, fun h28 => ?_⟩
  · have h28 : _ = (-9 : Int) := (pm_ofInt (by decide) (by decide)).mp h28
    conv => whnf
    refine ⟨fun h29 => ?_, fun h29 => ?_⟩
    · have h29 := (cc_le _ _).mp h29
      try simp (disch := omega) only [tn_n, bI_0, bI_1, Classical.not_not, ti_iv, ti_ivn, ti_n, ti_0, os_si, os_sj, va_up, upd, Nat.reduceEqDiff, reduceIte] at h29
      conv => whnf
      refine hZ0 _ _ ?_
      refine ⟨?_, rfl⟩
      unfold joinedF
      (repeat (first | rw [if_pos (by omega)] | rw [if_neg (by omega)]))
      first
        | done
        | rfl
        | exact congrArg (fun z => some (Value.int z)) (bI_t (by omega)).symm
        | exact congrArg (fun z => some (Value.int z)) (bI_f (by omega)).symm
    · have h29 := (nc_le _ _).mp h29
      try simp (disch := omega) only [tn_n, bI_0, bI_1, Classical.not_not, ti_iv, ti_ivn, ti_n, ti_0, os_si, os_sj, va_up, upd, Nat.reduceEqDiff, reduceIte] at h29
      conv => whnf
      refine hZ0 _ _ ?_
      refine ⟨?_, rfl⟩
      unfold joinedF
      (repeat (first | rw [if_pos (by omega)] | rw [if_neg (by omega)]))
      first
        | done
        | rfl
        | exact congrArg (fun z => some (Value.int z)) (bI_t (by omega)).symm
        | exact congrArg (fun z => some (Value.int z)) (bI_f (by omega)).symm
  have h28 : ¬ _ = (-9 : Int) := mt (pm_ofInt (by decide) (by decide)).mpr h28
  conv => whnf
  refine ⟨fun h30 => ?_, fun h30 => ?_⟩
  · have h30 : _ = (-8 : Int) := (pm_ofInt (by decide) (by decide)).mp h30
    conv => whnf
    refine ⟨fun h31 => ?_, fun h31 => ?_⟩
    · have h31 := (cc_le _ _).mp h31
      try simp (disch := omega) only [tn_n, bI_0, bI_1, Classical.not_not, ti_iv, ti_ivn, ti_n, ti_0, os_si, os_sj, va_up, upd, Nat.reduceEqDiff, reduceIte] at h31
      conv => whnf
      refine hZ0 _ _ ?_
      refine ⟨?_, rfl⟩
      unfold joinedF
      (repeat (first | rw [if_pos (by omega)] | rw [if_neg (by omega)]))
      first
        | done
        | rfl
        | exact congrArg (fun z => some (Value.int z)) (bI_t (by omega)).symm
        | exact congrArg (fun z => some (Value.int z)) (bI_f (by omega)).symm
    · have h31 := (nc_le _ _).mp h31
      try simp (disch := omega) only [tn_n, bI_0, bI_1, Classical.not_not, ti_iv, ti_ivn, ti_n, ti_0, os_si, os_sj, va_up, upd, Nat.reduceEqDiff, reduceIte] at h31
      conv => whnf
      refine hZ0 _ _ ?_
      refine ⟨?_, rfl⟩
      unfold joinedF
      (repeat (first | rw [if_pos (by omega)] | rw [if_neg (by omega)]))
      first
        | done
        | rfl
        | exact congrArg (fun z => some (Value.int z)) (bI_t (by omega)).symm
        | exact congrArg (fun z => some (Value.int z)) (bI_f (by omega)).symm
  have h30 : ¬ _ = (-8 : Int) := mt (pm_ofInt (by decide) (by decide)).mpr h30
  conv => whnf
  refine ⟨fun h32 => ?_, fun h32 => ?_⟩
  · have h32 : _ = (-7 : Int) := (pm_ofInt (by decide) (by decide)).mp h32
    conv => whnf
    refine ⟨fun h33 => ?_, fun h33 => ?_⟩
    · have h33 := (cc_le _ _).mp h33
      try simp (disch := omega) only [tn_n, bI_0, bI_1, Classical.not_not, ti_iv, ti_ivn, ti_n, ti_0, os_si, os_sj, va_up, upd, Nat.reduceEqDiff, reduceIte] at h33
      conv => whnf
      refine hZ0 _ _ ?_
      refine ⟨?_, rfl⟩
      unfold joinedF
      (repeat (first | rw [if_pos (by omega)] | rw [if_neg (by omega)]))
      first
        | done
        | rfl
        | exact congrArg (fun z => some (Value.int z)) (bI_t (by omega)).symm
        | exact congrArg (fun z => some (Value.int z)) (bI_f (by omega)).symm
    · have h33 := (nc_le _ _).mp h33
      try simp (disch := omega) only [tn_n, bI_0, bI_1, Classical.not_not, ti_iv, ti_ivn, ti_n, ti_0, os_si, os_sj, va_up, upd, Nat.reduceEqDiff, reduceIte] at h33
      conv => whnf
      refine hZ0 _ _ ?_
      refine ⟨?_, rfl⟩
      unfold joinedF
      (repeat (first | rw [if_pos (by omega)] | rw [if_neg (by omega)]))
      first
        | done
        | rfl
        | exact congrArg (fun z => some (Value.int z)) (bI_t (by omega)).symm
        | exact congrArg (fun z => some (Value.int z)) (bI_f (by omega)).symm
  have h32 : ¬ _ = (-7 : Int) := mt (pm_ofInt (by decide) (by decide)).mpr h32
  conv => whnf
  refine ⟨fun h34 => ?_, fun h34 => ?_⟩
  · have h34 : _ = (-6 : Int) := (pm_ofInt (by decide) (by decide)).mp h34
    conv => whnf
    refine ⟨fun h35 => ?_, fun h35 => ?_⟩
    · have h35 := (cc_le _ _).mp h35
      try simp (disch := omega) only [tn_n, bI_0, bI_1, Classical.not_not, ti_iv, ti_ivn, ti_n, ti_0, os_si, os_sj, va_up, upd, Nat.reduceEqDiff, reduceIte] at h35
      conv => whnf
      refine hZ0 _ _ ?_
      refine ⟨?_, rfl⟩
      unfold joinedF
      (repeat (first | rw [if_pos (by omega)] | rw [if_neg (by omega)]))
      first
        | done
        | rfl
        | exact congrArg (fun z => some (Value.int z)) (bI_t (by omega)).symm
        | exact congrArg (fun z => some (Value.int z)) (bI_f (by omega)).symm
    · have h35 := (nc_le _ _).mp h35
      try simp (disch := omega) only [tn_n, bI_0, bI_1, Classical.not_not, ti_iv, ti_ivn, ti_n, ti_0, os_si, os_sj, va_up, upd, Nat.reduceEqDiff, reduceIte] at h35
      conv => whnf
      refine hZ0 _ _ ?_
      refine ⟨?_, rfl⟩
      unfold joinedF
      (repeat (first | rw [if_pos (by omega)] | rw [if_neg (by omega)]))
      first
        | done
        | rfl
        | exact congrArg (fun z => some (Value.int z)) (bI_t (by omega)).symm
        | exact congrArg (fun z => some (Value.int z)) (bI_f (by omega)).symm
  have h34 : ¬ _ = (-6 : Int) := mt (pm_ofInt (by decide) (by decide)).mpr h34
  conv => whnf
  refine ⟨fun h36 => ?_, fun h36 => ?_⟩
  · have h36 : _ = (-5 : Int) := (pm_ofInt (by decide) (by decide)).mp h36
    conv => whnf
    refine hZ0 _ _ ?_
    refine ⟨?_, rfl⟩
    unfold joinedF
    (repeat (first | rw [if_pos (by omega)] | rw [if_neg (by omega)]))
    first
      | done
      | rfl
      | exact congrArg (fun z => some (Value.int z)) (bI_t (by omega)).symm
      | exact congrArg (fun z => some (Value.int z)) (bI_f (by omega)).symm
  have h36 : ¬ _ = (-5 : Int) := mt (pm_ofInt (by decide) (by decide)).mpr h36
  conv => whnf
  refine ⟨fun h37 => ?_, fun h37 => ?_⟩
  · have h37 : _ = (-4 : Int) := (pm_ofInt (by decide) (by decide)).mp h37
    conv => whnf
    refine hZ0 _ _ ?_
    refine ⟨?_, rfl⟩
    unfold joinedF
    (repeat (first | rw [if_pos (by omega)] | rw [if_neg (by omega)]))
    first
      | done
      | rfl
      | exact congrArg (fun z => some (Value.int z)) (bI_t (by omega)).symm
      | exact congrArg (fun z => some (Value.int z)) (bI_f (by omega)).symm
  have h37 : ¬ _ = (-4 : Int) := mt (pm_ofInt (by decide) (by decide)).mpr h37
  conv => whnf
  conv => whnf
  refine ⟨fun h38 => ?_, fun h38 => ?_⟩
  · have h38 := (cc_le _ _).mp h38
    try simp (disch := omega) only [tn_n, bI_0, bI_1, Classical.not_not, ti_iv, ti_ivn, ti_n, ti_0, os_si, os_sj, va_up, upd, Nat.reduceEqDiff, reduceIte] at h38
    conv => whnf
    refine hZ0 _ _ ?_
    refine ⟨?_, rfl⟩
    unfold joinedF
    (repeat (first | rw [if_pos (by omega)] | rw [if_neg (by omega)]))
    first
      | done
      | rfl
      | exact congrArg (fun z => some (Value.int z)) (bI_t (by omega)).symm
      | exact congrArg (fun z => some (Value.int z)) (bI_f (by omega)).symm
  · have h38 := (nc_le _ _).mp h38
    try simp (disch := omega) only [tn_n, bI_0, bI_1, Classical.not_not, ti_iv, ti_ivn, ti_n, ti_0, os_si, os_sj, va_up, upd, Nat.reduceEqDiff, reduceIte] at h38
    conv => whnf
    refine hZ0 _ _ ?_
    refine ⟨?_, rfl⟩
    unfold joinedF
    (repeat (first | rw [if_pos (by omega)] | rw [if_neg (by omega)]))
    first
      | done
      | rfl
      | exact congrArg (fun z => some (Value.int z)) (bI_t (by omega)).symm
      | exact congrArg (fun z => some (Value.int z)) (bI_f (by omega)).symm
set_option maxRecDepth 20000 in
theorem x_step0 (σ : pm_S) {σ0 : pm_S} {st : List Int32} (hT : LwS σ0 σ st) (hl : st.length < 40) (w : Int32) (hw : 0 ≤ w.toInt) : Sp 17 3 [.ref 31, .int w, .ref 75] σ (fun r τ => r = none ∧ LwS σ0 τ (w :: st)) := by
  refine S_Law_step [] 400 rfl (fun R0 cl0 Z0 hR0 hcl0 hZ0 => ?_)
  conv => whnf
  refine pm_bf ((nc_lt _ _).mpr (by first | omega | ((try simp (disch := omega) only [tn_n, iv_n, nI_mul, nI_add, nI_sub, nI_iv1, ti_iv, ti_ivn, ti_n, ti_0, bI_0, bI_1, Classical.not_not, os_si, os_sj, va_up, upd, Nat.reduceEqDiff, reduceIte]); (try dsimp only); omega))) ?_
  conv => whnf
  refine hcl0 _ _ _ _ ((x_push _ hT (by exact hl) _).use (by decide) (fun rs1 τs1 s1 => ?_))
  obtain ⟨rfl, hT⟩ := s1
  conv => whnf
  refine hZ0 _ _ ?_
  first
    | (exfalso; omega)
    | exact ⟨rfl, hT⟩
set_option maxRecDepth 20000 in
theorem x_step1 (σ : pm_S) {σ0 : pm_S} {st : List Int32} (hT : LwS σ0 σ st) (hl : st.length < 40) (w : Int32) (hw : -15 ≤ w.toInt) (hw1 : w.toInt ≤ -7) : Sp 17 3 [.ref 31, .int w, .ref 75] σ (fun r τ => r = none ∧ LwS σ0 τ (σ0.1 75 (pm_iv 7 1 - w).toNatClampNeg :: st)) := by
  have hq := ti_sub (a := pm_iv 7 1) (b := w) (by rw [ti_ivn (by decide)]; omega) (by rw [ti_ivn (by decide)]; omega)
  rw [ti_ivn (by decide)] at hq
  have h75 : σ.1 75 = σ0.1 75 := hT.2.2.2.2.1 75 (by decide) (by decide)
  refine S_Law_step [] 400 rfl (fun R0 cl0 Z0 hR0 hcl0 hZ0 => ?_)
  conv => whnf
  refine pm_bt ((cc_lt _ _).mpr (by first | omega | ((try simp (disch := omega) only [hq, tn_n, iv_n, nI_mul, nI_add, nI_sub, nI_iv1, ti_iv, ti_ivn, ti_n, ti_0, bI_0, bI_1, Classical.not_not, os_si, os_sj, va_up, upd, Nat.reduceEqDiff, reduceIte]); (try dsimp only); omega) | (simp only [hq]; omega))) ?_
  conv => whnf
  refine hcl0 _ _ _ _ ?_
  refine S_Law_isFact [] 400 rfl (fun R1 cl1 Z1 hR1 hcl1 hZ1 => ?_)
  conv => whnf
  refine pm_bf ((nc_gt _ _).mpr (by first | omega | ((try simp (disch := omega) only [hq, tn_n, iv_n, nI_mul, nI_add, nI_sub, nI_iv1, ti_iv, ti_ivn, ti_n, ti_0, bI_0, bI_1, Classical.not_not, os_si, os_sj, va_up, upd, Nat.reduceEqDiff, reduceIte]); (try dsimp only); omega) | (simp only [hq]; omega))) ?_
  conv => whnf
  refine pm_bf ((nc_lt _ _).mpr (by first | omega | ((try simp (disch := omega) only [hq, tn_n, iv_n, nI_mul, nI_add, nI_sub, nI_iv1, ti_iv, ti_ivn, ti_n, ti_0, bI_0, bI_1, Classical.not_not, os_si, os_sj, va_up, upd, Nat.reduceEqDiff, reduceIte]); (try dsimp only); omega) | (simp only [hq]; omega))) ?_
  conv => whnf
  refine pm_gd (by decide) ?_
  refine hZ1 _ _ ?_
  conv => whnf
  refine pm_bf (cdf rfl) ?_
  conv => whnf
  refine ⟨fun h1 => ?_, fun h1 => ?_⟩
  · have h1 := (cc_ge _ _).mp h1
    try simp (disch := omega) only [hq, tn_n, bI_0, bI_1, Classical.not_not, ti_iv, ti_ivn, ti_n, ti_0, os_si, os_sj, va_up, upd, Nat.reduceEqDiff, reduceIte] at h1
    conv => whnf
    refine hcl0 _ _ _ _ ((x_push _ hT (by exact hl) _).use (by decide) (fun rs2 τs2 s2 => ?_))
    obtain ⟨rfl, hT⟩ := s2
    conv => whnf
    refine hZ0 _ _ ?_
    first
      | (exfalso; omega)
      | (rw [← h75]; exact ⟨rfl, hT⟩)
  · have h1 := (nc_ge _ _).mp h1
    try simp (disch := omega) only [hq, tn_n, bI_0, bI_1, Classical.not_not, ti_iv, ti_ivn, ti_n, ti_0, os_si, os_sj, va_up, upd, Nat.reduceEqDiff, reduceIte] at h1
    conv => whnf
    refine pm_gd (gI (by first | omega | ((try simp (disch := omega) only [hq, tn_n, iv_n, nI_mul, nI_add, nI_sub, nI_iv1, ti_iv, ti_ivn, ti_n, ti_0, bI_0, bI_1, Classical.not_not, os_si, os_sj, va_up, upd, Nat.reduceEqDiff, reduceIte]); (try dsimp only); omega) | (simp only [hq]; omega)) (by first | omega | ((try simp (disch := omega) only [hq, tn_n, iv_n, nI_mul, nI_add, nI_sub, nI_iv1, ti_iv, ti_ivn, ti_n, ti_0, bI_0, bI_1, Classical.not_not, os_si, os_sj, va_up, upd, Nat.reduceEqDiff, reduceIte]); (try dsimp only); omega) | (simp only [hq]; omega))) ?_
    conv => whnf
    refine hcl0 _ _ _ _ ((x_push _ hT (by exact hl) _).use (by decide) (fun rs3 τs3 s3 => ?_))
    obtain ⟨rfl, hT⟩ := s3
    conv => whnf
    refine hZ0 _ _ ?_
    first
      | (exfalso; omega)
      | (rw [← h75]; exact ⟨rfl, hT⟩)
set_option maxRecDepth 20000 in
theorem x_step9 (σ : pm_S) {σ0 : pm_S} {x : Int32} {st : List Int32} (hT : LwS σ0 σ (x :: st)) (w : Int32) (hw : w.toInt = -6) : Sp 17 3 [.ref 31, .int w, .ref 75] σ (fun r τ => r = none ∧ LwS σ0 τ ((if x.toInt = 0 then 1 else 0) :: st)) := by
  have hl : st.length + 1 ≤ 40 := hT.2.2.1
  refine S_Law_step [] 400 rfl (fun R0 cl0 Z0 hR0 hcl0 hZ0 => ?_)
  conv => whnf
  refine pm_bt ((cc_lt _ _).mpr (by first | omega | ((try simp (disch := omega) only [tn_n, iv_n, nI_mul, nI_add, nI_sub, nI_iv1, ti_iv, ti_ivn, ti_n, ti_0, bI_0, bI_1, Classical.not_not, os_si, os_sj, va_up, upd, Nat.reduceEqDiff, reduceIte]); (try dsimp only); omega))) ?_
  conv => whnf
  refine hcl0 _ _ _ _ ?_
  refine S_Law_isFact [] 400 rfl (fun R1 cl1 Z1 hR1 hcl1 hZ1 => ?_)
  conv => whnf
  refine pm_bt ((cc_gt _ _).mpr (by first | omega | ((try simp (disch := omega) only [tn_n, iv_n, nI_mul, nI_add, nI_sub, nI_iv1, ti_iv, ti_ivn, ti_n, ti_0, bI_0, bI_1, Classical.not_not, os_si, os_sj, va_up, upd, Nat.reduceEqDiff, reduceIte]); (try dsimp only); omega))) ?_
  conv => whnf
  refine pm_gd (by decide) ?_
  refine hZ1 _ _ ?_
  conv => whnf
  refine pm_bt (cdt rfl) ?_
  conv => whnf
  refine pm_bf ((nc_ne _ _).mpr (by first | omega | ((try simp (disch := omega) only [tn_n, iv_n, nI_mul, nI_add, nI_sub, nI_iv1, ti_iv, ti_ivn, ti_n, ti_0, bI_0, bI_1, Classical.not_not, os_si, os_sj, va_up, upd, Nat.reduceEqDiff, reduceIte]); (try dsimp only); omega))) ?_
  conv => whnf
  refine hcl0 _ _ _ _ ((x_pop _ hT).use (by decide) (fun rs1 τs1 s1 => ?_))
  obtain ⟨rfl, hT⟩ := s1
  conv => whnf
  refine ⟨fun h2 => ?_, fun h2 => ?_⟩
  · have h2 := (cc_ne _ _).mp h2
    try simp (disch := omega) only [tn_n, bI_0, bI_1, Classical.not_not, ti_iv, ti_ivn, ti_n, ti_0, os_si, os_sj, va_up, upd, Nat.reduceEqDiff, reduceIte] at h2
    conv => whnf
    refine hcl0 _ _ _ _ ((x_push _ hT (by omega) _).use (by decide) (fun rs3 τs3 s3 => ?_))
    obtain ⟨rfl, hT⟩ := s3
    conv => whnf
    refine hZ0 _ _ ?_
    first
      | (exfalso; omega)
      | first | (rw [if_pos (by omega)]; exact ⟨rfl, hT⟩) | (rw [if_neg (by omega)]; exact ⟨rfl, hT⟩)
  · have h2 := (nc_ne _ _).mp h2
    try simp (disch := omega) only [tn_n, bI_0, bI_1, Classical.not_not, ti_iv, ti_ivn, ti_n, ti_0, os_si, os_sj, va_up, upd, Nat.reduceEqDiff, reduceIte] at h2
    conv => whnf
    refine hcl0 _ _ _ _ ((x_push _ hT (by omega) _).use (by decide) (fun rs4 τs4 s4 => ?_))
    obtain ⟨rfl, hT⟩ := s4
    conv => whnf
    refine hZ0 _ _ ?_
    first
      | (exfalso; omega)
      | first | (rw [if_pos (by omega)]; exact ⟨rfl, hT⟩) | (rw [if_neg (by omega)]; exact ⟨rfl, hT⟩)
set_option maxRecDepth 20000 in
theorem x_step2 (σ : pm_S) {σ0 : pm_S} {x y : Int32} {st : List Int32} (hT : LwS σ0 σ (y :: x :: st)) (w : Int32) (hw : (w.toInt < -15 ∨ -7 < w.toInt) ∧ w.toInt < 0 ∧ ¬ w.toInt = -6) : Sp 17 3 [.ref 31, .int w, .ref 75] σ (fun r τ => r = none ∧ LwS σ0 τ (joinedF w x y :: st)) := by
  have hl : st.length + 1 + 1 ≤ 40 := hT.2.2.1
  refine S_Law_step [] 400 rfl (fun R0 cl0 Z0 hR0 hcl0 hZ0 => ?_)
  conv => whnf
  refine ⟨fun h1 => ?_, fun h1 => ?_⟩
  · have h1 := (cc_lt _ _).mp h1
    try simp (disch := omega) only [tn_n, bI_0, bI_1, Classical.not_not, ti_iv, ti_ivn, ti_n, ti_0, os_si, os_sj, va_up, upd, Nat.reduceEqDiff, reduceIte] at h1
    conv => whnf
    refine hcl0 _ _ _ _ ?_
    refine S_Law_isFact [] 400 rfl (fun R1 cl1 Z1 hR1 hcl1 hZ1 => ?_)
    conv => whnf
    refine ⟨fun h2 => ?_, fun h2 => ?_⟩
    · have h2 := (cc_gt _ _).mp h2
      try simp (disch := omega) only [tn_n, bI_0, bI_1, Classical.not_not, ti_iv, ti_ivn, ti_n, ti_0, os_si, os_sj, va_up, upd, Nat.reduceEqDiff, reduceIte] at h2
      conv => whnf
      refine pm_gd (by decide) ?_
      refine hZ1 _ _ ?_
      conv => whnf
      refine pm_bt (cdt rfl) ?_
      conv => whnf
      refine ⟨fun h3 => ?_, fun h3 => ?_⟩
      · have h3 := (cc_ne _ _).mp h3
        try simp (disch := omega) only [tn_n, bI_0, bI_1, Classical.not_not, ti_iv, ti_ivn, ti_n, ti_0, os_si, os_sj, va_up, upd, Nat.reduceEqDiff, reduceIte] at h3
        conv => whnf
        refine hcl0 _ _ _ _ ((x_pop _ hT).use (by decide) (fun rs4 τs4 s4 => ?_))
        obtain ⟨rfl, hT⟩ := s4
        conv => whnf
        refine hcl0 _ _ _ _ ((x_pop _ hT).use (by decide) (fun rs5 τs5 s5 => ?_))
        obtain ⟨rfl, hT⟩ := s5
        conv => whnf
        refine hcl0 _ _ _ _ ((x_joined _ _ _ _).use (by decide) (fun rs6 τs6 s6 => ?_))
        obtain ⟨rfl, rfl⟩ := s6
        conv => whnf
        refine hcl0 _ _ _ _ ((x_push _ hT (by omega) _).use (by decide) (fun rs7 τs7 s7 => ?_))
        obtain ⟨rfl, hT⟩ := s7
        conv => whnf
        refine hZ0 _ _ ?_
        first
          | (exfalso; omega)
          | exact ⟨rfl, hT⟩
      · have h3 := (nc_ne _ _).mp h3
        try simp (disch := omega) only [tn_n, bI_0, bI_1, Classical.not_not, ti_iv, ti_ivn, ti_n, ti_0, os_si, os_sj, va_up, upd, Nat.reduceEqDiff, reduceIte] at h3
        conv => whnf
        refine hcl0 _ _ _ _ ((x_pop _ hT).use (by decide) (fun rs8 τs8 s8 => ?_))
        obtain ⟨rfl, hT⟩ := s8
        conv => whnf
        refine ⟨fun h9 => ?_, fun h9 => ?_⟩
        · have h9 := (cc_ne _ _).mp h9
          try simp (disch := omega) only [tn_n, bI_0, bI_1, Classical.not_not, ti_iv, ti_ivn, ti_n, ti_0, os_si, os_sj, va_up, upd, Nat.reduceEqDiff, reduceIte] at h9
          conv => whnf
          refine hcl0 _ _ _ _ ((x_push _ hT (by omega) _).use (by decide) (fun rs10 τs10 s10 => ?_))
          obtain ⟨rfl, hT⟩ := s10
          conv => whnf
          refine hZ0 _ _ ?_
          first
            | (exfalso; omega)
            | exact ⟨rfl, hT⟩
        · have h9 := (nc_ne _ _).mp h9
          try simp (disch := omega) only [tn_n, bI_0, bI_1, Classical.not_not, ti_iv, ti_ivn, ti_n, ti_0, os_si, os_sj, va_up, upd, Nat.reduceEqDiff, reduceIte] at h9
          conv => whnf
          refine hcl0 _ _ _ _ ((x_push _ hT (by omega) _).use (by decide) (fun rs11 τs11 s11 => ?_))
          obtain ⟨rfl, hT⟩ := s11
          conv => whnf
          refine hZ0 _ _ ?_
          first
            | (exfalso; omega)
            | exact ⟨rfl, hT⟩
    · have h2 := (nc_gt _ _).mp h2
      try simp (disch := omega) only [tn_n, bI_0, bI_1, Classical.not_not, ti_iv, ti_ivn, ti_n, ti_0, os_si, os_sj, va_up, upd, Nat.reduceEqDiff, reduceIte] at h2
      conv => whnf
      refine ⟨fun h12 => ?_, fun h12 => ?_⟩
      · have h12 := (cc_lt _ _).mp h12
        try simp (disch := omega) only [tn_n, bI_0, bI_1, Classical.not_not, ti_iv, ti_ivn, ti_n, ti_0, os_si, os_sj, va_up, upd, Nat.reduceEqDiff, reduceIte] at h12
        conv => whnf
        refine pm_gd (by decide) ?_
        refine hZ1 _ _ ?_
        conv => whnf
        refine pm_bt (cdt rfl) ?_
        conv => whnf
        refine ⟨fun h13 => ?_, fun h13 => ?_⟩
        · have h13 := (cc_ne _ _).mp h13
          try simp (disch := omega) only [tn_n, bI_0, bI_1, Classical.not_not, ti_iv, ti_ivn, ti_n, ti_0, os_si, os_sj, va_up, upd, Nat.reduceEqDiff, reduceIte] at h13
          conv => whnf
          refine hcl0 _ _ _ _ ((x_pop _ hT).use (by decide) (fun rs14 τs14 s14 => ?_))
          obtain ⟨rfl, hT⟩ := s14
          conv => whnf
          refine hcl0 _ _ _ _ ((x_pop _ hT).use (by decide) (fun rs15 τs15 s15 => ?_))
          obtain ⟨rfl, hT⟩ := s15
          conv => whnf
          refine hcl0 _ _ _ _ ((x_joined _ _ _ _).use (by decide) (fun rs16 τs16 s16 => ?_))
          obtain ⟨rfl, rfl⟩ := s16
          conv => whnf
          refine hcl0 _ _ _ _ ((x_push _ hT (by omega) _).use (by decide) (fun rs17 τs17 s17 => ?_))
          obtain ⟨rfl, hT⟩ := s17
          conv => whnf
          refine hZ0 _ _ ?_
          first
            | (exfalso; omega)
            | exact ⟨rfl, hT⟩
        · have h13 := (nc_ne _ _).mp h13
          try simp (disch := omega) only [tn_n, bI_0, bI_1, Classical.not_not, ti_iv, ti_ivn, ti_n, ti_0, os_si, os_sj, va_up, upd, Nat.reduceEqDiff, reduceIte] at h13
          conv => whnf
          refine hcl0 _ _ _ _ ((x_pop _ hT).use (by decide) (fun rs18 τs18 s18 => ?_))
          obtain ⟨rfl, hT⟩ := s18
          conv => whnf
          refine ⟨fun h19 => ?_, fun h19 => ?_⟩
          · have h19 := (cc_ne _ _).mp h19
            try simp (disch := omega) only [tn_n, bI_0, bI_1, Classical.not_not, ti_iv, ti_ivn, ti_n, ti_0, os_si, os_sj, va_up, upd, Nat.reduceEqDiff, reduceIte] at h19
            conv => whnf
            refine hcl0 _ _ _ _ ((x_push _ hT (by omega) _).use (by decide) (fun rs20 τs20 s20 => ?_))
            obtain ⟨rfl, hT⟩ := s20
            conv => whnf
            refine hZ0 _ _ ?_
            first
              | (exfalso; omega)
              | exact ⟨rfl, hT⟩
          · have h19 := (nc_ne _ _).mp h19
            try simp (disch := omega) only [tn_n, bI_0, bI_1, Classical.not_not, ti_iv, ti_ivn, ti_n, ti_0, os_si, os_sj, va_up, upd, Nat.reduceEqDiff, reduceIte] at h19
            conv => whnf
            refine hcl0 _ _ _ _ ((x_push _ hT (by omega) _).use (by decide) (fun rs21 τs21 s21 => ?_))
            obtain ⟨rfl, hT⟩ := s21
            conv => whnf
            refine hZ0 _ _ ?_
            first
              | (exfalso; omega)
              | exact ⟨rfl, hT⟩
      · have h12 := (nc_lt _ _).mp h12
        try simp (disch := omega) only [tn_n, bI_0, bI_1, Classical.not_not, ti_iv, ti_ivn, ti_n, ti_0, os_si, os_sj, va_up, upd, Nat.reduceEqDiff, reduceIte] at h12
        conv => whnf
        refine pm_gd (by decide) ?_
        refine hZ1 _ _ ?_
        conv => whnf
        refine pm_bf (cdf rfl) ?_
        conv => whnf
        refine ⟨fun h22 => ?_, fun h22 => ?_⟩
        · have h22 := (cc_ge _ _).mp h22
          try simp (disch := omega) only [tn_n, bI_0, bI_1, Classical.not_not, ti_iv, ti_ivn, ti_n, ti_0, os_si, os_sj, va_up, upd, Nat.reduceEqDiff, reduceIte] at h22
          conv => whnf
          refine hcl0 _ _ _ _ ((x_push _ hT (by omega) _).use (by decide) (fun rs23 τs23 s23 => ?_))
          obtain ⟨rfl, hT⟩ := s23
          conv => whnf
          refine hZ0 _ _ ?_
          first
            | (exfalso; omega)
            | exact ⟨rfl, hT⟩
        · have h22 := (nc_ge _ _).mp h22
          try simp (disch := omega) only [tn_n, bI_0, bI_1, Classical.not_not, ti_iv, ti_ivn, ti_n, ti_0, os_si, os_sj, va_up, upd, Nat.reduceEqDiff, reduceIte] at h22
          conv => whnf
          refine pm_gd (gI (by first | omega | ((try simp (disch := omega) only [tn_n, iv_n, nI_mul, nI_add, nI_sub, nI_iv1, ti_iv, ti_ivn, ti_n, ti_0, bI_0, bI_1, Classical.not_not, os_si, os_sj, va_up, upd, Nat.reduceEqDiff, reduceIte]); (try dsimp only); omega)) (by first | omega | ((try simp (disch := omega) only [tn_n, iv_n, nI_mul, nI_add, nI_sub, nI_iv1, ti_iv, ti_ivn, ti_n, ti_0, bI_0, bI_1, Classical.not_not, os_si, os_sj, va_up, upd, Nat.reduceEqDiff, reduceIte]); (try dsimp only); omega))) ?_
          conv => whnf
          refine hcl0 _ _ _ _ ((x_push _ hT (by omega) _).use (by decide) (fun rs24 τs24 s24 => ?_))
          obtain ⟨rfl, hT⟩ := s24
          conv => whnf
          refine hZ0 _ _ ?_
          first
            | (exfalso; omega)
            | exact ⟨rfl, hT⟩
  · have h1 := (nc_lt _ _).mp h1
    try simp (disch := omega) only [tn_n, bI_0, bI_1, Classical.not_not, ti_iv, ti_ivn, ti_n, ti_0, os_si, os_sj, va_up, upd, Nat.reduceEqDiff, reduceIte] at h1
    conv => whnf
    refine hcl0 _ _ _ _ ((x_push _ hT (by omega) _).use (by decide) (fun rs25 τs25 s25 => ?_))
    obtain ⟨rfl, hT⟩ := s25
    conv => whnf
    refine hZ0 _ _ ?_
    first
      | (exfalso; omega)
      | exact ⟨rfl, hT⟩
theorem sub_sub_i (a b : Int32) : a - (a - b) = b := by
  apply Int32.toBitVec_inj.mp
  rw [Int32.toBitVec_sub, Int32.toBitVec_sub]
  apply BitVec.eq_of_toNat_eq
  have h1 := a.toBitVec.isLt
  have h2 := b.toBitVec.isLt
  rw [BitVec.toNat_sub, BitVec.toNat_sub]
  omega
theorem Rw_bin (op arg : Int32) (h : op = 2 ∨ op = 3 ∨ op = 4 ∨ op = 5 ∨ op = 6 ∨ op = 7 ∨ op = 8 ∨ op = 10 ∨ op = 11) : Rw op arg = Rw op 0 := by
  rcases h with rfl | rfl | rfl | rfl | rfl | rfl | rfl | rfl | rfl <;> rfl
theorem x_stepT (σ : pm_S) {σ0 : pm_S} {st : List Int32} {e e' : List Nat} (hT : LwS σ0 σ st) (hb : BT e st) (op arg : Int32) (ht : tyS op arg e = some e') : Sp 17 3 [.ref 31, .int (Rw op arg), .ref 75] σ (fun r τ => r = none ∧ LwS σ0 τ (stepL (σ0.1 75) op arg st)) := by
  have hl := BT_len hb
  rcases tyS_cases ht with ⟨rfl, h1, h2, rfl⟩ | ⟨rfl, h1, h2, h3, rfl⟩ | ⟨rfl, r, rfl, rfl⟩ | ⟨ho, r, rfl, rfl⟩ | ⟨rfl, b, r, h1, rfl, rfl⟩ | ⟨ho, a, b, r, h1, h2, rfl, rfl⟩ | ⟨ho, a, b, r, h1, h2, rfl, rfl⟩
  · exact x_step0 σ hT (by omega) arg (Int32.le_iff_toInt_le.mp h1)
  · have q1 := Int32.le_iff_toInt_le.mp h1
    have q2 := Int32.le_iff_toInt_le.mp h2
    have q1 : 0 ≤ arg.toInt := q1
    have q2 : arg.toInt ≤ 8 := q2
    have q3 := ti_sub (a := -7) (b := arg) (by show -2147483648 ≤ (-7 : Int) - _; omega) (by show (-7 : Int) - _ < _; omega)
    have q3 : (-7 - arg).toInt = -7 - arg.toInt := q3
    refine (x_step1 σ hT (by omega) (-7 - arg) (by omega) (by omega)).mono (fun r τ h => ?_)
    rw [show (pm_iv 7 1 - (-7 - arg)) = arg from sub_sub_i _ _] at h
    exact h
  · obtain ⟨x, s, rfl, k1, k2, k3⟩ := BT_1 hb
    refine (x_step9 σ hT (-6) rfl).mono (fun r τ h => ?_)
    rcases k1 rfl with rfl | rfl
    · exact h
    · exact h
  · obtain ⟨x, s, rfl, k1, k2, k3⟩ := BT_1 hb
    obtain ⟨y, s, rfl, k4, k5, k6⟩ := BT_1 k3
    rcases ho with rfl | rfl
    · refine (x_step2 σ hT (-5) (by decide)).mono (fun r τ h => ?_)
      rcases k1 rfl with rfl | rfl <;> rcases k4 rfl with rfl | rfl <;> exact h
    · refine (x_step2 σ hT (-4) (by decide)).mono (fun r τ h => ?_)
      rcases k1 rfl with rfl | rfl <;> rcases k4 rfl with rfl | rfl <;> exact h
  · obtain ⟨x, s, rfl, k1, k2, k3⟩ := BT_1 hb
    obtain ⟨y, s, rfl, k4, k5, k6⟩ := BT_1 k3
    refine (x_step2 σ hT (-20) (by decide)).mono (fun r τ h => ?_)
    have e1 : joinedF (-20) y x = y / x := by
      show (if x.toInt = 0 then 0 else y / x) = y / x
      rw [if_neg (fun z => k2 rfl (i_eq.mpr z))]
    rw [e1] at h
    exact h
  · obtain ⟨x, s, rfl, k1, k2, k3⟩ := BT_1 hb
    obtain ⟨y, s, rfl, k4, k5, k6⟩ := BT_1 k3
    rcases ho with rfl | rfl | rfl
    · exact x_step2 σ hT (-17) (by decide)
    · exact x_step2 σ hT (-18) (by decide)
    · exact x_step2 σ hT (-19) (by decide)
  · obtain ⟨x, s, rfl, k1, k2, k3⟩ := BT_1 hb
    obtain ⟨y, s, rfl, k4, k5, k6⟩ := BT_1 k3
    rcases ho with rfl | rfl | rfl
    · exact x_step2 σ hT (-23) (by decide)
    · exact x_step2 σ hT (-24) (by decide)
    · exact x_step2 σ hT (-25) (by decide)
theorem Rw_no {op arg : Int32} {e e' : List Nat} (ht : tyS op arg e = some e') : (Rw op arg).toInt ≠ -1 ∧ (Rw op arg).toInt ≠ -2 := by
  rcases tyS_cases ht with ⟨rfl, h1, h2, rfl⟩ | ⟨rfl, h1, h2, h3, rfl⟩ | ⟨rfl, r, rfl, rfl⟩ | ⟨ho, r, rfl, rfl⟩ | ⟨rfl, b, r, h1, rfl, rfl⟩ | ⟨ho, a, b, r, h1, h2, rfl, rfl⟩ | ⟨ho, a, b, r, h1, h2, rfl, rfl⟩
  · have q1 := Int32.le_iff_toInt_le.mp h1
    have q1 : 0 ≤ arg.toInt := q1
    show arg.toInt ≠ -1 ∧ arg.toInt ≠ -2
    omega
  · have q1 := Int32.le_iff_toInt_le.mp h1
    have q2 := Int32.le_iff_toInt_le.mp h2
    have q1 : 0 ≤ arg.toInt := q1
    have q2 : arg.toInt ≤ 8 := q2
    have q3 := ti_sub (a := -7) (b := arg) (by show -2147483648 ≤ (-7 : Int) - _; omega) (by show (-7 : Int) - _ < _; omega)
    have q3 : (-7 - arg).toInt = -7 - arg.toInt := q3
    show (-7 - arg).toInt ≠ -1 ∧ (-7 - arg).toInt ≠ -2
    omega
  · decide
  · rcases ho with rfl | rfl <;> decide
  · decide
  · rcases ho with rfl | rfl | rfl <;> decide
  · rcases ho with rfl | rfl | rfl <;> decide
set_option maxRecDepth 20000 in
theorem x_let_step (σ0 σ : pm_S) (a sz : Nat) (z : Value) (Q : Option Value → pm_S → Prop) (hs : σ0.1 31 1 = nI sz) (hz : sz ≤ 400) {st : List Int32} {e e' : List Nat} {op arg : Int32} (hT : LwS σ0 σ st) (hb : BT e st) (ht : tyS op arg e = some e') (ha : a < sz) (hw : σ0.1 32 a = Rw op arg) (K : ∀ τ y, LwS σ0 τ (stepL (σ0.1 75) op arg st) → Ok 16 4 5 [.ref 31, .ref 75, .int (nI (a + 1)), y] [] τ Q) : Ok 16 4 5 [.ref 31, .ref 75, .int (nI a), z] [] σ Q := by
  have e32 : σ.1 32 = σ0.1 32 := hT.2.2.2.2.1 32 (by decide) (by decide)
  have es : σ.1 31 1 = nI sz := by rw [hT.2.2.2.1 1 (by decide), hs]
  have hn := Rw_no ht
  have hwx : σ.1 32 (nI a).toNatClampNeg = Rw op arg := by rw [tn_n (by omega), e32, hw]
  refine O_Law_lets [5] 400 (fun R0 cl0 Z0 hR0 hcl0 hZ0 => ?_)
  conv => whnf
  refine pm_bf ((nc_ge _ _).mpr (by first | omega | ((try simp (disch := omega) only [es, e32, hw, tn_n, iv_n, nI_mul, nI_add, nI_sub, nI_iv1, ti_iv, ti_ivn, ti_n, ti_0, bI_0, bI_1, Classical.not_not, os_si, os_sj, va_up, upd, Nat.reduceEqDiff, reduceIte]); (try dsimp only); omega))) ?_
  conv => whnf
  refine pm_bf ((nc_ge _ _).mpr (by first | omega | ((try simp (disch := omega) only [es, e32, hw, tn_n, iv_n, nI_mul, nI_add, nI_sub, nI_iv1, ti_iv, ti_ivn, ti_n, ti_0, bI_0, bI_1, Classical.not_not, os_si, os_sj, va_up, upd, Nat.reduceEqDiff, reduceIte]); (try dsimp only); omega))) ?_
  conv => whnf
  refine pm_gd (gI (by first | omega | ((try simp (disch := omega) only [es, e32, hw, tn_n, iv_n, nI_mul, nI_add, nI_sub, nI_iv1, ti_iv, ti_ivn, ti_n, ti_0, bI_0, bI_1, Classical.not_not, os_si, os_sj, va_up, upd, Nat.reduceEqDiff, reduceIte]); (try dsimp only); omega)) (by first | omega | ((try simp (disch := omega) only [es, e32, hw, tn_n, iv_n, nI_mul, nI_add, nI_sub, nI_iv1, ti_iv, ti_ivn, ti_n, ti_0, bI_0, bI_1, Classical.not_not, os_si, os_sj, va_up, upd, Nat.reduceEqDiff, reduceIte]); (try dsimp only); omega))) ?_
  conv => whnf
  refine pm_bf ((nc_eq _ _).mpr (by first | omega | ((try simp (disch := omega) only [es, e32, hw, tn_n, iv_n, nI_mul, nI_add, nI_sub, nI_iv1, ti_iv, ti_ivn, ti_n, ti_0, bI_0, bI_1, Classical.not_not, os_si, os_sj, va_up, upd, Nat.reduceEqDiff, reduceIte]); (try dsimp only); omega))) ?_
  conv => whnf
  refine pm_bt ((cc_ne _ _).mpr (by first | omega | ((try simp (disch := omega) only [es, e32, hw, tn_n, iv_n, nI_mul, nI_add, nI_sub, nI_iv1, ti_iv, ti_ivn, ti_n, ti_0, bI_0, bI_1, Classical.not_not, os_si, os_sj, va_up, upd, Nat.reduceEqDiff, reduceIte]); (try dsimp only); omega))) ?_
  conv => whnf
  refine hcl0 _ _ _ _ ((x_stepT _ hT hb op arg ht).use (by decide) (fun rs1 τs1 s1 => ?_))
  obtain ⟨rfl, hT⟩ := s1
  conv => whnf
  refine hR0 _ _ _ _ ?_
  show Ok 16 4 5 [.ref 31, .ref 75, .int (nI a + Int32.ofInt 1), _] [] _ _
  rw [show nI a + Int32.ofInt 1 = nI (a + 1) from nI_1 a]
  exact K _ _ hT
set_option maxRecDepth 20000 in
theorem x_let_end (σ0 σ : pm_S) (a sz : Nat) (z : Value) (Q : Option Value → pm_S → Prop) (hs : σ0.1 31 1 = nI sz) (hz : sz ≤ 400) (hT : LwS σ0 σ []) (ha : a = sz) (K : ∀ τ, LwS σ0 τ [] → Q (some (.int 1)) τ) : Ok 16 4 5 [.ref 31, .ref 75, .int (nI a), z] [] σ Q := by
  have e32 : σ.1 32 = σ0.1 32 := hT.2.2.2.2.1 32 (by decide) (by decide)
  have es : σ.1 31 1 = nI sz := by rw [hT.2.2.2.1 1 (by decide), hs]
  refine O_Law_lets [5] 400 (fun R0 cl0 Z0 hR0 hcl0 hZ0 => ?_)
  conv => whnf
  refine pm_bt ((cc_ge _ _).mpr (by first | omega | ((try simp (disch := omega) only [es, e32, tn_n, iv_n, nI_mul, nI_add, nI_sub, nI_iv1, ti_iv, ti_ivn, ti_n, ti_0, bI_0, bI_1, Classical.not_not, os_si, os_sj, va_up, upd, Nat.reduceEqDiff, reduceIte]); (try dsimp only); omega))) ?_
  conv => whnf
  refine pm_gd (by decide) ?_
  refine hZ0 _ _ ?_
  exact K _ hT
set_option maxRecDepth 20000 in
theorem x_let_ver (σ0 σ : pm_S) (a sz : Nat) (z : Value) (Q : Option Value → pm_S → Prop) (hs : σ0.1 31 1 = nI sz) (hz : sz ≤ 400) {c : Int32} (lw : Int32) (hl : lw = 0 ∨ lw = 1) (hT : LwS σ0 σ [c]) (ha : a < sz) (hw : σ0.1 32 a = -1 - lw) (K1 : ¬ c.toInt = 0 → ∀ τ, LwS σ0 τ [] → Q (some (.int (if lw = 0 then 1 else 0))) τ) (K2 : c.toInt = 0 → ∀ τ y, LwS σ0 τ [] → Ok 16 4 5 [.ref 31, .ref 75, .int (nI (a + 1)), y] [] τ Q) : Ok 16 4 5 [.ref 31, .ref 75, .int (nI a), z] [] σ Q := by
  have e32 : σ.1 32 = σ0.1 32 := hT.2.2.2.2.1 32 (by decide) (by decide)
  have es : σ.1 31 1 = nI sz := by rw [hT.2.2.2.1 1 (by decide), hs]
  have hv : (σ0.1 32 a).toInt = if lw = 0 then -1 else -2 := by
    rw [hw]
    rcases hl with rfl | rfl <;> decide
  have hv2 : (σ0.1 32 a).toInt = -1 ∨ (σ0.1 32 a).toInt = -2 := by
    rw [hv]
    rcases hl with rfl | rfl
    · exact Or.inl rfl
    · exact Or.inr rfl
  refine O_Law_lets [5] 400 (fun R0 cl0 Z0 hR0 hcl0 hZ0 => ?_)
  conv => whnf
  refine pm_bf ((nc_ge _ _).mpr (by first | omega | ((try simp (disch := omega) only [es, e32, tn_n, iv_n, nI_mul, nI_add, nI_sub, nI_iv1, ti_iv, ti_ivn, ti_n, ti_0, bI_0, bI_1, Classical.not_not, os_si, os_sj, va_up, upd, Nat.reduceEqDiff, reduceIte]); (try dsimp only); omega))) ?_
  conv => whnf
  refine pm_bf ((nc_ge _ _).mpr (by first | omega | ((try simp (disch := omega) only [es, e32, tn_n, iv_n, nI_mul, nI_add, nI_sub, nI_iv1, ti_iv, ti_ivn, ti_n, ti_0, bI_0, bI_1, Classical.not_not, os_si, os_sj, va_up, upd, Nat.reduceEqDiff, reduceIte]); (try dsimp only); omega))) ?_
  conv => whnf
  refine pm_gd (gI (by first | omega | ((try simp (disch := omega) only [es, e32, tn_n, iv_n, nI_mul, nI_add, nI_sub, nI_iv1, ti_iv, ti_ivn, ti_n, ti_0, bI_0, bI_1, Classical.not_not, os_si, os_sj, va_up, upd, Nat.reduceEqDiff, reduceIte]); (try dsimp only); omega)) (by first | omega | ((try simp (disch := omega) only [es, e32, tn_n, iv_n, nI_mul, nI_add, nI_sub, nI_iv1, ti_iv, ti_ivn, ti_n, ti_0, bI_0, bI_1, Classical.not_not, os_si, os_sj, va_up, upd, Nat.reduceEqDiff, reduceIte]); (try dsimp only); omega))) ?_
  conv => whnf
  refine ⟨fun h1 => ?_, fun h1 => ?_⟩
  · have h1 := (cc_eq _ _).mp h1
    try simp (disch := omega) only [es, e32, tn_n, bI_0, bI_1, Classical.not_not, ti_iv, ti_ivn, ti_n, ti_0, os_si, os_sj, va_up, upd, Nat.reduceEqDiff, reduceIte] at h1
    conv => whnf
    refine hcl0 _ _ _ _ ((x_pop _ hT).use (by decide) (fun rs2 τs2 s2 => ?_))
    obtain ⟨rfl, hT⟩ := s2
    conv => whnf
    refine ⟨fun h3 => ?_, fun h3 => ?_⟩
    · have h3 := (cc_eq _ _).mp h3
      try simp (disch := omega) only [es, e32, tn_n, bI_0, bI_1, Classical.not_not, ti_iv, ti_ivn, ti_n, ti_0, os_si, os_sj, va_up, upd, Nat.reduceEqDiff, reduceIte] at h3
      conv => whnf
      refine hR0 _ _ _ _ ?_
      show Ok 16 4 5 [.ref 31, .ref 75, .int (nI a + Int32.ofInt 1), _] [] _ _
      rw [show nI a + Int32.ofInt 1 = nI (a + 1) from nI_1 a]
      exact K2 (by omega) _ _ hT
    · have h3 := (nc_eq _ _).mp h3
      try simp (disch := omega) only [es, e32, tn_n, bI_0, bI_1, Classical.not_not, ti_iv, ti_ivn, ti_n, ti_0, os_si, os_sj, va_up, upd, Nat.reduceEqDiff, reduceIte] at h3
      conv => whnf
      refine ⟨fun h4 => ?_, fun h4 => ?_⟩
      · have h4 := (cc_ne _ _).mp h4
        try simp (disch := omega) only [es, e32, tn_n, bI_0, bI_1, Classical.not_not, ti_iv, ti_ivn, ti_n, ti_0, os_si, os_sj, va_up, upd, Nat.reduceEqDiff, reduceIte] at h4
        conv => whnf
        refine pm_gd (by decide) ?_
        refine hZ0 _ _ ?_
        rcases hl with rfl | rfl
        · first
            | exact K1 (by omega) _ hT
            | (exfalso; simp at hv; omega)
        · first
            | exact K1 (by omega) _ hT
            | (exfalso; simp at hv; omega)
      · have h4 := (nc_ne _ _).mp h4
        try simp (disch := omega) only [es, e32, tn_n, bI_0, bI_1, Classical.not_not, ti_iv, ti_ivn, ti_n, ti_0, os_si, os_sj, va_up, upd, Nat.reduceEqDiff, reduceIte] at h4
        conv => whnf
        refine pm_gd (by decide) ?_
        refine hZ0 _ _ ?_
        rcases hl with rfl | rfl
        · first
            | exact K1 (by omega) _ hT
            | (exfalso; simp at hv; omega)
        · first
            | exact K1 (by omega) _ hT
            | (exfalso; simp at hv; omega)
  · have h1 := (nc_eq _ _).mp h1
    try simp (disch := omega) only [es, e32, tn_n, bI_0, bI_1, Classical.not_not, ti_iv, ti_ivn, ti_n, ti_0, os_si, os_sj, va_up, upd, Nat.reduceEqDiff, reduceIte] at h1
    conv => whnf
    refine ⟨fun h5 => ?_, fun h5 => ?_⟩
    · have h5 := (cc_ne _ _).mp h5
      try simp (disch := omega) only [es, e32, tn_n, bI_0, bI_1, Classical.not_not, ti_iv, ti_ivn, ti_n, ti_0, os_si, os_sj, va_up, upd, Nat.reduceEqDiff, reduceIte] at h5
      conv => whnf
      refine hcl0 _ _ _ _ ((x_stepT _ hT hb op arg ht).use (by decide) (fun rs6 τs6 s6 => ?_))
      obtain ⟨rfl, hT⟩ := s6
      conv => whnf
      refine hR0 _ _ _ _ ?_
      show Ok 16 4 5 [.ref 31, .ref 75, .int (nI a + Int32.ofInt 1), _] [] _ _
      rw [show nI a + Int32.ofInt 1 = nI (a + 1) from nI_1 a]
      exact K2 (by omega) _ _ hT
    · have h5 := (nc_ne _ _).mp h5
      try simp (disch := omega) only [es, e32, tn_n, bI_0, bI_1, Classical.not_not, ti_iv, ti_ivn, ti_n, ti_0, os_si, os_sj, va_up, upd, Nat.reduceEqDiff, reduceIte] at h5
      conv => whnf
      refine hcl0 _ _ _ _ ((x_pop _ hT).use (by decide) (fun rs7 τs7 s7 => ?_))
      obtain ⟨rfl, hT⟩ := s7
      conv => whnf
      refine ⟨fun h8 => ?_, fun h8 => ?_⟩
      · have h8 := (cc_eq _ _).mp h8
        try simp (disch := omega) only [es, e32, tn_n, bI_0, bI_1, Classical.not_not, ti_iv, ti_ivn, ti_n, ti_0, os_si, os_sj, va_up, upd, Nat.reduceEqDiff, reduceIte] at h8
        conv => whnf
        refine hR0 _ _ _ _ ?_
        show Ok 16 4 5 [.ref 31, .ref 75, .int (nI a + Int32.ofInt 1), _] [] _ _
        rw [show nI a + Int32.ofInt 1 = nI (a + 1) from nI_1 a]
        exact K2 (by omega) _ _ hT
      · have h8 := (nc_eq _ _).mp h8
        try simp (disch := omega) only [es, e32, tn_n, bI_0, bI_1, Classical.not_not, ti_iv, ti_ivn, ti_n, ti_0, os_si, os_sj, va_up, upd, Nat.reduceEqDiff, reduceIte] at h8
        conv => whnf
        refine ⟨fun h9 => ?_, fun h9 => ?_⟩
        · have h9 := (cc_ne _ _).mp h9
          try simp (disch := omega) only [es, e32, tn_n, bI_0, bI_1, Classical.not_not, ti_iv, ti_ivn, ti_n, ti_0, os_si, os_sj, va_up, upd, Nat.reduceEqDiff, reduceIte] at h9
          conv => whnf
          refine pm_gd (by decide) ?_
          refine hZ0 _ _ ?_
          rcases hl with rfl | rfl
          · first
              | exact K1 (by omega) _ hT
              | (exfalso; simp at hv; omega)
          · first
              | exact K1 (by omega) _ hT
              | (exfalso; simp at hv; omega)
        · have h9 := (nc_ne _ _).mp h9
          try simp (disch := omega) only [es, e32, tn_n, bI_0, bI_1, Classical.not_not, ti_iv, ti_ivn, ti_n, ti_0, os_si, os_sj, va_up, upd, Nat.reduceEqDiff, reduceIte] at h9
          conv => whnf
          refine pm_gd (by decide) ?_
          refine hZ0 _ _ ?_
          rcases hl with rfl | rfl
          · first
              | exact K1 (by omega) _ hT
              | (exfalso; simp at hv; omega)
          · first
              | exact K1 (by omega) _ hT
              | (exfalso; simp at hv; omega)
