/-! what the codes of a law mean: one run for both sides (q: the model's) -/
def jn (q : Bool) (z : Int) (l r : Int32) : Int32 := if z = -17 then l + r else if z = -18 then l - r else if z = -19 then l * r else if z = -20 then l / r else if z = -23 then (if l < r then 1 else 0) else if z = -24 then (if l = r then 1 else 0) else if z = -25 then (if r < l then 1 else 0) else if z = -5 then (if q = true then l * r else l &&& r) else (if q = true then (if 0 < l + r then 1 else 0) else l ||| r)
/-- a stack (the last on top), and whether a number that is not 0 was told last -/
abbrev evS : Type := List Int32 × Bool
def ev_2 (q : Bool) (z : Int) : evS → Option evS
  | (r :: l :: s, b) => if z = -20 ∧ (b = false ∨ r = 0) then none else some (jn q z l r :: s, false)
  | _ => none
def ev_1 (q : Bool) : evS → Option evS
  | (r :: s, _) => some ((if q = true then 1 - r else if r = 0 then 1 else 0) :: s, false)
  | _ => none
def ev_s (q : Bool) (f : Nat → Int32) (m : Nat) (z : Int) (s : evS) : Option evS :=
  if 0 ≤ z ∧ z ≤ 9999 then (if s.1.length < m then some (Int32.ofInt z :: s.1, decide (z ≠ 0)) else none)
  else if (-15) ≤ z ∧ z ≤ -7 then (if s.1.length < m then some (f (-7 - z).toNat :: s.1, false) else none)
  else if z = -6 then ev_1 q s
  else if z = -4 ∨ z = -5 ∨ ((-20) ≤ z ∧ z ≤ -17) ∨ ((-25) ≤ z ∧ z ≤ -23) then ev_2 q z s
  else none
def ev_r (q : Bool) (f : Nat → Int32) (m : Nat) : List Int → evS → Option evS
  | [], s => some s
  | z :: c, s => (ev_s q f m z s).bind (ev_r q f m c)
section EV
variable {q : Bool} {f : Nat → Int32} {m : Nat}
theorem ev_app : ∀ (c d : List Int) (s : evS), ev_r q f m (c ++ d) s = (ev_r q f m c s).bind (ev_r q f m d)
  | [], _, _ => rfl
  | z :: c, d, s => by
    show (ev_s q f m z s).bind (ev_r q f m (c ++ d)) = ((ev_s q f m z s).bind (ev_r q f m c)).bind (ev_r q f m d)
    cases ev_s q f m z s with
    | none => rfl
    | some t => exact ev_app c d t
theorem ev_seq {c d : List Int} {s t u : evS} (h : ev_r q f m c s = some t) (h2 : ev_r q f m d t = some u) : ev_r q f m (c ++ d) s = some u := by
  rw [ev_app, h]
  exact h2
theorem ev_cons {z : Int} {d : List Int} {s t u : evS} (h : ev_s q f m z s = some t) (h2 : ev_r q f m d t = some u) : ev_r q f m (z :: d) s = some u := by
  show (ev_s q f m z s).bind (ev_r q f m d) = some u
  rw [h]
  exact h2
theorem ev_one {z : Int} {s t : evS} (h : ev_s q f m z s = some t) : ev_r q f m [z] s = some t := ev_cons h rfl
/-- what a unit tells -/
def uV (f : Nat → Int32) (z : Int) : Int32 := if 0 ≤ z then Int32.ofInt z else f (-7 - z).toNat
theorem ev_u {z : Int} (h : (0 ≤ z ∧ z ≤ 9999) ∨ ((-15) ≤ z ∧ z ≤ -7)) {s : List Int32} (b : Bool) (hs : s.length < m) : ev_s q f m z (s, b) = some (uV f z :: s, decide (0 < z)) := by
  unfold ev_s uV
  by_cases c : 0 ≤ z
  · rw [if_pos (by omega), if_pos hs, if_pos c]
    have e : decide (z ≠ 0) = decide (0 < z) := decide_eq_decide.mpr (by omega)
    rw [e]
  · rw [if_neg (by omega), if_pos (by omega), if_pos hs, if_neg c]
    have e : decide (0 < z) = false := decide_eq_false (by omega)
    rw [e]
theorem jn_q {z : Int} (h : ((-20) ≤ z ∧ z ≤ -17) ∨ ((-25) ≤ z ∧ z ≤ -23)) (l r : Int32) : jn q z l r = jn false z l r := by
  unfold jn
  by_cases h1 : z = -17
  · rw [if_pos h1, if_pos h1]
  rw [if_neg h1, if_neg h1]
  by_cases h2 : z = -18
  · rw [if_pos h2, if_pos h2]
  rw [if_neg h2, if_neg h2]
  by_cases h3 : z = -19
  · rw [if_pos h3, if_pos h3]
  rw [if_neg h3, if_neg h3]
  by_cases h4 : z = -20
  · rw [if_pos h4, if_pos h4]
  rw [if_neg h4, if_neg h4]
  by_cases h5 : z = -23
  · rw [if_pos h5, if_pos h5]
  rw [if_neg h5, if_neg h5]
  by_cases h6 : z = -24
  · rw [if_pos h6, if_pos h6]
  rw [if_neg h6, if_neg h6]
  by_cases h7 : z = -25
  · rw [if_pos h7, if_pos h7]
  exfalso
  omega
/-- the run of a comparison's or a side's sign -/
theorem ev_j {z : Int} (h : ((-19) ≤ z ∧ z ≤ -17) ∨ ((-25) ≤ z ∧ z ≤ -23)) (l r : Int32) (s : List Int32) (b : Bool) : ev_s q f m z (r :: l :: s, b) = some (jn false z l r :: s, false) := by
  unfold ev_s
  rw [if_neg (by omega), if_neg (by omega), if_neg (by omega), if_pos (by omega)]
  show (if z = -20 ∧ (b = false ∨ r = 0) then none else some (jn q z l r :: s, false)) = _
  rw [if_neg (by omega), jn_q (by omega)]
theorem ev_d (l r : Int32) (s : List Int32) (h : r ≠ 0) : ev_s q f m (-20) (r :: l :: s, true) = some (jn false (-20) l r :: s, false) := by
  have e : ev_s q f m (-20) (r :: l :: s, true) = ev_2 q (-20) (r :: l :: s, true) := rfl
  rw [e]
  show (if (-20 : Int) = -20 ∧ (true = false ∨ r = 0) then none else some (jn q (-20) l r :: s, false)) = _
  rw [if_neg (fun w => by
    rcases w.2 with z | z
    · cases z
    · exact h z), jn_q (by decide)]
abbrev is01 (v : Int32) : Prop := v = 0 ∨ v = 1
theorem ev_and {l r : Int32} (hl : is01 l) (hr : is01 r) (s : List Int32) (b : Bool) : ev_s q f m (-5) (r :: l :: s, b) = some (jn false (-5) l r :: s, false) := by
  have e : ev_s q f m (-5) (r :: l :: s, b) = some (jn q (-5) l r :: s, false) := rfl
  rw [e]
  have e2 : jn q (-5) l r = jn false (-5) l r := by
    cases q
    · rfl
    · rcases hl with rfl | rfl <;> rcases hr with rfl | rfl <;> decide
  rw [e2]
theorem ev_or {l r : Int32} (hl : is01 l) (hr : is01 r) (s : List Int32) (b : Bool) : ev_s q f m (-4) (r :: l :: s, b) = some (jn false (-4) l r :: s, false) := by
  have e : ev_s q f m (-4) (r :: l :: s, b) = some (jn q (-4) l r :: s, false) := rfl
  rw [e]
  have e2 : jn q (-4) l r = jn false (-4) l r := by
    cases q
    · rfl
    · rcases hl with rfl | rfl <;> rcases hr with rfl | rfl <;> decide
  rw [e2]
theorem and01 {l r : Int32} (hl : is01 l) (hr : is01 r) : is01 (jn false (-5) l r) := by
  rcases hl with rfl | rfl <;> rcases hr with rfl | rfl <;> decide
theorem or01 {l r : Int32} (hl : is01 l) (hr : is01 r) : is01 (jn false (-4) l r) := by
  rcases hl with rfl | rfl <;> rcases hr with rfl | rfl <;> decide
theorem cmp01 {z : Int} (h : (-25) ≤ z ∧ z ≤ -23) (l r : Int32) : is01 (jn false z l r) := by
  rcases (show z = -23 ∨ z = -24 ∨ z = -25 by omega) with e | e | e <;> rw [e]
  · show is01 (if l < r then 1 else 0)
    split
    · exact Or.inr rfl
    · exact Or.inl rfl
  · show is01 (if l = r then 1 else 0)
    split
    · exact Or.inr rfl
    · exact Or.inl rfl
  · show is01 (if r < l then 1 else 0)
    split
    · exact Or.inr rfl
    · exact Or.inl rfl
theorem ev_not {v : Int32} (h : is01 v) (s : List Int32) (b : Bool) : ev_s q f m (-6) (v :: s, b) = some ((1 - v) :: s, false) := by
  have e : ev_s q f m (-6) (v :: s, b) = some ((if q = true then 1 - v else if v = 0 then 1 else 0) :: s, false) := rfl
  rw [e]
  have e2 : (if q = true then 1 - v else if v = 0 then 1 else 0) = 1 - v := by
    cases q
    · rcases h with rfl | rfl <;> decide
    · rfl
  rw [e2]
theorem not01 {v : Int32} (h : is01 v) : is01 (1 - v) := by
  rcases h with rfl | rfl <;> decide
end EV
/-! what the grammar's codes mean -/
abbrev stk (h : Int) (x y : Int32) (s : List Int32) : List Int32 := if h = -27 then y :: s else y :: x :: s
abbrev stw (w : Nat) (x y : Int32) (s : List Int32) : List Int32 := if w = 1 then x :: y :: s else x :: s
theorem ofI_ne {z : Int} (h : 0 < z ∧ z ≤ 9999) : Int32.ofInt z ≠ 0 := fun e => by
  have q := congrArg Int32.toInt e
  rw [ti_of (by omega) (by omega)] at q
  have z0 : (0 : Int32).toInt = 0 := rfl
  omega
section MEAN
variable {T : Nat → Int} {k : Nat}
/-- a unit -/
theorem ps_Um (hr : ∀ j, (-27) ≤ T j ∧ T j ≤ 9999) {i : Nat} (z : (ps_U T i).1 = 0) : ps_U T i = (0, i + 1, [T i]) ∧ ((0 ≤ T i ∧ T i ≤ 9999) ∨ ((-15) ≤ T i ∧ T i ≤ -7)) := by
  have r := hr i
  rcases psU_c (T := T) i with ⟨e, u⟩ | ⟨e, u⟩
  · exact ⟨e, by omega⟩
  · rw [e] at z
    cases z
theorem psS_m (hr : ∀ j, (-27) ≤ T j ∧ T j ≤ 9999) (f : Nat → Int32) : ∀ k h i, (h = -27 ∨ h = -17 ∨ h = -18) → (ps_S T k h i).1 = 0 → ∀ x y : Int32, ∃ v : Int32, ∀ (q : Bool) (m : Nat) (s : List Int32) (b : Bool), s.length + 3 ≤ m → ∃ b', ev_r q f m (ps_S T k h i).2.2 (stk h x y s, b) = some (v :: s, b') := by
  intro k
  induction k with
  | zero =>
    intro h i _ z
    exact absurd (show (9 : Nat) = 0 from z) (by decide)
  | succ k ih =>
    intro h i hh z x y
    -- what waits is told
    have told : ∃ y1 : Int32, ∀ (q : Bool) (m : Nat) (s : List Int32) (b : Bool), ∃ b', ev_r q f m (ps_h h) (stk h x y s, b) = some (y1 :: s, b') := by
      rcases hh with e | e | e <;> rw [e]
      · exact ⟨y, fun q m s b => ⟨b, rfl⟩⟩
      · exact ⟨jn false (-17) x y, fun q m s b => ⟨false, ev_one (ev_j (by decide) x y s b)⟩⟩
      · exact ⟨jn false (-18) x y, fun q m s b => ⟨false, ev_one (ev_j (by decide) x y s b)⟩⟩
    have ls : ∀ s : List Int32, (stk h x y s).length ≤ s.length + 2 := fun s => by
      unfold stk
      split <;> simp only [List.length_cons] <;> omega
    unfold ps_S at z ⊢
    by_cases c : (-20) ≤ T i ∧ T i ≤ -17
    · rw [if_pos c] at z ⊢
      by_cases c2 : T i = -17 ∨ T i = -18
      · rw [if_pos c2] at z ⊢
        by_cases u : (ps_U T (i + 1)).1 = 0
        · rw [if_pos u] at z ⊢
          obtain ⟨e, ur⟩ := ps_Um hr u
          rw [e] at z ⊢
          dsimp only at z ⊢
          obtain ⟨y1, h1⟩ := told
          obtain ⟨v, h2⟩ := ih (T i) (i + 2) (by omega) z y1 (uV f (T (i + 1)))
          refine ⟨v, fun q m s b hs => ?_⟩
          obtain ⟨b1, g1⟩ := h1 q m s b
          obtain ⟨b2, g2⟩ := h2 q m s (decide (0 < T (i + 1))) hs
          refine ⟨b2, ev_seq g1 (ev_seq (ev_one (ev_u ur b1 (by simp only [List.length_cons]; omega))) ?_)⟩
          have es : stk (T i) y1 (uV f (T (i + 1))) s = uV f (T (i + 1)) :: y1 :: s := if_neg (by omega)
          rw [← es]
          exact g2
        · rw [if_neg u] at z
          exact absurd z u
      · rw [if_neg c2] at z ⊢
        by_cases c3 : T i = -20 ∧ T (i + 1) < 0
        · rw [if_pos c3] at z
          cases z
        · rw [if_neg c3] at z ⊢
          by_cases c4 : T i = -20 ∧ T (i + 1) = 0
          · rw [if_pos c4] at z
            cases z
          · rw [if_neg c4] at z ⊢
            by_cases u : (ps_U T (i + 1)).1 = 0
            · rw [if_pos u] at z ⊢
              obtain ⟨e, ur⟩ := ps_Um hr u
              rw [e] at z ⊢
              dsimp only at z ⊢
              obtain ⟨v, h2⟩ := ih h (i + 2) hh z x (jn false (T i) y (uV f (T (i + 1))))
              refine ⟨v, fun q m s b hs => ?_⟩
              obtain ⟨b2, g2⟩ := h2 q m s false hs
              have l := ls s
              refine ⟨b2, ev_seq (ev_one (ev_u ur b (by omega))) (ev_cons ?_ g2)⟩
              have join : ∀ t : List Int32, ev_s q f m (T i) (uV f (T (i + 1)) :: y :: t, decide (0 < T (i + 1))) = some (jn false (T i) y (uV f (T (i + 1))) :: t, false) := fun t => by
                by_cases d : T i = -20
                · have p : 0 < T (i + 1) := by omega
                  have pd : decide (0 < T (i + 1)) = true := decide_eq_true p
                  rw [d, pd]
                  refine ev_d _ _ _ ?_
                  unfold uV
                  rw [if_pos (by omega)]
                  exact ofI_ne (by omega)
                · exact ev_j (by omega) _ _ _ _
              rcases hh with g | g | g
              · have e1 : stk h x y s = y :: s := if_pos g
                have e2 : stk h x (jn false (T i) y (uV f (T (i + 1)))) s = jn false (T i) y (uV f (T (i + 1))) :: s := if_pos g
                rw [e1, e2]
                exact join s
              · have e1 : stk h x y s = y :: x :: s := if_neg (by omega)
                have e2 : stk h x (jn false (T i) y (uV f (T (i + 1)))) s = jn false (T i) y (uV f (T (i + 1))) :: x :: s := if_neg (by omega)
                rw [e1, e2]
                exact join (x :: s)
              · have e1 : stk h x y s = y :: x :: s := if_neg (by omega)
                have e2 : stk h x (jn false (T i) y (uV f (T (i + 1)))) s = jn false (T i) y (uV f (T (i + 1))) :: x :: s := if_neg (by omega)
                rw [e1, e2]
                exact join (x :: s)
            · rw [if_neg u] at z
              exact absurd z u
    · rw [if_neg c]
      obtain ⟨y1, h1⟩ := told
      exact ⟨y1, fun q m s b _ => h1 q m s b⟩
theorem psE_m (hr : ∀ j, (-27) ≤ T j ∧ T j ≤ 9999) (f : Nat → Int32) {i : Nat} (z : (ps_E T k i).1 = 0) : ∃ v : Int32, ∀ (q : Bool) (m : Nat) (s : List Int32) (b : Bool), s.length + 3 ≤ m → ∃ b', ev_r q f m (ps_E T k i).2.2 (s, b) = some (v :: s, b') := by
  unfold ps_E at z ⊢
  by_cases u : (ps_U T i).1 = 0
  · rw [if_pos u] at z ⊢
    obtain ⟨e, ur⟩ := ps_Um hr u
    rw [e] at z ⊢
    dsimp only at z ⊢
    obtain ⟨v, h2⟩ := psS_m hr f k (-27) (i + 1) (Or.inl rfl) z 0 (uV f (T i))
    refine ⟨v, fun q m s b hs => ?_⟩
    obtain ⟨b2, g2⟩ := h2 q m s (decide (0 < T i)) hs
    exact ⟨b2, ev_seq (ev_one (ev_u ur b (by omega))) g2⟩
  · rw [if_neg u] at z
    exact absurd z u
theorem psM_m (hr : ∀ j, (-27) ≤ T j ∧ T j ≤ 9999) (f : Nat → Int32) {i : Nat} (z : (ps_M T k i).1 = 0) : ∃ v : Int32, is01 v ∧ ∀ (q : Bool) (m : Nat) (s : List Int32) (b : Bool), s.length + 4 ≤ m → ∃ b', ev_r q f m (ps_M T k i).2.2 (s, b) = some (v :: s, b') := by
  unfold ps_M at z ⊢
  by_cases h1 : (ps_E T k i).1 = 0
  · rw [if_pos h1] at z ⊢
    by_cases h2 : (-25) ≤ T (ps_E T k i).2.1 ∧ T (ps_E T k i).2.1 ≤ -23
    · rw [if_pos h2] at z ⊢
      by_cases h3 : (ps_E T k ((ps_E T k i).2.1 + 1)).1 = 0
      · rw [if_pos h3]
        obtain ⟨v1, g1⟩ := psE_m hr f h1
        obtain ⟨v2, g2⟩ := psE_m hr f h3
        refine ⟨jn false (T (ps_E T k i).2.1) v1 v2, cmp01 h2 v1 v2, fun q m s b hs => ?_⟩
        obtain ⟨b1, k1⟩ := g1 q m s b (by omega)
        obtain ⟨b2, k2⟩ := g2 q m (v1 :: s) b1 (by simp only [List.length_cons]; omega)
        exact ⟨false, ev_seq k1 (ev_seq k2 (ev_one (ev_j (Or.inr h2) v1 v2 s b2)))⟩
      · rw [if_neg h3] at z
        exact absurd z h3
    · rw [if_neg h2] at z
      cases z
  · rw [if_neg h1] at z
    exact absurd z h1
/-- a condition -/
def mC (T : Nat → Int) (k fu : Nat) : Prop := ∀ (f : Nat → Int32) (o w i : Nat), o ≤ 8 → (ps_G T k fu 0 o w i).1 = 0 → ∃ v : Int32, is01 v ∧ ∀ (q : Bool) (m : Nat) (s : List Int32) (b : Bool), s.length + 2 * (8 - o) + 4 ≤ m → ∃ b', ev_r q f m (ps_G T k fu 0 o w i).2.2 (s, b) = some (v :: s, b')
/-- what follows a condition -/
def mA (T : Nat → Int) (k fu : Nat) : Prop := ∀ (f : Nat → Int32) (o w i : Nat), o ≤ 8 → w ≤ 1 → (ps_G T k fu 1 o w i).1 = 0 → ∀ x y : Int32, is01 x → is01 y → ∃ v : Int32, is01 v ∧ ∀ (q : Bool) (m : Nat) (s : List Int32) (b : Bool), s.length + 2 * (8 - o) + 6 ≤ m → ∃ b', ev_r q f m (ps_G T k fu 1 o w i).2.2 (stw w x y s, b) = some (v :: s, b')
theorem mC_s (hr : ∀ j, (-27) ≤ T j ∧ T j ≤ 9999) {fu : Nat} (hC : mC T k fu) (hA : mA T k fu) : mC T k (fu + 1) := by
  intro f o w i ho z
  unfold ps_G at z ⊢
  by_cases c : T i = -6
  · rw [if_pos c] at z ⊢
    by_cases d : 8 ≤ o
    · rw [if_pos d] at z
      cases z
    · rw [if_neg d] at z ⊢
      by_cases h : (ps_G T k fu 0 (o + 1) 0 (i + 1)).1 = 0
      · rw [if_pos h]
        obtain ⟨v, hv, g⟩ := hC f (o + 1) 0 (i + 1) (by omega) h
        refine ⟨1 - v, not01 hv, fun q m s b hs => ?_⟩
        obtain ⟨b1, k1⟩ := g q m s b (by omega)
        exact ⟨false, ev_seq k1 (ev_one (ev_not hv s b1))⟩
      · rw [if_neg h] at z
        exact absurd z h
  · rw [if_neg c] at z ⊢
    by_cases c2 : T i = -21
    · rw [if_pos c2] at z ⊢
      by_cases d : 8 ≤ o
      · rw [if_pos d] at z
        cases z
      · rw [if_neg d] at z ⊢
        by_cases h : (ps_G T k fu 0 (o + 1) 0 (i + 1)).1 = 0
        · rw [if_pos h] at z ⊢
          by_cases h2 : (ps_G T k fu 1 (o + 1) 0 (ps_G T k fu 0 (o + 1) 0 (i + 1)).2.1).1 = 0
          · rw [if_pos h2] at z ⊢
            by_cases h3 : T (ps_G T k fu 1 (o + 1) 0 (ps_G T k fu 0 (o + 1) 0 (i + 1)).2.1).2.1 = -22
            · rw [if_pos h3]
              obtain ⟨v, hv, g⟩ := hC f (o + 1) 0 (i + 1) (by omega) h
              obtain ⟨v2, hv2, g2⟩ := hA f (o + 1) 0 _ (by omega) (by decide) h2 v 0 hv (Or.inl rfl)
              refine ⟨v2, hv2, fun q m s b hs => ?_⟩
              obtain ⟨b1, k1⟩ := g q m s b (by omega)
              obtain ⟨b2, k2⟩ := g2 q m s b1 (by omega)
              exact ⟨b2, ev_seq k1 k2⟩
            · rw [if_neg h3] at z
              cases z
          · rw [if_neg h2] at z
            exact absurd z h2
        · rw [if_neg h] at z
          exact absurd z h
    · rw [if_neg c2] at z ⊢
      obtain ⟨v, hv, g⟩ := psM_m hr f z
      exact ⟨v, hv, fun q m s b hs => g q m s b (by omega)⟩
theorem mA_s {fu : Nat} (hC : mC T k fu) (hA : mA T k fu) : mA T k (fu + 1) := by
  intro f o w i ho hw z x y hx hy
  unfold ps_G at z ⊢
  -- an or that waits is told
  have told : ∃ x1 : Int32, is01 x1 ∧ ∀ (q : Bool) (m : Nat) (s : List Int32) (b : Bool), ∃ b', ev_r q f m (if w = 1 then [-4] else []) (stw w x y s, b) = some (x1 :: s, b') := by
    rcases (show w = 0 ∨ w = 1 by omega) with e | e <;> rw [e]
    · exact ⟨x, hx, fun q m s b => ⟨b, rfl⟩⟩
    · exact ⟨jn false (-4) y x, or01 hy hx, fun q m s b => ⟨false, ev_one (ev_or hy hx s b)⟩⟩
  by_cases c : T i = -4
  · rw [if_pos c] at z ⊢
    by_cases h : (ps_G T k fu 0 o 0 (i + 1)).1 = 0
    · rw [if_pos h] at z ⊢
      obtain ⟨x1, hx1, g1⟩ := told
      obtain ⟨v, hv, g⟩ := hC f o 0 (i + 1) ho h
      obtain ⟨v2, hv2, g2⟩ := hA f o 1 _ ho (by decide) z v x1 hv hx1
      refine ⟨v2, hv2, fun q m s b hs => ?_⟩
      obtain ⟨b1, k1⟩ := g1 q m s b
      obtain ⟨b2, k2⟩ := g q m (x1 :: s) b1 (by simp only [List.length_cons]; omega)
      obtain ⟨b3, k3⟩ := g2 q m s b2 hs
      exact ⟨b3, ev_seq k1 (ev_seq k2 k3)⟩
    · rw [if_neg h] at z
      exact absurd z h
  · rw [if_neg c] at z ⊢
    by_cases c2 : T i = -5
    · rw [if_pos c2] at z ⊢
      by_cases h : (ps_G T k fu 0 o 0 (i + 1)).1 = 0
      · rw [if_pos h] at z ⊢
        obtain ⟨v, hv, g⟩ := hC f o 0 (i + 1) ho h
        obtain ⟨v2, hv2, g2⟩ := hA f o w _ ho hw z (jn false (-5) x v) y (and01 hx hv) hy
        refine ⟨v2, hv2, fun q m s b hs => ?_⟩
        obtain ⟨b3, k3⟩ := g2 q m s false hs
        rcases (show w = 0 ∨ w = 1 by omega) with e | e
        · have e1 : stw w x y s = x :: s := if_neg (by omega)
          have e2 : stw w (jn false (-5) x v) y s = jn false (-5) x v :: s := if_neg (by omega)
          rw [e2] at k3
          rw [e1]
          obtain ⟨b2, k2⟩ := g q m (x :: s) b (by simp only [List.length_cons]; omega)
          exact ⟨b3, ev_seq k2 (ev_cons (ev_and hx hv s b2) k3)⟩
        · have e1 : stw w x y s = x :: y :: s := if_pos e
          have e2 : stw w (jn false (-5) x v) y s = jn false (-5) x v :: y :: s := if_pos e
          rw [e2] at k3
          rw [e1]
          obtain ⟨b2, k2⟩ := g q m (x :: y :: s) b (by simp only [List.length_cons]; omega)
          exact ⟨b3, ev_seq k2 (ev_cons (ev_and hx hv (y :: s) b2) k3)⟩
      · rw [if_neg h] at z
        exact absurd z h
    · rw [if_neg c2]
      obtain ⟨x1, hx1, g1⟩ := told
      exact ⟨x1, hx1, fun q m s b _ => g1 q m s b⟩
theorem mG_m (hr : ∀ j, (-27) ≤ T j ∧ T j ≤ 9999) : ∀ fu, mC T k fu ∧ mA T k fu
  | 0 => ⟨fun f o w i _ z => absurd (show (9 : Nat) = 0 from z) (by decide), fun f o w i _ _ z => absurd (show (9 : Nat) = 0 from z) (by decide)⟩
  | fu + 1 => ⟨mC_s hr (mG_m hr fu).1 (mG_m hr fu).2, mA_s (mG_m hr fu).1 (mG_m hr fu).2⟩
theorem psA_m (hr : ∀ j, (-27) ≤ T j ∧ T j ≤ 9999) (f : Nat → Int32) {i : Nat} (z : (ps_A T i).1 = 0) : ∃ v : Int32, is01 v ∧ ∀ (q : Bool) (m : Nat) (s : List Int32) (b : Bool), s.length + 22 ≤ m → ∃ b', ev_r q f m (ps_A T i).2.2 (s, b) = some (v :: s, b') := by
  unfold ps_A at z ⊢
  by_cases h : (ps_G T 500 1500 0 0 0 i).1 = 0
  · rw [if_pos h] at z ⊢
    obtain ⟨v, hv, g⟩ := (mG_m (k := 500) hr 1500).1 f 0 0 i (by decide) h
    obtain ⟨v2, hv2, g2⟩ := (mG_m (k := 500) hr 1500).2 f 0 0 _ (by decide) (by decide) z v 0 hv (Or.inl rfl)
    refine ⟨v2, hv2, fun q m s b hs => ?_⟩
    obtain ⟨b1, k1⟩ := g q m s b (by omega)
    obtain ⟨b2, k2⟩ := g2 q m s b1 (by omega)
    exact ⟨b2, ev_seq k1 k2⟩
  · rw [if_neg h] at z
    exact absurd z h
end MEAN
/-- a line's codes: pay or bar last; no condition, or one that comes to 0 or 1 on both sides -/
def lnW (l : List Int) : Prop := (l = [1, -1] ∨ l = [1, -2]) ∨ ∃ d z, l = d ++ [z] ∧ (z = -1 ∨ z = -2) ∧ 2 ≤ d.length ∧ ∀ f : Nat → Int32, ∃ v : Int32, is01 v ∧ ∀ (q : Bool) (m : Nat) (s : List Int32) (b : Bool), s.length + 22 ≤ m → ∃ b', ev_r q f m d (s, b) = some (v :: s, b')
section LNS
variable {T : Nat → Int}
theorem ps1_w (hr : ∀ j, (-27) ≤ T j ∧ T j ≤ 9999) {m i : Nat} (z : (ps_1 T m i).1 = 0) : lnW (ps_1 T m i).2.2 := by
  unfold ps_1 at z ⊢
  by_cases c : T i = -1 ∨ T i = -2
  · rw [if_pos c] at z ⊢
    by_cases d : 16 ≤ m
    · rw [if_pos d] at z
      cases z
    · rw [if_neg d] at z ⊢
      by_cases e : T (i + 1) = -3
      · by_cases h : (ps_A T (i + 2)).1 = 0
        · by_cases g : T (ps_A T (i + 2)).2.1 = -16
          · rw [psL_1 e h g]
            exact Or.inr ⟨(ps_A T (i + 2)).2.2, T i, rfl, c, psA_n _ h, fun f => psA_m hr f h⟩
          · rw [psL_2 e h g] at z
            cases z
        · rw [psL_3 e h] at z
          exact absurd z h
      · by_cases g : T (i + 1) = -16
        · rw [psL_4 e g]
          refine Or.inl ?_
          rcases c with c | c
          · exact Or.inl (by show [1, T i] = [1, -1]; rw [c])
          · exact Or.inr (by show [1, T i] = [1, -2]; rw [c])
        · rw [psL_5 e g] at z
          cases z
  · rw [if_neg c] at z
    cases z
theorem psX_w (hr : ∀ j, (-27) ≤ T j ∧ T j ≤ 9999) : ∀ g m i, (ps_X T g m i).1 = 0 → ∀ l ∈ (ps_X T g m i).2.2, lnW l := by
  intro g
  induction g with
  | zero =>
    intro m i z
    exact absurd (show (9 : Nat) = 0 from z) (by decide)
  | succ g ih =>
    intro m i z l hl
    by_cases e : T i = -26
    · rw [psX_e e] at hl
      cases hl
    · by_cases h : (ps_1 T m i).1 = 0
      · rw [psX_o h] at z hl
        rcases List.mem_cons.mp hl with rfl | hl
        · exact ps1_w hr h
        · exact ih _ _ z l hl
      · have b := psX_b (g := g) e h
        rw [b.1] at z
        exact absurd z h
end LNS
