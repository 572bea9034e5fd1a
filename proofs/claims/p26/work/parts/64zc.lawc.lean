/-! the law is asked: the class -/
theorem jn_23 (q : Bool) (l r : Int32) : jn q (-23) l r = if l < r then 1 else 0 := rfl
theorem jn_24 (q : Bool) (l r : Int32) : jn q (-24) l r = if l = r then 1 else 0 := rfl
theorem jn_25 (q : Bool) (l r : Int32) : jn q (-25) l r = if r < l then 1 else 0 := rfl
theorem jn_4 (q : Bool) (l r : Int32) : jn q (-4) l r = if q = true then (if 0 < l + r then 1 else 0) else l ||| r := rfl
/-- the class's stack -/
abbrev cs_R (σ : pm_S) (S : List Int32) : Prop := sI σ 31 2 = (S.length : Int) ∧ S.length ≤ 40 ∧ ∀ j, j < S.length → σ.1 33 j = S.getD (S.length - 1 - j) 0
abbrev FLw : List (Nat × Nat) := [(31, 2), (33, 9999)]
theorem cs_R.fq {σ τ : pm_S} {S : List Int32} (h : cs_R σ S) {G : List (Nat × Nat)} (hG : (an_inF G 31 2 || an_inP G 33) = false) (F : FQ G σ τ) : cs_R τ S := by
  rw [Bool.or_eq_false_iff] at hG
  exact ⟨(congrArg Int32.toInt (F 31 2 hG.1)).trans h.1, h.2.1, fun j hj => (F 33 j (an_inP_ok hG.2 j)).trans (h.2.2 j hj)⟩
set_option maxRecDepth 20000 in
theorem x_push {σ : pm_S} {S : List Int32} (v : Int) (hv : (-2147483648) ≤ v ∧ v ≤ 2147483647) (hS : S.length < 40) (hB : an_GB pm_B σ) (hR : cs_R σ S) : Sp 20 2 [.ref 31, .int (Int32.ofInt v)] σ (fun r τ => r = none ∧ an_GB pm_B τ ∧ FQ FLw σ τ ∧ cs_R τ (Int32.ofInt v :: S)) := by
  refine Sp.at rfl rfl ?_
  refine pl_p0 v S.length hB ⟨hv, by omega, trivial⟩ ⟨hR.1, trivial⟩ ?_
  intro τ1 y1 hB1 F1 _ _ _ c1
  refine Ok.ast (n := 40) rfl rfl rfl (by decide) (by omega) (by omega) ?_
  have hB2 : an_GB pm_B (put τ1 33 ((S.length : Int)).toNat (Int32.ofInt v)) := put_GB hB1 (ai_rng _)
  refine pl_p15 v S.length hB2 ⟨hv, by omega, trivial⟩ ⟨by rw [put_nr (by decide)]; exact c1.1, trivial⟩ ?_
  intro τ3 y3 hB3 F3 _ _ _ c3
  refine ⟨rfl, hB3, FQ.tr (FQ.up (G := []) rfl F1) (FQ.tr (FQ.put rfl) (FQ.up (G := [(31, 2)]) rfl F3)), ?_, by show S.length + 1 ≤ 40; omega, fun j hj => ?_⟩
  · show (τ3.1 31 2).toInt = ((S.length + 1 : Nat) : Int)
    rw [c3.1]
    omega
  · have hj : j < S.length + 1 := hj
    show τ3.1 33 j = (Int32.ofInt v :: S).getD (S.length + 1 - 1 - j) 0
    rw [F3 33 j rfl, put_get, Int.toNat_natCast]
    by_cases e : j = S.length
    · rw [if_pos ⟨rfl, e⟩, e, show S.length + 1 - 1 - S.length = 0 by omega]
      rfl
    · rw [if_neg (fun z => e z.2), F1 33 j rfl, hR.2.2 j (by omega), show S.length + 1 - 1 - j = (S.length - 1 - j) + 1 by omega]
      rfl
set_option maxRecDepth 20000 in
theorem x_pop {σ : pm_S} {v : Int32} {S : List Int32} (hB : an_GB pm_B σ) (hR : cs_R σ (v :: S)) : Sp 21 2 [.ref 31] σ (fun r τ => r = some (.int (Int32.ofInt v.toInt)) ∧ an_GB pm_B τ ∧ FQ [(31, 2)] σ τ ∧ cs_R τ S) := by
  have h1 : sI σ 31 2 = ((S.length + 1 : Nat) : Int) := hR.1
  have h2 : S.length + 1 ≤ 40 := hR.2.1
  refine Sp.at rfl rfl ?_
  refine pl_o0 ((S.length + 1 : Nat) : Int) hB ⟨by omega, trivial⟩ ⟨h1, trivial⟩ ?_
  intro τ1 y1 hB1 F1 _ _ _ c1
  refine Ok.ald (n := 40) rfl rfl rfl (by decide) (by omega) (by omega) ?_
  have ev : τ1.1 33 (((S.length + 1 : Nat) : Int) + (-1)).toNat = v := by
    rw [show (((S.length + 1 : Nat) : Int) + (-1)).toNat = S.length by omega, F1 33 _ rfl]
    have q := hR.2.2 S.length (show S.length < S.length + 1 by omega)
    have e0 : (v :: S).length - 1 - S.length = 0 := by
      show S.length + 1 - 1 - S.length = 0
      omega
    rw [e0] at q
    exact q
  rw [ev]
  refine pl_o22 v.toInt hB1 ⟨ai_rng _, trivial⟩ ?_
  intro τ2 y2 hB2 F2 _ _ _ _
  refine ⟨rfl, hB2, FQ.tr F1 (FQ.up (G := []) rfl F2), ?_, by omega, fun j hj => ?_⟩
  · have e : sI τ2 31 2 = sI τ1 31 2 := congrArg Int32.toInt (F2 31 2 rfl)
    rw [e, show sI τ1 31 2 = ((S.length + 1 : Nat) : Int) + (-1) from c1.1]
    omega
  · rw [F2 33 j rfl, F1 33 j rfl, hR.2.2 j (show j < S.length + 1 by omega), show (v :: S).length - 1 - j = (S.length - 1 - j) + 1 by show S.length + 1 - 1 - j = _; omega]
    rfl
/-- signs that join -/
abbrev isJ (z : Int) : Prop := z = -4 ∨ z = -5 ∨ ((-20) ≤ z ∧ z ≤ -17) ∨ ((-25) ≤ z ∧ z ≤ -23)
theorem lt_i {a b : Int} (ha : (-2147483648) ≤ a ∧ a ≤ 2147483647) (hb : (-2147483648) ≤ b ∧ b ≤ 2147483647) : Int32.ofInt a < Int32.ofInt b ↔ a < b := by
  rw [Int32.lt_iff_toInt_lt, ti_of ha.1 ha.2, ti_of hb.1 hb.2]
theorem eq_i {a b : Int} (ha : (-2147483648) ≤ a ∧ a ≤ 2147483647) (hb : (-2147483648) ≤ b ∧ b ≤ 2147483647) : Int32.ofInt a = Int32.ofInt b ↔ a = b := by
  refine ⟨fun h => ?_, fun h => by rw [h]⟩
  have q := congrArg Int32.toInt h
  rw [ti_of ha.1 ha.2, ti_of hb.1 hb.2] at q
  exact q
set_option maxRecDepth 20000 in
theorem x_join {σ : pm_S} (z l r : Int) (hz : isJ z) (hl : (-2147483648) ≤ l ∧ l ≤ 2147483647) (hr : (-2147483648) ≤ r ∧ r ≤ 2147483647) (h0 : z = -20 → r ≠ 0) (hB : an_GB pm_B σ) : Sp 18 2 [.int (Int32.ofInt z), .int (Int32.ofInt l), .int (Int32.ofInt r)] σ (fun v τ => v = some (.int (Int32.ofInt (jn false z (Int32.ofInt l) (Int32.ofInt r)).toInt)) ∧ an_GB pm_B τ ∧ FQ [] σ τ) := by
  rw [oI]
  refine Sp.at rfl rfl ?_
  rcases (show z = -4 ∨ z = -5 ∨ z = -17 ∨ z = -18 ∨ z = -19 ∨ z = -20 ∨ z = -23 ∨ z = -24 ∨ z = -25 by omega) with e | e | e | e | e | e | e | e | e <;> subst e
  · refine pl_j4 l r hB ⟨hl, hr, trivial⟩ ?_
    intro τ y hB1 F1 _ _ d _
    exact ⟨by rw [← d.1, oI]; rfl, hB1, F1⟩
  · refine pl_j5 l r hB ⟨hl, hr, trivial⟩ ?_
    intro τ y hB1 F1 _ _ d _
    exact ⟨by rw [← d.1, oI]; rfl, hB1, F1⟩
  · refine pl_j17 l r hB ⟨hl, hr, trivial⟩ ?_
    intro τ y hB1 F1 _ _ d _
    exact ⟨by rw [← d.1, oI]; rfl, hB1, F1⟩
  · refine pl_j18 l r hB ⟨hl, hr, trivial⟩ ?_
    intro τ y hB1 F1 _ _ d _
    exact ⟨by rw [← d.1, oI]; rfl, hB1, F1⟩
  · refine pl_j19 l r hB ⟨hl, hr, trivial⟩ ?_
    intro τ y hB1 F1 _ _ d _
    exact ⟨by rw [← d.1, oI]; rfl, hB1, F1⟩
  · refine pl_j20 l r hB ⟨hl, hr, trivial⟩ ?_ ?_
    · intro τ y hB1 F1 _ _ d _
      have e : jn false (-20) (Int32.ofInt l) (Int32.ofInt r) = an_f 9 (Int32.ofInt l) (Int32.ofInt r) := rfl
      exact ⟨by rw [← d.1, oI, e], hB1, F1⟩
    · intro τ y hB1 F1 f _ _ _
      have f2 := f.2.1
      exact absurd (show r = 0 by omega) (h0 rfl)
  · refine pl_j23 l r hB ⟨hl, hr, trivial⟩ ?_
    intro τ y hB1 F1 _ _ _ _
    refine Ok.ic rfl rfl (by omega) (by omega) (by omega) (by omega) (fun h => ?_) (fun h => ?_)
    · have h : r ≤ l := h
      refine pl_j23f l r hB1 ⟨hl, hr, trivial⟩ ?_
      intro τ2 y2 hB2 F2 _ _ _ _
      have e : jn false (-23) (Int32.ofInt l) (Int32.ofInt r) = 0 := (jn_23 _ _ _).trans (if_neg (by rw [lt_i hl hr]; omega))
      exact ⟨by rw [e]; rfl, hB2, FQ.tr F1 F2⟩
    · have h : l < r := h
      refine pl_j23t l r hB1 ⟨hl, hr, trivial⟩ ?_
      intro τ2 y2 hB2 F2 _ _ _ _
      have e : jn false (-23) (Int32.ofInt l) (Int32.ofInt r) = 1 := (jn_23 _ _ _).trans (if_pos (by rw [lt_i hl hr]; omega))
      exact ⟨by rw [e]; rfl, hB2, FQ.tr F1 F2⟩
  · refine pl_j24 l r hB ⟨hl, hr, trivial⟩ ?_
    intro τ y hB1 F1 _ _ _ _
    refine Ok.ic rfl rfl (by omega) (by omega) (by omega) (by omega) (fun h => ?_) (fun h => ?_)
    · have h : l ≠ r := h
      refine pl_j24f l r hB1 ⟨hl, hr, trivial⟩ ?_
      intro τ2 y2 hB2 F2 _ _ _ _
      have e : jn false (-24) (Int32.ofInt l) (Int32.ofInt r) = 0 := (jn_24 _ _ _).trans (if_neg (by rw [eq_i hl hr]; omega))
      exact ⟨by rw [e]; rfl, hB2, FQ.tr F1 F2⟩
    · have h : l = r := h
      refine pl_j24t l r hB1 ⟨hl, hr, trivial⟩ ?_
      intro τ2 y2 hB2 F2 _ _ _ _
      have e : jn false (-24) (Int32.ofInt l) (Int32.ofInt r) = 1 := (jn_24 _ _ _).trans (if_pos (by rw [eq_i hl hr]; omega))
      exact ⟨by rw [e]; rfl, hB2, FQ.tr F1 F2⟩
  · refine pl_j25 l r hB ⟨hl, hr, trivial⟩ ?_
    intro τ y hB1 F1 _ _ _ _
    refine Ok.ic rfl rfl (by omega) (by omega) (by omega) (by omega) (fun h => ?_) (fun h => ?_)
    · have h : l ≤ r := h
      refine pl_j25f l r hB1 ⟨hl, hr, trivial⟩ ?_
      intro τ2 y2 hB2 F2 _ _ _ _
      have e : jn false (-25) (Int32.ofInt l) (Int32.ofInt r) = 0 := (jn_25 _ _ _).trans (if_neg (by rw [lt_i hr hl]; omega))
      exact ⟨by rw [e]; rfl, hB2, FQ.tr F1 F2⟩
    · have h : r < l := h
      refine pl_j25t l r hB1 ⟨hl, hr, trivial⟩ ?_
      intro τ2 y2 hB2 F2 _ _ _ _
      have e : jn false (-25) (Int32.ofInt l) (Int32.ofInt r) = 1 := (jn_25 _ _ _).trans (if_pos (by rw [lt_i hr hl]; omega))
      exact ⟨by rw [e]; rfl, hB2, FQ.tr F1 F2⟩
set_option maxRecDepth 20000 in
theorem x_step {f : Nat → Int32} {σ : pm_S} {S S' : List Int32} {b b' : Bool} (z : Int) (h : ev_s false f 40 z (S, b) = some (S', b')) (hB : an_GB pm_B σ) (hf : ∀ j, j < 9 → σ.1 75 j = f j) (hR : cs_R σ S) : Sp 17 5 [.ref 31, .int (Int32.ofInt z), .ref 75] σ (fun r τ => r = none ∧ an_GB pm_B τ ∧ FQ FLw σ τ ∧ cs_R τ S') := by
  unfold ev_s at h
  refine Sp.at rfl rfl ?_
  by_cases c1 : 0 ≤ z ∧ z ≤ 9999
  · rw [if_pos c1] at h
    split at h
    · rename_i hl
      injection h with h
      injection h with h _
      rw [← h]
      refine pl_s0 z _ _ rfl rfl hB ⟨c1, trivial⟩ ?_
      intro τ1 y1 u3 u4 k3 k4 hB1 F1 _ _ _ _
      refine Ok.cv rfl rfl rfl rfl rfl rfl rfl ?_
      refine (x_push z (by omega) hl hB1 (hR.fq (G := []) rfl F1)).use (by decide) (fun r τ2 q => ?_)
      obtain ⟨rfl, hB2, F2, R2⟩ := q
      refine pl_s5 _ u3 u4 rfl k3 k4 hB2 ?_
      intro τ3 y3 hB3 F3 _ _ _ _
      exact ⟨rfl, hB3, FQ.tr (FQ.up (G := []) rfl F1) (FQ.tr F2 (FQ.up (G := []) rfl F3)), R2.fq (G := []) rfl F3⟩
    · cases h
  rw [if_neg c1] at h
  by_cases c2 : (-15) ≤ z ∧ z ≤ -7
  · rw [if_pos c2] at h
    split at h
    · rename_i hl
      injection h with h
      injection h with h _
      rw [← h]
      refine pl_s0f z _ _ rfl rfl hB ⟨c2, trivial⟩ ?_
      intro τ1 y1 u4 k4 hB1 F1 f1 _ d1 _
      have ey : y1 1 = -7 - z := subC (by omega) (by omega) d1.1
      refine Ok.ald (n := 9) rfl rfl rfl (by decide) (by omega) (by omega) ?_
      have ev : τ1.1 75 (y1 1).toNat = f (-7 - z).toNat := by
        rw [F1 75 _ rfl, ey]
        exact hf _ (by omega)
      rw [ev]
      refine pl_s21 (f (-7 - z).toNat).toInt _ _ _ rfl rfl k4 hB1 ⟨ai_rng _, trivial⟩ ?_
      intro τ2 y2 u1 u3 u5 k1 k3 k5 hB2 F2 _ _ _ _
      have G2 := FQ.tr F1 F2
      refine Ok.cv rfl rfl rfl rfl rfl rfl rfl ?_
      refine (x_push (f (-7 - z).toNat).toInt (ai_rng _) hl hB2 (hR.fq (G := []) rfl G2)).use (by decide) (fun r τ3 q => ?_)
      obtain ⟨rfl, hB3, F3, R3⟩ := q
      rw [oI] at R3
      refine pl_s24 u1 u3 u5 k1 k3 k5 hB3 ?_
      intro τ4 y4 hB4 F4 _ _ _ _
      exact ⟨rfl, hB4, FQ.tr (FQ.up (G := []) rfl G2) (FQ.tr F3 (FQ.up (G := []) rfl F4)), R3.fq (G := []) rfl F4⟩
    · cases h
  rw [if_neg c2] at h
  by_cases c3 : z = -6
  · rw [if_pos c3] at h
    subst c3
    match S, h, hR with
    | [], h, _ => cases (show (none : Option evS) = some (S', b') from h)
    | v :: t, h, hR =>
      have h : some ((if v = 0 then 1 else 0) :: t, false) = some (S', b') := h
      injection h with h
      injection h with h _
      rw [← h]
      have lt : t.length + 1 ≤ 40 := hR.2.1
      refine pl_s0n _ _ rfl rfl hB ?_
      intro τ1 y1 u3 u4 k3 k4 hB1 F1 _ _ _ _
      refine Ok.cv rfl rfl rfl rfl rfl rfl rfl ?_
      refine (x_pop hB1 (hR.fq (G := []) rfl F1)).use (by decide) (fun r τ2 q => ?_)
      obtain ⟨rfl, hB2, F2, R2⟩ := q
      have G2 : FQ FLw σ τ2 := FQ.tr (FQ.up (G := []) rfl F1) (FQ.up (G := [(31, 2)]) rfl F2)
      refine pl_s31 v.toInt u3 u4 k3 k4 hB2 ⟨ai_rng _, trivial⟩ ?_ ?_
      · intro τ3 y3 w3 w4 m3 m4 hB3 F3 _ rl _ _
        have ne : v ≠ 0 := fun e => rl.1 (by rw [e]; rfl)
        rw [if_neg ne]
        refine Ok.cv rfl rfl rfl rfl rfl rfl rfl ?_
        refine (x_push 0 (by decide) (show t.length < 40 by omega) hB3 (R2.fq (G := []) rfl F3)).use (by decide) (fun r τ4 q => ?_)
        obtain ⟨rfl, hB4, F4, R4⟩ := q
        refine pl_s36 _ w3 w4 rfl m3 m4 hB4 ?_
        intro τ5 y5 hB5 F5 _ _ _ _
        exact ⟨rfl, hB5, FQ.tr G2 (FQ.tr (FQ.up (G := []) rfl F3) (FQ.tr F4 (FQ.up (G := []) rfl F5))), R4.fq (G := []) rfl F5⟩
      · intro τ3 y3 w3 w4 m3 m4 hB3 F3 f3 _ _ _
        have f0 := f3.1
        have e0 : v = 0 := Int32.toInt_inj.mp (show v.toInt = (0 : Int32).toInt by show v.toInt = 0; omega)
        rw [if_pos e0]
        refine Ok.cv rfl rfl rfl rfl rfl rfl rfl ?_
        refine (x_push 1 (by decide) (show t.length < 40 by omega) hB3 (R2.fq (G := []) rfl F3)).use (by decide) (fun r τ4 q => ?_)
        obtain ⟨rfl, hB4, F4, R4⟩ := q
        refine pl_s36 _ w3 w4 rfl m3 m4 hB4 ?_
        intro τ5 y5 hB5 F5 _ _ _ _
        exact ⟨rfl, hB5, FQ.tr G2 (FQ.tr (FQ.up (G := []) rfl F3) (FQ.tr F4 (FQ.up (G := []) rfl F5))), R4.fq (G := []) rfl F5⟩
  rw [if_neg c3] at h
  by_cases c4 : isJ z
  · rw [if_pos c4] at h
    match S, h, hR with
    | [], h, _ => cases (show (none : Option evS) = some (S', b') from h)
    | [_], h, _ => cases (show (none : Option evS) = some (S', b') from h)
    | rr :: ll :: t, h, hR =>
      have h : (if z = -20 ∧ (b = false ∨ rr = 0) then none else some (jn false z ll rr :: t, false)) = some (S', b') := h
      split at h
      · cases h
      · rename_i g
        injection h with h
        injection h with h _
        rw [← h]
        have lt : t.length + 1 + 1 ≤ 40 := hR.2.1
        have h0 : z = -20 → rr.toInt ≠ 0 := fun e w => g ⟨e, Or.inr (Int32.toInt_inj.mp (show rr.toInt = (0 : Int32).toInt from w))⟩
        -- both are taken
        have rest : ∀ (τ1 : pm_S) (u3 u4 : Value), u3.category = 1 → u4.category = 1 → an_GB pm_B τ1 → FQ [] σ τ1 → Ok 17 5 38 [.ref 31, .int (Int32.ofInt z), .ref 75, u3, u4] [.ref 31] τ1 (fun r τ => r = none ∧ an_GB pm_B τ ∧ FQ FLw σ τ ∧ cs_R τ (jn false z ll rr :: t)) := by
          intro τ1 u3 u4 k3 k4 hB1 F1
          refine Ok.cv rfl rfl rfl rfl rfl rfl rfl ?_
          refine (x_pop hB1 (hR.fq (G := []) rfl F1)).use (by decide) (fun r τ2 q => ?_)
          obtain ⟨rfl, hB2, F2, R2⟩ := q
          refine pl_s39 z rr.toInt u3 u4 k3 k4 hB2 ⟨by omega, ai_rng _, trivial⟩ ?_
          intro τ3 y3 w4 m4 hB3 F3 _ _ _ _
          refine Ok.cv rfl rfl rfl rfl rfl rfl rfl ?_
          refine (x_pop hB3 (R2.fq (G := []) rfl F3)).use (by decide) (fun r τ4 q => ?_)
          obtain ⟨rfl, hB4, F4, R4⟩ := q
          refine pl_s42 z rr.toInt ll.toInt w4 m4 hB4 ⟨by omega, ai_rng _, ai_rng _, trivial⟩ ?_
          intro τ5 y5 hB5 F5 _ _ _ _
          refine Ok.cs rfl rfl rfl rfl rfl rfl ?_
          refine (x_join z ll.toInt rr.toInt c4 (ai_rng _) (ai_rng _) h0 hB5).use (by decide) (fun r τ6 q => ?_)
          obtain ⟨rfl, hB6, F6⟩ := q
          refine Ok.cv rfl rfl rfl rfl rfl rfl rfl ?_
          refine (x_push (jn false z (Int32.ofInt ll.toInt) (Int32.ofInt rr.toInt)).toInt (ai_rng _) (show t.length < 40 by omega) hB6 ((R4.fq (G := []) rfl F5).fq (G := []) rfl F6)).use (by decide) (fun r τ7 q => ?_)
          obtain ⟨rfl, hB7, F7, R7⟩ := q
          rw [oI, oI, oI] at R7
          refine pl_s49 _ _ _ rfl rfl rfl hB7 ?_
          intro τ8 y8 hB8 F8 _ _ _ _
          exact ⟨rfl, hB8, FQ.tr (FQ.up (G := []) rfl F1) (FQ.tr (FQ.up (G := [(31, 2)]) rfl F2) (FQ.tr (FQ.up (G := []) rfl F3) (FQ.tr (FQ.up (G := [(31, 2)]) rfl F4) (FQ.tr (FQ.up (G := []) rfl F5) (FQ.tr (FQ.up (G := []) rfl F6) (FQ.tr F7 (FQ.up (G := []) rfl F8))))))), R7.fq (G := []) rfl F8⟩
        by_cases d1 : (-25) ≤ z ∧ z ≤ -23
        · refine pl_s0b1 z _ _ rfl rfl hB ⟨d1, trivial⟩ ?_
          intro τ1 y1 u3 u4 k3 k4 hB1 F1 _ _ _ _
          exact rest τ1 u3 u4 k3 k4 hB1 F1
        · by_cases d2 : (-20) ≤ z ∧ z ≤ -17
          · refine pl_s0b2 z _ _ rfl rfl hB ⟨d2, trivial⟩ ?_
            intro τ1 y1 u3 u4 k3 k4 hB1 F1 _ _ _ _
            exact rest τ1 u3 u4 k3 k4 hB1 F1
          · refine pl_s0b3 z _ _ rfl rfl hB ⟨by omega, trivial⟩ ?_
            intro τ1 y1 u3 u4 k3 k4 hB1 F1 _ _ _ _
            exact rest τ1 u3 u4 k3 k4 hB1 F1
  · rw [if_neg c4] at h
    cases h
/-- which codes have a meaning -/
theorem ev_ok {q : Bool} {f : Nat → Int32} {m : Nat} {z : Int} {s s' : evS} (h : ev_s q f m z s = some s') : (0 ≤ z ∧ z ≤ 9999) ∨ ((-25) ≤ z ∧ z ≤ -4) := by
  unfold ev_s at h
  by_cases c1 : 0 ≤ z ∧ z ≤ 9999
  · exact Or.inl c1
  rw [if_neg c1] at h
  by_cases c2 : (-15) ≤ z ∧ z ≤ -7
  · omega
  rw [if_neg c2] at h
  by_cases c3 : z = -6
  · omega
  rw [if_neg c3] at h
  by_cases c4 : z = -4 ∨ z = -5 ∨ ((-20) ≤ z ∧ z ≤ -17) ∨ ((-25) ≤ z ∧ z ≤ -23)
  · omega
  rw [if_neg c4] at h
  cases h
/-- what a line's condition comes to -/
def lv (f : Nat → Int32) (l : List Int) : Int32 := match ev_r false f 40 l.dropLast ([], false) with
  | some (v :: _, _) => v
  | _ => 0
/-- whether the law lets it -/
def LW (f : Nat → Int32) : List (List Int) → Bool
  | [] => true
  | l :: r => if lv f l = 0 then LW f r else decide (l.getLastD 0 = -1)
/-- a line, taken apart -/
theorem ln_cl {f : Nat → Int32} {l : List Int} (h : lnW l) : ∃ d z b', l = d ++ [z] ∧ (z = -1 ∨ z = -2) ∧ ev_r false f 40 d ([], false) = some ([lv f l], b') ∧ (m_ln l = d ∧ 2 ≤ d.length ∧ (∃ b2, ev_r true f 419 d ([], false) = some ([lv f l], b2)) ∨ m_ln l = [] ∧ lv f l = 1) := by
  have base : ∀ d z v b', l = d ++ [z] → ev_r false f 40 d ([], false) = some ([v], b') → lv f l = v := fun d z v b' e h => by
    unfold lv
    rw [e, List.dropLast_concat, h]
  rcases h with (h | h) | ⟨d, z, h, hz, hd, w⟩
  · have e := base [1] (-1) 1 true h rfl
    exact ⟨[1], -1, true, h, Or.inl rfl, by rw [e]; rfl, Or.inr ⟨by rw [h]; rfl, e⟩⟩
  · have e := base [1] (-2) 1 true h rfl
    exact ⟨[1], -2, true, h, Or.inr rfl, by rw [e]; rfl, Or.inr ⟨by rw [h]; rfl, e⟩⟩
  · obtain ⟨v, _, hv⟩ := w f
    obtain ⟨b1, h1⟩ := hv false 40 [] false (by decide)
    obtain ⟨b2, h2⟩ := hv true 419 [] false (by decide)
    have e := base d z v b1 h h1
    exact ⟨d, z, b1, h, hz, by rw [e]; exact h1, Or.inl ⟨by rw [h]; exact m_ln_c z hd, hd, b2, by rw [e]; exact h2⟩⟩
/-- the law's words in the class -/
abbrev cw_R (σ : pm_S) (W : List Int) : Prop := sI σ 31 1 = (W.length : Int) ∧ W.length ≤ 400 ∧ ∀ j, j < W.length → sI σ 32 j = W.getD j 0
theorem cw_R.fq {σ τ : pm_S} {W : List Int} (h : cw_R σ W) {G : List (Nat × Nat)} (hG : (an_inF G 31 1 || an_inP G 32) = false) (F : FQ G σ τ) : cw_R τ W := by
  rw [Bool.or_eq_false_iff] at hG
  exact ⟨(congrArg Int32.toInt (F 31 1 hG.1)).trans h.1, h.2.1, fun j hj => (congrArg Int32.toInt (F 32 j (an_inP_ok hG.2 j))).trans (h.2.2 j hj)⟩
section LWC
variable {f : Nat → Int32} {W : List Int} {Q : Option Value → pm_S → Prop}
/-- the word at p is read -/
theorem x_lw {τ : pm_S} {p : Nat} {v3 : Value} (hp : p < W.length) (k3 : v3.category = 1) (hB : an_GB pm_B τ) (hW : cw_R τ W) (hQ : ∀ (τ' : pm_S) (u : Value), u.category = 1 → an_GB pm_B τ' → FQ [] τ τ' → Ok 16 8 18 [.ref 31, .ref 75, .int (Int32.ofInt (p : Int)), u] [.int (Int32.ofInt (W.getD p 0))] τ' Q) : Ok 16 8 5 [.ref 31, .ref 75, .int (Int32.ofInt (p : Int)), v3] [] τ Q := by
  have h4 := hW.2.1
  refine pl_l5 p W.length v3 k3 hB ⟨by omega, by omega, trivial⟩ ⟨hW.1, trivial⟩ ?_
  intro τ1 y1 u1 d1 hB1 F1 _ _ _ _
  refine Ok.ic rfl rfl (by omega) (by omega) (by omega) (by omega) (fun h => ?_) (fun h => ?_)
  · have h : (W.length : Int) ≤ (p : Int) := h
    exfalso
    omega
  · refine pl_l9 p u1 d1 hB1 ⟨by omega, trivial⟩ ?_
    intro τ2 y2 u2 d2 hB2 F2 _ _ _ _
    refine Ok.ald (n := 400) rfl rfl rfl (by decide) (by omega) (by omega) ?_
    have e : (τ2.1 32 ((p : Int)).toNat).toInt = W.getD p 0 := by
      rw [(FQ.tr F1 F2) 32 _ rfl, Int.toNat_natCast]
      exact hW.2.2 p hp
    rw [e]
    exact hQ τ2 u2 d2 hB2 (FQ.tr F1 F2)
set_option maxRecDepth 20000 in
theorem x_run : ∀ (d : List Int) (p : Nat) (S S' : List Int32) (b b' : Bool) (τ : pm_S) (v3 : Value), ev_r false f 40 d (S, b) = some (S', b') → (∀ j, j < d.length → W.getD (p + j) 0 = d.getD j 0) → p + d.length ≤ W.length → v3.category = 1 → an_GB pm_B τ → (∀ j, j < 9 → τ.1 75 j = f j) → cw_R τ W → cs_R τ S → (∀ (τ' : pm_S) (u : Value), u.category = 1 → an_GB pm_B τ' → FQ FLw τ τ' → cs_R τ' S' → Ok 16 8 5 [.ref 31, .ref 75, .int (Int32.ofInt ((p + d.length : Nat) : Int)), u] [] τ' Q) → Ok 16 8 5 [.ref 31, .ref 75, .int (Int32.ofInt (p : Int)), v3] [] τ Q
  | [], p, S, S', b, b', τ, v3, h, _, _, k3, hB, _, _, hR, hQ => by
    have h : some (S, b) = some (S', b') := h
    injection h with h
    injection h with h _
    rw [← h] at hQ
    exact hQ τ v3 k3 hB (fun _ _ _ => rfl) hR
  | z :: d, p, S, S', b, b', τ, v3, h, hw, hp, k3, hB, hf, hW, hR, hQ => by
    have h : (ev_s false f 40 z (S, b)).bind (ev_r false f 40 d) = some (S', b') := h
    have hp : p + (d.length + 1) ≤ W.length := hp
    have h4 := hW.2.1
    cases hu : ev_s false f 40 z (S, b) with
    | none =>
      rw [hu] at h
      cases h
    | some u =>
      rw [hu] at h
      obtain ⟨S1, b1⟩ := u
      have h : ev_r false f 40 d (S1, b1) = some (S', b') := h
      have w0 : W.getD p 0 = z := hw 0 (Nat.zero_lt_succ _)
      have zr := ev_ok hu
      refine x_lw (W := W) (by omega) k3 hB hW (fun τ1 u1 d1 hB1 F1 => ?_)
      rw [w0]
      have step : ∀ τ2 : pm_S, an_GB pm_B τ2 → FQ [] τ τ2 → Ok 16 8 38 [.ref 31, .ref 75, .int (Int32.ofInt (p : Int)), .int (Int32.ofInt z)] [.ref 75, .int (Int32.ofInt z), .ref 31] τ2 Q := by
        intro τ2 hB2 F2
        refine Ok.cv rfl rfl rfl rfl rfl rfl rfl ?_
        refine (x_step (f := f) z hu hB2 (fun j hj => (F2 75 j rfl).trans (hf j hj)) (hR.fq (G := []) rfl F2)).use (by decide) (fun r τ3 q => ?_)
        obtain ⟨rfl, hB3, F3, R3⟩ := q
        refine pl_l39 p _ rfl hB3 ⟨by omega, trivial⟩ ?_
        intro τ4 y4 u4 d4 hB4 F4 _ _ _ _
        have G4 : FQ FLw τ τ4 := FQ.tr (FQ.up (G := []) rfl F2) (FQ.tr F3 (FQ.up (G := []) rfl F4))
        rw [show (p : Int) + 1 = ((p + 1 : Nat) : Int) by omega]
        refine x_run d (p + 1) S1 S' b1 b' τ4 u4 h (fun j hj => ?_) (by omega) d4 hB4 (fun j hj => (G4 75 j rfl).trans (hf j hj)) (hW.fq (G := FLw) rfl G4) (R3.fq (G := []) rfl F4) (fun τ' u k hB' F' R' => ?_)
        · rw [show p + 1 + j = p + (j + 1) by omega]
          exact hw (j + 1) (Nat.succ_lt_succ hj)
        · rw [show p + 1 + d.length = p + (d.length + 1) by omega]
          exact hQ τ' u k hB' (FQ.tr G4 F') R'
      rcases zr with zr | zr
      · refine pl_l18w p z u1 d1 hB1 ⟨by omega, zr, trivial⟩ ?_
        intro τ2 y2 hB2 F2 _ _ _ _
        exact step τ2 hB2 (FQ.tr F1 F2)
      · refine pl_l18x p z u1 d1 hB1 ⟨by omega, zr, trivial⟩ ?_
        intro τ2 y2 hB2 F2 _ _ _ _
        exact step τ2 hB2 (FQ.tr F1 F2)
abbrev b01 (b : Bool) : Value := .int (Int32.ofInt (if b = true then 1 else 0))
set_option maxRecDepth 20000 in
theorem x_lns : ∀ (ls : List (List Int)) (p : Nat) (τ : pm_S) (v3 : Value), (∀ l ∈ ls, lnW l) → (∀ j, j < ls.flatten.length → W.getD (p + j) 0 = ls.flatten.getD j 0) → p + ls.flatten.length = W.length → v3.category = 1 → an_GB pm_B τ → (∀ j, j < 9 → τ.1 75 j = f j) → cw_R τ W → cs_R τ [] → (∀ τ' : pm_S, an_GB pm_B τ' → FQ FLw τ τ' → Q (some (b01 (LW f ls))) τ') → Ok 16 8 5 [.ref 31, .ref 75, .int (Int32.ofInt (p : Int)), v3] [] τ Q
  | [], p, τ, v3, _, _, hp, k3, hB, _, hW, _, hQ => by
    have hp : p + 0 = W.length := hp
    have h4 := hW.2.1
    refine pl_l5 p W.length v3 k3 hB ⟨by omega, by omega, trivial⟩ ⟨hW.1, trivial⟩ ?_
    intro τ1 y1 u1 d1 hB1 F1 _ _ _ _
    refine Ok.ic rfl rfl (by omega) (by omega) (by omega) (by omega) (fun h => ?_) (fun h => ?_)
    · refine pl_l40 _ _ rfl d1 hB1 ?_
      intro τ2 y2 hB2 F2 _ _ _ _
      exact hQ τ2 hB2 (FQ.up (G := []) rfl (FQ.tr F1 F2))
    · have h : (p : Int) < (W.length : Int) := h
      exfalso
      omega
  | l :: r, p, τ, v3, hl, hw, hp, k3, hB, hf, hW, hR, hQ => by
    have h4 := hW.2.1
    have fl : (l :: r).flatten = l ++ r.flatten := rfl
    rw [fl] at hw hp
    rw [List.length_append] at hp
    obtain ⟨d, z, b', e, hz, he, _⟩ := ln_cl (f := f) (hl l List.mem_cons_self)
    have ll : l.length = d.length + 1 := by rw [e, List.length_append, List.length_singleton]
    refine x_run (W := W) d p [] [lv f l] false b' τ v3 he (fun j hj => ?_) (by omega) k3 hB hf hW hR (fun τ1 u1 d1 hB1 F1 R1 => ?_)
    · rw [hw j (by rw [List.length_append]; omega), gd_l (by omega), e, gd_l hj]
    have wz : W.getD (p + d.length) 0 = z := by
      rw [hw d.length (by rw [List.length_append]; omega), gd_l (by omega), e]
      exact gd_e (c := d) (d := [z]) (j := 0)
    refine x_lw (W := W) (by omega) d1 hB1 (hW.fq (G := FLw) rfl F1) (fun τ2 u2 d2 hB2 F2 => ?_)
    rw [wz]
    have G2 : FQ FLw τ τ2 := FQ.tr F1 (FQ.up (G := []) rfl F2)
    -- the verdict
    have verd : ∀ τ3 : pm_S, an_GB pm_B τ3 → FQ [] τ2 τ3 → Ok 16 8 26 [.ref 31, .ref 75, .int (Int32.ofInt ((p + d.length : Nat) : Int)), .int (Int32.ofInt z)] [.ref 31] τ3 Q := by
      intro τ3 hB3 F3
      refine Ok.cv rfl rfl rfl rfl rfl rfl rfl ?_
      refine (x_pop hB3 ((R1.fq (G := []) rfl F2).fq (G := []) rfl F3)).use (by decide) (fun r' τ4 q => ?_)
      obtain ⟨rfl, hB4, F4, R4⟩ := q
      have G4 : FQ FLw τ τ4 := FQ.tr G2 (FQ.tr (FQ.up (G := []) rfl F3) (FQ.up (G := [(31, 2)]) rfl F4))
      have last : l.getLastD 0 = z := by rw [e, List.getLastD_concat]
      refine pl_l27 ((p + d.length : Nat) : Int) z (lv f l).toInt hB4 ⟨by omega, by omega, ai_rng _, trivial⟩ ?_ ?_ ?_
      · intro τ5 y5 hB5 F5 f5 _ _ _
        have g3 := f5.2.2.1
        have e0 : lv f l = 0 := Int32.toInt_inj.mp (show (lv f l).toInt = (0 : Int32).toInt by show (lv f l).toInt = 0; omega)
        have eW : LW f (l :: r) = LW f r := if_pos e0
        rw [eW] at hQ
        have G5 : FQ FLw τ τ5 := FQ.tr G4 (FQ.up (G := []) rfl F5)
        rw [show ((p + d.length : Nat) : Int) + 1 = ((p + l.length : Nat) : Int) by omega]
        refine x_lns r (p + l.length) τ5 _ (fun x hx => hl x (List.mem_cons_of_mem _ hx)) (fun j hj => ?_) (by omega) rfl hB5 (fun j hj => (G5 75 j rfl).trans (hf j hj)) (hW.fq (G := FLw) rfl G5) (R4.fq (G := []) rfl F5) (fun τ' hB' F' => hQ τ' hB' (FQ.tr G5 F'))
        rw [Nat.add_assoc, hw (l.length + j) (by rw [List.length_append]; omega), gd_e]
      · intro τ5 y5 hB5 F5 f5 rl _ _
        have g2 := f5.2.1
        have ne : ¬ lv f l = 0 := fun w => rl.1 (by rw [w]; rfl)
        have eW : LW f (l :: r) = false := by
          show (if lv f l = 0 then LW f r else decide (l.getLastD 0 = -1)) = false
          rw [if_neg ne, last]
          exact decide_eq_false (by omega)
        rw [eW] at hQ
        exact hQ τ5 hB5 (FQ.tr G4 (FQ.up (G := []) rfl F5))
      · intro τ5 y5 hB5 F5 f5 rl _ _
        have g2 := f5.2.1
        have ne : ¬ lv f l = 0 := fun w => rl.1 (by rw [w]; rfl)
        have eW : LW f (l :: r) = true := by
          show (if lv f l = 0 then LW f r else decide (l.getLastD 0 = -1)) = true
          rw [if_neg ne, last]
          exact decide_eq_true (by omega)
        rw [eW] at hQ
        exact hQ τ5 hB5 (FQ.tr G4 (FQ.up (G := []) rfl F5))
    refine pl_l18v ((p + d.length : Nat) : Int) z u2 d2 hB2 ⟨by omega, by omega, trivial⟩ ?_ ?_
    · intro τ3 y3 hB3 F3 _ _ _ _
      exact verd τ3 hB3 F3
    · intro τ3 y3 hB3 F3 _ _ _ _
      exact verd τ3 hB3 F3
end LWC
/-- the law is asked -/
theorem x_ltC {f : Nat → Int32} {ls : List (List Int)} {σ : pm_S} (hl : ∀ l ∈ ls, lnW l) (hB : an_GB pm_B σ) (hf : ∀ j, j < 9 → σ.1 75 j = f j) (hW : cw_R σ ls.flatten) : Sp 16 8 [.ref 31, .ref 75] σ (fun r τ => r = some (b01 (LW f ls)) ∧ an_GB pm_B τ ∧ FQ FLw σ τ) := by
  refine Sp.at rfl rfl ?_
  refine pl_l0 _ _ rfl rfl hB ?_
  intro τ1 y1 u1 d1 hB1 F1 _ _ _ c1
  refine x_lns (W := ls.flatten) ls 0 τ1 u1 hl (fun j _ => by rw [Nat.zero_add]) (Nat.zero_add _) d1 hB1 (fun j hj => (F1 75 j rfl).trans (hf j hj)) (hW.fq (G := [(31, 2)]) rfl F1) ⟨c1.1, by decide, fun j hj => absurd hj (Nat.not_lt_zero _)⟩ (fun τ' hB' F' => ⟨rfl, hB', FQ.tr (FQ.up (G := [(31, 2)]) rfl F1) F'⟩)
