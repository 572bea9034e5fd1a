/-! the law is asked: the model -/
/-- the model's stack -/
abbrev ms_R (σ : pm_S) (S : List Int32) : Prop := S.length ≤ 419 ∧ ∀ j, j < S.length → σ.1 123 j = S.getD (S.length - 1 - j) 0
theorem ms_R.fq {σ τ : pm_S} {S : List Int32} (h : ms_R σ S) {G : List (Nat × Nat)} (hG : an_inP G 123 = false) (F : FQ G σ τ) : ms_R τ S := ⟨h.1, fun j hj => (F 123 j (an_inP_ok hG j)).trans (h.2 j hj)⟩
/-- one more on top -/
theorem ms_R.push {σ : pm_S} {S : List Int32} (v : Int32) (hl : S.length ≤ 418) (h : ms_R σ S) : ms_R (put σ 123 S.length v) (v :: S) := by
  refine ⟨by show S.length + 1 ≤ 419; omega, fun j hj => ?_⟩
  have hj : j < S.length + 1 := hj
  show (put σ 123 S.length v).1 123 j = (v :: S).getD (S.length + 1 - 1 - j) 0
  rw [put_get]
  by_cases e : j = S.length
  · rw [if_pos ⟨rfl, e⟩, e, show S.length + 1 - 1 - S.length = 0 by omega]
    rfl
  · rw [if_neg (fun z => e z.2), h.2 j (by omega), show S.length + 1 - 1 - j = (S.length - 1 - j) + 1 by omega]
    rfl
theorem ms_R.tail {σ : pm_S} {v : Int32} {S : List Int32} (h : ms_R σ (v :: S)) : ms_R σ S := by
  have h1 : S.length + 1 ≤ 419 := h.1
  refine ⟨by omega, fun j hj => ?_⟩
  have q := h.2 j (show j < S.length + 1 by omega)
  rw [q, show (v :: S).length - 1 - j = (S.length - 1 - j) + 1 by show S.length + 1 - 1 - j = _; omega]
  rfl
theorem ms_R.top {σ : pm_S} {v : Int32} {S : List Int32} (h : ms_R σ (v :: S)) : σ.1 123 S.length = v := by
  have q := h.2 S.length (show S.length < S.length + 1 by omega)
  rw [show (v :: S).length - 1 - S.length = 0 by show S.length + 1 - 1 - S.length = 0; omega] at q
  exact q
theorem jn_t {z : Int} {w : Int} (l r : Int) (h : Int32.ofInt w = jn true z (Int32.ofInt l) (Int32.ofInt r)) (hw : (-2147483648) ≤ w ∧ w ≤ 2147483647) : (jn true z (Int32.ofInt l) (Int32.ofInt r)).toInt = w := by
  rw [← h, ti_of hw.1 hw.2]
set_option maxRecDepth 20000 in
theorem x_two {σ : pm_S} (z l r : Int) (hz : isJ z) (hl : (-2147483648) ≤ l ∧ l ≤ 2147483647) (hr : (-2147483648) ≤ r ∧ r ≤ 2147483647) (h0 : z = -20 → r ≠ 0) (hB : an_GB pm_B σ) : Sp 197 2 [.ref 93, .int (Int32.ofInt (mo z)), .int (Int32.ofInt l), .int (Int32.ofInt r)] σ (fun v τ => v = some (.int (Int32.ofInt (jn true z (Int32.ofInt l) (Int32.ofInt r)).toInt)) ∧ an_GB pm_B τ ∧ FQ [] σ τ) := by
  rw [oI]
  refine Sp.at rfl rfl ?_
  rcases (show z = -4 ∨ z = -5 ∨ z = -17 ∨ z = -18 ∨ z = -19 ∨ z = -20 ∨ z = -23 ∨ z = -24 ∨ z = -25 by omega) with e | e | e | e | e | e | e | e | e <;> subst e
  · refine ql_t11 l r hB ⟨hl, hr, trivial⟩ ?_ ?_
    · intro τ y hB1 F1 f _ d _
      have f3 := f.2.2.1
      have s : ¬ (0 : Int32) < Int32.ofInt l + Int32.ofInt r := by
        rw [Int32.lt_iff_toInt_lt, show (Int32.ofInt l + Int32.ofInt r).toInt = y 2 from d.1]
        show ¬ (0 : Int) < y 2
        omega
      have e : jn true (-4) (Int32.ofInt l) (Int32.ofInt r) = 0 := ((jn_4 true _ _).trans (if_pos rfl)).trans (if_neg s)
      exact ⟨by rw [e]; rfl, hB1, F1⟩
    · intro τ y hB1 F1 f _ d _
      have f3 := f.2.2.1
      have s : (0 : Int32) < Int32.ofInt l + Int32.ofInt r := by
        rw [Int32.lt_iff_toInt_lt, show (Int32.ofInt l + Int32.ofInt r).toInt = y 2 from d.1]
        show (0 : Int) < y 2
        omega
      have e : jn true (-4) (Int32.ofInt l) (Int32.ofInt r) = 1 := ((jn_4 true _ _).trans (if_pos rfl)).trans (if_pos s)
      exact ⟨by rw [e]; rfl, hB1, F1⟩
  · refine ql_t10 l r hB ⟨hl, hr, trivial⟩ ?_
    intro τ y hB1 F1 _ _ d _
    exact ⟨by rw [← d.1, oI]; rfl, hB1, F1⟩
  · refine ql_t2 l r hB ⟨hl, hr, trivial⟩ ?_
    intro τ y hB1 F1 _ _ d _
    exact ⟨by rw [← d.1, oI]; rfl, hB1, F1⟩
  · refine ql_t3 l r hB ⟨hl, hr, trivial⟩ ?_
    intro τ y hB1 F1 _ _ d _
    exact ⟨by rw [← d.1, oI]; rfl, hB1, F1⟩
  · refine ql_t4 l r hB ⟨hl, hr, trivial⟩ ?_
    intro τ y hB1 F1 _ _ d _
    exact ⟨by rw [← d.1, oI]; rfl, hB1, F1⟩
  · rcases (show 1 ≤ r ∨ r ≤ -1 by have := h0 rfl; omega) with g | g
    · refine ql_t5p l r hB ⟨hl, by omega, trivial⟩ ?_
      intro τ y hB1 F1 _ _ d _
      exact ⟨by rw [← d.1, oI]; rfl, hB1, F1⟩
    · refine ql_t5n l r hB ⟨hl, by omega, trivial⟩ ?_
      intro τ y hB1 F1 _ _ d _
      exact ⟨by rw [← d.1, oI]; rfl, hB1, F1⟩
  · refine ql_t6 l r hB ⟨hl, hr, trivial⟩ ?_
    intro τ y hB1 F1 _ _ _ _
    refine Ok.ic rfl rfl (by omega) (by omega) (by omega) (by omega) (fun h => ?_) (fun h => ?_)
    · have h : r ≤ l := h
      refine ql_t6f l r hB1 ⟨hl, hr, trivial⟩ ?_
      intro τ2 y2 hB2 F2 _ _ _ _
      have e : jn true (-23) (Int32.ofInt l) (Int32.ofInt r) = 0 := (jn_23 _ _ _).trans (if_neg (by rw [lt_i hl hr]; omega))
      exact ⟨by rw [e]; rfl, hB2, FQ.tr F1 F2⟩
    · have h : l < r := h
      refine ql_t6t l r hB1 ⟨hl, hr, trivial⟩ ?_
      intro τ2 y2 hB2 F2 _ _ _ _
      have e : jn true (-23) (Int32.ofInt l) (Int32.ofInt r) = 1 := (jn_23 _ _ _).trans (if_pos (by rw [lt_i hl hr]; omega))
      exact ⟨by rw [e]; rfl, hB2, FQ.tr F1 F2⟩
  · refine ql_t7 l r hB ⟨hl, hr, trivial⟩ ?_
    intro τ y hB1 F1 _ _ _ _
    refine Ok.ic rfl rfl (by omega) (by omega) (by omega) (by omega) (fun h => ?_) (fun h => ?_)
    · have h : l ≠ r := h
      refine ql_t7f l r hB1 ⟨hl, hr, trivial⟩ ?_
      intro τ2 y2 hB2 F2 _ _ _ _
      have e : jn true (-24) (Int32.ofInt l) (Int32.ofInt r) = 0 := (jn_24 _ _ _).trans (if_neg (by rw [eq_i hl hr]; omega))
      exact ⟨by rw [e]; rfl, hB2, FQ.tr F1 F2⟩
    · have h : l = r := h
      refine ql_t7t l r hB1 ⟨hl, hr, trivial⟩ ?_
      intro τ2 y2 hB2 F2 _ _ _ _
      have e : jn true (-24) (Int32.ofInt l) (Int32.ofInt r) = 1 := (jn_24 _ _ _).trans (if_pos (by rw [eq_i hl hr]; omega))
      exact ⟨by rw [e]; rfl, hB2, FQ.tr F1 F2⟩
  · refine ql_t8 l r hB ⟨hl, hr, trivial⟩ ?_
    intro τ y hB1 F1 _ _ _ _
    refine Ok.ic rfl rfl (by omega) (by omega) (by omega) (by omega) (fun h => ?_) (fun h => ?_)
    · have h : l ≤ r := h
      refine ql_t8f l r hB1 ⟨hl, hr, trivial⟩ ?_
      intro τ2 y2 hB2 F2 _ _ _ _
      have e : jn true (-25) (Int32.ofInt l) (Int32.ofInt r) = 0 := (jn_25 _ _ _).trans (if_neg (by rw [lt_i hr hl]; omega))
      exact ⟨by rw [e]; rfl, hB2, FQ.tr F1 F2⟩
    · have h : r < l := h
      refine ql_t8t l r hB1 ⟨hl, hr, trivial⟩ ?_
      intro τ2 y2 hB2 F2 _ _ _ _
      have e : jn true (-25) (Int32.ofInt l) (Int32.ofInt r) = 1 := (jn_25 _ _ _).trans (if_pos (by rw [lt_i hr hl]; omega))
      exact ⟨by rw [e]; rfl, hB2, FQ.tr F1 F2⟩
/-- a line's codes in the model, from p on -/
abbrev mc_R (σ : pm_S) (p : Nat) (d : List Int) : Prop := ∀ j, j < d.length → sI σ 119 (p + j) = mo (d.getD j 0) ∧ sI σ 120 (p + j) = ma (d.getD j 0)
section LWM
variable {f : Nat → Int32} {Q : Option Value → pm_S → Prop}
set_option maxRecDepth 20000 in
/-- one code is run -/
theorem x_mst {σ : pm_S} {l p : Nat} {S S' : List Int32} {b b' : Bool} (z : Int) (h : ev_s true f 419 z (S, b) = some (S', b')) (hl : l ≤ 15) (hp : p ≤ 399) (hB : an_GB pm_B σ) (hf : ∀ j, j < 9 → σ.1 122 j = f j) (hR : ms_R σ S) (h1 : sI σ 119 p = mo z) (h2 : sI σ 120 p = ma z) (hQ : ∀ τ : pm_S, an_GB pm_B τ → FQ [(123, 9999)] σ τ → ms_R τ S' → Ok 198 5 22 [.ref 93, .int (Int32.ofInt 0), .int (Int32.ofInt (l : Int)), .int (Int32.ofInt (S'.length : Int)), .int (Int32.ofInt ((p + 1 : Nat) : Int))] [] τ Q) : Ok 198 5 32 [.ref 93, .int (Int32.ofInt 0), .int (Int32.ofInt (l : Int)), .int (Int32.ofInt (S.length : Int)), .int (Int32.ofInt (p : Int))] [] σ Q := by
  have hS := hR.1
  unfold ev_s at h
  have ep : ((p : Int)).toNat = p := by omega
  have eS : ((S.length : Int)).toNat = S.length := by omega
  by_cases c1 : 0 ≤ z ∧ z ≤ 9999
  · rw [if_pos c1] at h
    split at h
    · rename_i hl2
      have hl2 : S.length < 419 := hl2
      injection h with h
      injection h with h _
      rw [← h] at hQ
      have m0 : mo z = 0 := if_pos c1.1
      have m1 : ma z = z := if_pos c1.1
      refine ql_n32 l S.length p z hB ⟨by omega, by omega, by omega, by omega, trivial⟩ ⟨by rw [ep]; exact h1.trans m0, by rw [ep]; exact h2.trans m1, trivial⟩ ?_
      intro τ1 y1 hB1 F1 _ _ _ _
      refine Ok.ast (n := 420) rfl rfl rfl (by decide) (by omega) (by omega) ?_
      rw [eS]
      have hB2 : an_GB pm_B (put τ1 123 S.length (Int32.ofInt z)) := put_GB hB1 (ai_rng _)
      have R2 := ms_R.push (Int32.ofInt z) (by omega) (hR.fq (G := []) rfl F1)
      have F2 : FQ [(123, 9999)] τ1 (put τ1 123 S.length (Int32.ofInt z)) := FQ.put rfl
      generalize put τ1 123 S.length (Int32.ofInt z) = τ2 at hB2 R2 F2 ⊢
      refine ql_64 l S.length p hB2 ⟨by omega, by omega, by omega, trivial⟩ ?_
      intro τ3 y3 hB3 F3 _ _ _ _
      exact hQ τ3 hB3 (FQ.tr (FQ.up (G := []) rfl F1) (FQ.tr F2 (FQ.up (G := []) rfl F3))) (R2.fq (G := []) rfl F3)
    · cases h
  rw [if_neg c1] at h
  by_cases c2 : (-15) ≤ z ∧ z ≤ -7
  · rw [if_pos c2] at h
    split at h
    · rename_i hl2
      have hl2 : S.length < 419 := hl2
      injection h with h
      injection h with h _
      rw [← h] at hQ
      have m0 : mo z = 1 := by
        unfold mo
        rw [if_neg (by omega), if_pos c2]
      have m1 : ma z = -7 - z := by
        unfold ma
        rw [if_neg (by omega), if_pos c2]
      refine ql_a32 l S.length p (-7 - z) hB ⟨by omega, by omega, by omega, by omega, trivial⟩ ⟨by rw [ep]; exact h1.trans m0, by rw [ep]; exact h2.trans m1, trivial⟩ ?_
      intro τ1 y1 hB1 F1 _ _ _ _
      refine Ok.ald (n := 9) rfl rfl rfl (by decide) (by omega) (by omega) ?_
      have ev : τ1.1 122 (-7 - z).toNat = f (-7 - z).toNat := (F1 122 _ rfl).trans (hf _ (by omega))
      rw [ev, oI]
      refine Ok.ast (n := 420) rfl rfl rfl (by decide) (by omega) (by omega) ?_
      rw [eS]
      have hB2 : an_GB pm_B (put τ1 123 S.length (f (-7 - z).toNat)) := put_GB hB1 (ai_rng _)
      have R2 := ms_R.push (f (-7 - z).toNat) (by omega) (hR.fq (G := []) rfl F1)
      have F2 : FQ [(123, 9999)] τ1 (put τ1 123 S.length (f (-7 - z).toNat)) := FQ.put rfl
      generalize put τ1 123 S.length (f (-7 - z).toNat) = τ2 at hB2 R2 F2 ⊢
      refine ql_64 l S.length p hB2 ⟨by omega, by omega, by omega, trivial⟩ ?_
      intro τ3 y3 hB3 F3 _ _ _ _
      exact hQ τ3 hB3 (FQ.tr (FQ.up (G := []) rfl F1) (FQ.tr F2 (FQ.up (G := []) rfl F3))) (R2.fq (G := []) rfl F3)
    · cases h
  rw [if_neg c2] at h
  by_cases c3 : z = -6
  · rw [if_pos c3] at h
    subst c3
    match S, h, hR, hS, eS with
    | [], h, _, _, _ => cases (show (none : Option evS) = some (S', b') from h)
    | v :: t, h, hR, hS, eS =>
      have h : some ((1 - v) :: t, false) = some (S', b') := h
      injection h with h
      injection h with h _
      rw [← h] at hQ
      have hS : t.length + 1 ≤ 419 := hS
      have lt : (v :: t).length = t.length + 1 := rfl
      refine ql_o32 l ((v :: t).length : Nat) p hB ⟨by omega, by omega, by omega, trivial⟩ ⟨by rw [ep]; exact h1, trivial⟩ ?_
      intro τ1 y1 hB1 F1 _ _ _ _
      refine Ok.ald (n := 420) rfl rfl rfl (by decide) (by omega) (by omega) ?_
      have et : ((((v :: t).length : Nat) : Int) + (-1)).toNat = t.length := by omega
      have ev : τ1.1 123 ((((v :: t).length : Nat) : Int) + (-1)).toNat = v := by
        rw [et, F1 123 _ rfl]
        exact hR.top
      rw [ev]
      refine ql_87 l ((v :: t).length : Nat) p v.toInt ((((v :: t).length : Nat) : Int) + (-1)) hB1 ⟨by omega, by omega, by omega, ai_rng _, by omega, trivial⟩ ?_
      intro τ2 y2 hB2 F2 _ _ d2 _
      have e1 : Int32.ofInt (y2 5) = 1 - v := by
        rw [← d2.1, oI, oI]
        rfl
      rw [e1]
      refine Ok.ast (n := 420) rfl rfl rfl (by decide) (by omega) (by omega) ?_
      rw [et]
      have hB3 : an_GB pm_B (put τ2 123 t.length (1 - v)) := put_GB hB2 (ai_rng _)
      have R3 := ms_R.push (1 - v) (by omega) ((hR.tail.fq (G := []) rfl F1).fq (G := []) rfl F2)
      have F3 : FQ [(123, 9999)] τ2 (put τ2 123 t.length (1 - v)) := FQ.put rfl
      generalize put τ2 123 t.length (1 - v) = τ3 at hB3 R3 F3 ⊢
      refine ql_89 l ((v :: t).length : Nat) p hB3 ⟨by omega, by omega, by omega, trivial⟩ ?_
      intro τ4 y4 hB4 F4 _ _ _ _
      exact hQ τ4 hB4 (FQ.tr (FQ.up (G := []) rfl F1) (FQ.tr (FQ.up (G := []) rfl F2) (FQ.tr F3 (FQ.up (G := []) rfl F4)))) (R3.fq (G := []) rfl F4)
  rw [if_neg c3] at h
  by_cases c4 : isJ z
  · rw [if_pos c4] at h
    match S, h, hR, hS, eS with
    | [], h, _, _, _ => cases (show (none : Option evS) = some (S', b') from h)
    | [_], h, _, _, _ => cases (show (none : Option evS) = some (S', b') from h)
    | rr :: ll :: t, h, hR, hS, eS =>
      have h : (if z = -20 ∧ (b = false ∨ rr = 0) then none else some (jn true z ll rr :: t, false)) = some (S', b') := h
      split at h
      · cases h
      · rename_i g
        injection h with h
        injection h with h _
        rw [← h] at hQ
        have hS : t.length + 1 + 1 ≤ 419 := hS
        have lt : (rr :: ll :: t).length = t.length + 2 := rfl
        have h0 : z = -20 → rr.toInt ≠ 0 := fun e w => g ⟨e, Or.inr (Int32.toInt_inj.mp (show rr.toInt = (0 : Int32).toInt from w))⟩
        have et : ((((rr :: ll :: t).length : Nat) : Int) + (-2)).toNat = t.length := by omega
        have et1 : ((((rr :: ll :: t).length : Nat) : Int) + (-1)).toNat = t.length + 1 := by omega
        have fin : ∀ τ3 : pm_S, an_GB pm_B τ3 → FQ [] σ τ3 → ms_R τ3 t → Ok 198 5 116 [.ref 93, .int (Int32.ofInt 0), .int (Int32.ofInt (l : Int)), .int (Int32.ofInt ((((rr :: ll :: t).length : Nat) : Int) + (-1))), .int (Int32.ofInt (p : Int))] [] (put τ3 123 t.length (jn true z ll rr)) Q := by
          intro τ3 hB3 F3 R3
          have hB4 : an_GB pm_B (put τ3 123 t.length (jn true z ll rr)) := put_GB hB3 (ai_rng _)
          have R4 := ms_R.push (jn true z ll rr) (by omega) R3
          have F4 : FQ [(123, 9999)] τ3 (put τ3 123 t.length (jn true z ll rr)) := FQ.put rfl
          generalize put τ3 123 t.length (jn true z ll rr) = τ4 at hB4 R4 F4 ⊢
          refine ql_116 l ((((rr :: ll :: t).length : Nat) : Int) + (-1)) p hB4 ⟨by omega, by omega, by omega, trivial⟩ ?_
          intro τ5 y5 hB5 F5 _ _ _ _
          rw [show (((rr :: ll :: t).length : Nat) : Int) + (-1) = ((t.length + 1 : Nat) : Int) by omega]
          exact hQ τ5 hB5 (FQ.tr (FQ.up (G := []) rfl F3) (FQ.tr F4 (FQ.up (G := []) rfl F5))) (R4.fq (G := []) rfl F5)
        rcases (show z = -4 ∨ z = -5 ∨ z = -17 ∨ z = -18 ∨ z = -19 ∨ z = -20 ∨ z = -23 ∨ z = -24 ∨ z = -25 by omega) with e | e | e | e | e | e | e | e | e <;> subst e
        · refine ql_b11 l ((rr :: ll :: t).length : Nat) p hB ⟨by omega, by omega, by omega, trivial⟩ ⟨by rw [ep]; exact h1, trivial⟩ ?_
          intro τ1 y1 hB1 F1 _ _ _ _
          refine Ok.ald (n := 420) rfl rfl rfl (by decide) (by omega) (by omega) ?_
          have ev : τ1.1 123 ((((rr :: ll :: t).length : Nat) : Int) + (-2)).toNat = ll := by
            rw [et, F1 123 _ rfl]
            exact hR.tail.top
          rw [ev]
          refine ql_c11 l ((((rr :: ll :: t).length : Nat) : Int) + (-1)) p ll.toInt ((((rr :: ll :: t).length : Nat) : Int) + (-2)) hB1 ⟨by omega, by omega, by omega, ai_rng _, by omega, trivial⟩ ?_
          intro τ2 y2 hB2 F2 _ _ _ _
          refine Ok.ald (n := 420) rfl rfl rfl (by decide) (by omega) (by omega) ?_
          have ev2 : τ2.1 123 ((((rr :: ll :: t).length : Nat) : Int) + (-1)).toNat = rr := by
            rw [et1, F2 123 _ rfl, F1 123 _ rfl]
            exact hR.top
          rw [ev2]
          refine Ok.cv rfl rfl rfl rfl rfl rfl rfl ?_
          refine (x_two (σ := τ2) _ ll.toInt rr.toInt c4 (ai_rng _) (ai_rng _) h0 hB2).use (by decide) (fun r τ3 q => ?_)
          obtain ⟨rfl, hB3, F3⟩ := q
          rw [oI, oI]
          refine Ok.ast (n := 420) rfl rfl rfl (by decide) (by omega) (by omega) ?_
          rw [et, oI]
          have R3 := ((hR.tail.tail.fq (G := []) rfl F1).fq (G := []) rfl F2).fq (G := []) rfl F3
          exact fin τ3 hB3 (FQ.tr F1 (FQ.tr F2 F3)) R3
        · refine ql_b10 l ((rr :: ll :: t).length : Nat) p hB ⟨by omega, by omega, by omega, trivial⟩ ⟨by rw [ep]; exact h1, trivial⟩ ?_
          intro τ1 y1 hB1 F1 _ _ _ _
          refine Ok.ald (n := 420) rfl rfl rfl (by decide) (by omega) (by omega) ?_
          have ev : τ1.1 123 ((((rr :: ll :: t).length : Nat) : Int) + (-2)).toNat = ll := by
            rw [et, F1 123 _ rfl]
            exact hR.tail.top
          rw [ev]
          refine ql_c10 l ((((rr :: ll :: t).length : Nat) : Int) + (-1)) p ll.toInt ((((rr :: ll :: t).length : Nat) : Int) + (-2)) hB1 ⟨by omega, by omega, by omega, ai_rng _, by omega, trivial⟩ ?_
          intro τ2 y2 hB2 F2 _ _ _ _
          refine Ok.ald (n := 420) rfl rfl rfl (by decide) (by omega) (by omega) ?_
          have ev2 : τ2.1 123 ((((rr :: ll :: t).length : Nat) : Int) + (-1)).toNat = rr := by
            rw [et1, F2 123 _ rfl, F1 123 _ rfl]
            exact hR.top
          rw [ev2]
          refine Ok.cv rfl rfl rfl rfl rfl rfl rfl ?_
          refine (x_two (σ := τ2) _ ll.toInt rr.toInt c4 (ai_rng _) (ai_rng _) h0 hB2).use (by decide) (fun r τ3 q => ?_)
          obtain ⟨rfl, hB3, F3⟩ := q
          rw [oI, oI]
          refine Ok.ast (n := 420) rfl rfl rfl (by decide) (by omega) (by omega) ?_
          rw [et, oI]
          have R3 := ((hR.tail.tail.fq (G := []) rfl F1).fq (G := []) rfl F2).fq (G := []) rfl F3
          exact fin τ3 hB3 (FQ.tr F1 (FQ.tr F2 F3)) R3
        · refine ql_b2 l ((rr :: ll :: t).length : Nat) p hB ⟨by omega, by omega, by omega, trivial⟩ ⟨by rw [ep]; exact h1, trivial⟩ ?_
          intro τ1 y1 hB1 F1 _ _ _ _
          refine Ok.ald (n := 420) rfl rfl rfl (by decide) (by omega) (by omega) ?_
          have ev : τ1.1 123 ((((rr :: ll :: t).length : Nat) : Int) + (-2)).toNat = ll := by
            rw [et, F1 123 _ rfl]
            exact hR.tail.top
          rw [ev]
          refine ql_c2 l ((((rr :: ll :: t).length : Nat) : Int) + (-1)) p ll.toInt ((((rr :: ll :: t).length : Nat) : Int) + (-2)) hB1 ⟨by omega, by omega, by omega, ai_rng _, by omega, trivial⟩ ?_
          intro τ2 y2 hB2 F2 _ _ _ _
          refine Ok.ald (n := 420) rfl rfl rfl (by decide) (by omega) (by omega) ?_
          have ev2 : τ2.1 123 ((((rr :: ll :: t).length : Nat) : Int) + (-1)).toNat = rr := by
            rw [et1, F2 123 _ rfl, F1 123 _ rfl]
            exact hR.top
          rw [ev2]
          refine Ok.cv rfl rfl rfl rfl rfl rfl rfl ?_
          refine (x_two (σ := τ2) _ ll.toInt rr.toInt c4 (ai_rng _) (ai_rng _) h0 hB2).use (by decide) (fun r τ3 q => ?_)
          obtain ⟨rfl, hB3, F3⟩ := q
          rw [oI, oI]
          refine Ok.ast (n := 420) rfl rfl rfl (by decide) (by omega) (by omega) ?_
          rw [et, oI]
          have R3 := ((hR.tail.tail.fq (G := []) rfl F1).fq (G := []) rfl F2).fq (G := []) rfl F3
          exact fin τ3 hB3 (FQ.tr F1 (FQ.tr F2 F3)) R3
        · refine ql_b3 l ((rr :: ll :: t).length : Nat) p hB ⟨by omega, by omega, by omega, trivial⟩ ⟨by rw [ep]; exact h1, trivial⟩ ?_
          intro τ1 y1 hB1 F1 _ _ _ _
          refine Ok.ald (n := 420) rfl rfl rfl (by decide) (by omega) (by omega) ?_
          have ev : τ1.1 123 ((((rr :: ll :: t).length : Nat) : Int) + (-2)).toNat = ll := by
            rw [et, F1 123 _ rfl]
            exact hR.tail.top
          rw [ev]
          refine ql_c3 l ((((rr :: ll :: t).length : Nat) : Int) + (-1)) p ll.toInt ((((rr :: ll :: t).length : Nat) : Int) + (-2)) hB1 ⟨by omega, by omega, by omega, ai_rng _, by omega, trivial⟩ ?_
          intro τ2 y2 hB2 F2 _ _ _ _
          refine Ok.ald (n := 420) rfl rfl rfl (by decide) (by omega) (by omega) ?_
          have ev2 : τ2.1 123 ((((rr :: ll :: t).length : Nat) : Int) + (-1)).toNat = rr := by
            rw [et1, F2 123 _ rfl, F1 123 _ rfl]
            exact hR.top
          rw [ev2]
          refine Ok.cv rfl rfl rfl rfl rfl rfl rfl ?_
          refine (x_two (σ := τ2) _ ll.toInt rr.toInt c4 (ai_rng _) (ai_rng _) h0 hB2).use (by decide) (fun r τ3 q => ?_)
          obtain ⟨rfl, hB3, F3⟩ := q
          rw [oI, oI]
          refine Ok.ast (n := 420) rfl rfl rfl (by decide) (by omega) (by omega) ?_
          rw [et, oI]
          have R3 := ((hR.tail.tail.fq (G := []) rfl F1).fq (G := []) rfl F2).fq (G := []) rfl F3
          exact fin τ3 hB3 (FQ.tr F1 (FQ.tr F2 F3)) R3
        · refine ql_b4 l ((rr :: ll :: t).length : Nat) p hB ⟨by omega, by omega, by omega, trivial⟩ ⟨by rw [ep]; exact h1, trivial⟩ ?_
          intro τ1 y1 hB1 F1 _ _ _ _
          refine Ok.ald (n := 420) rfl rfl rfl (by decide) (by omega) (by omega) ?_
          have ev : τ1.1 123 ((((rr :: ll :: t).length : Nat) : Int) + (-2)).toNat = ll := by
            rw [et, F1 123 _ rfl]
            exact hR.tail.top
          rw [ev]
          refine ql_c4 l ((((rr :: ll :: t).length : Nat) : Int) + (-1)) p ll.toInt ((((rr :: ll :: t).length : Nat) : Int) + (-2)) hB1 ⟨by omega, by omega, by omega, ai_rng _, by omega, trivial⟩ ?_
          intro τ2 y2 hB2 F2 _ _ _ _
          refine Ok.ald (n := 420) rfl rfl rfl (by decide) (by omega) (by omega) ?_
          have ev2 : τ2.1 123 ((((rr :: ll :: t).length : Nat) : Int) + (-1)).toNat = rr := by
            rw [et1, F2 123 _ rfl, F1 123 _ rfl]
            exact hR.top
          rw [ev2]
          refine Ok.cv rfl rfl rfl rfl rfl rfl rfl ?_
          refine (x_two (σ := τ2) _ ll.toInt rr.toInt c4 (ai_rng _) (ai_rng _) h0 hB2).use (by decide) (fun r τ3 q => ?_)
          obtain ⟨rfl, hB3, F3⟩ := q
          rw [oI, oI]
          refine Ok.ast (n := 420) rfl rfl rfl (by decide) (by omega) (by omega) ?_
          rw [et, oI]
          have R3 := ((hR.tail.tail.fq (G := []) rfl F1).fq (G := []) rfl F2).fq (G := []) rfl F3
          exact fin τ3 hB3 (FQ.tr F1 (FQ.tr F2 F3)) R3
        · refine ql_b5 l ((rr :: ll :: t).length : Nat) p hB ⟨by omega, by omega, by omega, trivial⟩ ⟨by rw [ep]; exact h1, trivial⟩ ?_
          intro τ1 y1 hB1 F1 _ _ _ _
          refine Ok.ald (n := 420) rfl rfl rfl (by decide) (by omega) (by omega) ?_
          have ev : τ1.1 123 ((((rr :: ll :: t).length : Nat) : Int) + (-2)).toNat = ll := by
            rw [et, F1 123 _ rfl]
            exact hR.tail.top
          rw [ev]
          refine ql_c5 l ((((rr :: ll :: t).length : Nat) : Int) + (-1)) p ll.toInt ((((rr :: ll :: t).length : Nat) : Int) + (-2)) hB1 ⟨by omega, by omega, by omega, ai_rng _, by omega, trivial⟩ ?_
          intro τ2 y2 hB2 F2 _ _ _ _
          refine Ok.ald (n := 420) rfl rfl rfl (by decide) (by omega) (by omega) ?_
          have ev2 : τ2.1 123 ((((rr :: ll :: t).length : Nat) : Int) + (-1)).toNat = rr := by
            rw [et1, F2 123 _ rfl, F1 123 _ rfl]
            exact hR.top
          rw [ev2]
          refine Ok.cv rfl rfl rfl rfl rfl rfl rfl ?_
          refine (x_two (σ := τ2) _ ll.toInt rr.toInt c4 (ai_rng _) (ai_rng _) h0 hB2).use (by decide) (fun r τ3 q => ?_)
          obtain ⟨rfl, hB3, F3⟩ := q
          rw [oI, oI]
          refine Ok.ast (n := 420) rfl rfl rfl (by decide) (by omega) (by omega) ?_
          rw [et, oI]
          have R3 := ((hR.tail.tail.fq (G := []) rfl F1).fq (G := []) rfl F2).fq (G := []) rfl F3
          exact fin τ3 hB3 (FQ.tr F1 (FQ.tr F2 F3)) R3
        · refine ql_b6 l ((rr :: ll :: t).length : Nat) p hB ⟨by omega, by omega, by omega, trivial⟩ ⟨by rw [ep]; exact h1, trivial⟩ ?_
          intro τ1 y1 hB1 F1 _ _ _ _
          refine Ok.ald (n := 420) rfl rfl rfl (by decide) (by omega) (by omega) ?_
          have ev : τ1.1 123 ((((rr :: ll :: t).length : Nat) : Int) + (-2)).toNat = ll := by
            rw [et, F1 123 _ rfl]
            exact hR.tail.top
          rw [ev]
          refine ql_c6 l ((((rr :: ll :: t).length : Nat) : Int) + (-1)) p ll.toInt ((((rr :: ll :: t).length : Nat) : Int) + (-2)) hB1 ⟨by omega, by omega, by omega, ai_rng _, by omega, trivial⟩ ?_
          intro τ2 y2 hB2 F2 _ _ _ _
          refine Ok.ald (n := 420) rfl rfl rfl (by decide) (by omega) (by omega) ?_
          have ev2 : τ2.1 123 ((((rr :: ll :: t).length : Nat) : Int) + (-1)).toNat = rr := by
            rw [et1, F2 123 _ rfl, F1 123 _ rfl]
            exact hR.top
          rw [ev2]
          refine Ok.cv rfl rfl rfl rfl rfl rfl rfl ?_
          refine (x_two (σ := τ2) _ ll.toInt rr.toInt c4 (ai_rng _) (ai_rng _) h0 hB2).use (by decide) (fun r τ3 q => ?_)
          obtain ⟨rfl, hB3, F3⟩ := q
          rw [oI, oI]
          refine Ok.ast (n := 420) rfl rfl rfl (by decide) (by omega) (by omega) ?_
          rw [et, oI]
          have R3 := ((hR.tail.tail.fq (G := []) rfl F1).fq (G := []) rfl F2).fq (G := []) rfl F3
          exact fin τ3 hB3 (FQ.tr F1 (FQ.tr F2 F3)) R3
        · refine ql_b7 l ((rr :: ll :: t).length : Nat) p hB ⟨by omega, by omega, by omega, trivial⟩ ⟨by rw [ep]; exact h1, trivial⟩ ?_
          intro τ1 y1 hB1 F1 _ _ _ _
          refine Ok.ald (n := 420) rfl rfl rfl (by decide) (by omega) (by omega) ?_
          have ev : τ1.1 123 ((((rr :: ll :: t).length : Nat) : Int) + (-2)).toNat = ll := by
            rw [et, F1 123 _ rfl]
            exact hR.tail.top
          rw [ev]
          refine ql_c7 l ((((rr :: ll :: t).length : Nat) : Int) + (-1)) p ll.toInt ((((rr :: ll :: t).length : Nat) : Int) + (-2)) hB1 ⟨by omega, by omega, by omega, ai_rng _, by omega, trivial⟩ ?_
          intro τ2 y2 hB2 F2 _ _ _ _
          refine Ok.ald (n := 420) rfl rfl rfl (by decide) (by omega) (by omega) ?_
          have ev2 : τ2.1 123 ((((rr :: ll :: t).length : Nat) : Int) + (-1)).toNat = rr := by
            rw [et1, F2 123 _ rfl, F1 123 _ rfl]
            exact hR.top
          rw [ev2]
          refine Ok.cv rfl rfl rfl rfl rfl rfl rfl ?_
          refine (x_two (σ := τ2) _ ll.toInt rr.toInt c4 (ai_rng _) (ai_rng _) h0 hB2).use (by decide) (fun r τ3 q => ?_)
          obtain ⟨rfl, hB3, F3⟩ := q
          rw [oI, oI]
          refine Ok.ast (n := 420) rfl rfl rfl (by decide) (by omega) (by omega) ?_
          rw [et, oI]
          have R3 := ((hR.tail.tail.fq (G := []) rfl F1).fq (G := []) rfl F2).fq (G := []) rfl F3
          exact fin τ3 hB3 (FQ.tr F1 (FQ.tr F2 F3)) R3
        · refine ql_b8 l ((rr :: ll :: t).length : Nat) p hB ⟨by omega, by omega, by omega, trivial⟩ ⟨by rw [ep]; exact h1, trivial⟩ ?_
          intro τ1 y1 hB1 F1 _ _ _ _
          refine Ok.ald (n := 420) rfl rfl rfl (by decide) (by omega) (by omega) ?_
          have ev : τ1.1 123 ((((rr :: ll :: t).length : Nat) : Int) + (-2)).toNat = ll := by
            rw [et, F1 123 _ rfl]
            exact hR.tail.top
          rw [ev]
          refine ql_c8 l ((((rr :: ll :: t).length : Nat) : Int) + (-1)) p ll.toInt ((((rr :: ll :: t).length : Nat) : Int) + (-2)) hB1 ⟨by omega, by omega, by omega, ai_rng _, by omega, trivial⟩ ?_
          intro τ2 y2 hB2 F2 _ _ _ _
          refine Ok.ald (n := 420) rfl rfl rfl (by decide) (by omega) (by omega) ?_
          have ev2 : τ2.1 123 ((((rr :: ll :: t).length : Nat) : Int) + (-1)).toNat = rr := by
            rw [et1, F2 123 _ rfl, F1 123 _ rfl]
            exact hR.top
          rw [ev2]
          refine Ok.cv rfl rfl rfl rfl rfl rfl rfl ?_
          refine (x_two (σ := τ2) _ ll.toInt rr.toInt c4 (ai_rng _) (ai_rng _) h0 hB2).use (by decide) (fun r τ3 q => ?_)
          obtain ⟨rfl, hB3, F3⟩ := q
          rw [oI, oI]
          refine Ok.ast (n := 420) rfl rfl rfl (by decide) (by omega) (by omega) ?_
          rw [et, oI]
          have R3 := ((hR.tail.tail.fq (G := []) rfl F1).fq (G := []) rfl F2).fq (G := []) rfl F3
          exact fin τ3 hB3 (FQ.tr F1 (FQ.tr F2 F3)) R3
  · rw [if_neg c4] at h
    cases h
set_option maxRecDepth 20000 in
/-- a line's codes are run -/
theorem x_mru {l to : Nat} (hl : l ≤ 15) (hto : to ≤ 400) : ∀ (d : List Int) (p : Nat) (S S' : List Int32) (b b' : Bool) (τ : pm_S), ev_r true f 419 d (S, b) = some (S', b') → p + d.length ≤ to → mc_R τ p d → sI τ 118 l = (to : Int) → an_GB pm_B τ → (∀ j, j < 9 → τ.1 122 j = f j) → ms_R τ S → (∀ τ' : pm_S, an_GB pm_B τ' → FQ [(123, 9999)] τ τ' → ms_R τ' S' → Ok 198 5 22 [.ref 93, .int (Int32.ofInt 0), .int (Int32.ofInt (l : Int)), .int (Int32.ofInt (S'.length : Int)), .int (Int32.ofInt ((p + d.length : Nat) : Int))] [] τ' Q) → Ok 198 5 22 [.ref 93, .int (Int32.ofInt 0), .int (Int32.ofInt (l : Int)), .int (Int32.ofInt (S.length : Int)), .int (Int32.ofInt (p : Int))] [] τ Q
  | [], p, S, S', b, b', τ, h, _, _, _, hB, _, hR, hQ => by
    have h : some (S, b) = some (S', b') := h
    injection h with h
    injection h with h _
    rw [← h] at hQ
    exact hQ τ hB (fun _ _ _ => rfl) hR
  | z :: d, p, S, S', b, b', τ, h, hp, hc, h118, hB, hf, hR, hQ => by
    have h : (ev_s true f 419 z (S, b)).bind (ev_r true f 419 d) = some (S', b') := h
    have hp : p + (d.length + 1) ≤ to := hp
    have hS := hR.1
    cases hu : ev_s true f 419 z (S, b) with
    | none =>
      rw [hu] at h
      cases h
    | some u =>
      rw [hu] at h
      obtain ⟨S1, b1⟩ := u
      have h : ev_r true f 419 d (S1, b1) = some (S', b') := h
      have c0 := hc 0 (Nat.zero_lt_succ _)
      have el : ((l : Int)).toNat = l := by omega
      refine ql_i22 l S.length p to hB ⟨by omega, by omega, by omega, by omega, trivial⟩ ⟨by rw [el]; exact h118, trivial⟩ ?_
      intro τ1 y1 hB1 F1 _ _ _ _
      refine Ok.ic rfl rfl (by omega) (by omega) (by omega) (by omega) (fun g => ?_) (fun g => ?_)
      · have g : (to : Int) ≤ (p : Int) := g
        exfalso
        omega
      · refine x_mst (f := f) z hu hl (by omega) hB1 (fun j hj => (F1 122 j rfl).trans (hf j hj)) (hR.fq (G := []) rfl F1) ((congrArg Int32.toInt (F1 119 p rfl)).trans c0.1) ((congrArg Int32.toInt (F1 120 p rfl)).trans c0.2) (fun τ2 hB2 F2 R2 => ?_)
        have G2 : FQ [(123, 9999)] τ τ2 := FQ.tr (FQ.up (G := []) rfl F1) F2
        refine x_mru hl hto d (p + 1) S1 S' b1 b' τ2 h (by omega) (fun j hj => ?_) ((congrArg Int32.toInt (G2 118 l rfl)).trans h118) hB2 (fun j hj => (G2 122 j rfl).trans (hf j hj)) R2 (fun τ' hB' F' R' => ?_)
        · have q := hc (j + 1) (Nat.succ_lt_succ hj)
          rw [show p + 1 + j = p + (j + 1) by omega]
          exact ⟨(congrArg Int32.toInt (G2 119 _ rfl)).trans q.1, (congrArg Int32.toInt (G2 120 _ rfl)).trans q.2⟩
        · rw [show p + 1 + d.length = p + (d.length + 1) by omega]
          exact hQ τ' hB' (FQ.tr G2 F') R'
end LWM
set_option maxRecDepth 20000 in
/-- whether a line's condition is so -/
theorem x_iso {f : Nat → Int32} {l b : Nat} {ln : List Int} {σ : pm_S} (hw : lnW ln) (hl : l ≤ 15) (hB : an_GB pm_B σ) (hf : ∀ j, j < 9 → σ.1 122 j = f j) (h117 : sI σ 117 l = (b : Int)) (h118 : sI σ 118 l = ((b + (m_ln ln).length : Nat) : Int)) (hb : b + (m_ln ln).length ≤ 400) (hc : mc_R σ b (m_ln ln)) : Sp 198 5 [.ref 93, .int (Int32.ofInt 0), .int (Int32.ofInt (l : Int))] σ (fun r τ => r = some (b01 (decide (lv f ln ≠ 0))) ∧ an_GB pm_B τ ∧ FQ [(123, 9999)] σ τ) := by
  have el : ((l : Int)).toNat = l := by omega
  obtain ⟨d, z, b1, e, hz, he, hm⟩ := ln_cl (f := f) hw
  refine Sp.at rfl rfl ?_
  refine ql_i0 l b ((b + (m_ln ln).length : Nat) : Int) _ _ rfl rfl hB ⟨by omega, by omega, by omega, trivial⟩ ⟨by rw [el]; exact h117, by rw [el]; exact h118, trivial⟩ ?_
  intro τ1 y1 u3 u4 k3 k4 hB1 F1 _ _ _ c1
  refine Ok.ic rfl rfl (by omega) (by omega) (by omega) (by omega) (fun g => ?_) (fun g => ?_)
  · have g : (b : Int) ≠ ((b + (m_ln ln).length : Nat) : Int) := g
    rcases hm with ⟨m1, m2, b2, m3⟩ | ⟨m1, _⟩
    · rw [m1] at h118 hb hc g
      refine ql_i11 l b ((b + (m_ln ln).length : Nat) : Int) u3 u4 k3 k4 hB1 ⟨by omega, by omega, by rw [m1]; omega, trivial⟩ ⟨c1.1, c1.2.1, trivial⟩ ?_
      intro τ2 y2 hB2 F2 _ _ _ _
      have G2 : FQ [] σ τ2 := FQ.tr F1 F2
      refine x_mru (f := f) (to := b + d.length) hl hb d b [] [lv f ln] false b2 τ2 m3 (Nat.le_refl _) (fun j hj => ?_) ((congrArg Int32.toInt (G2 118 l rfl)).trans h118) hB2 (fun j hj => (G2 122 j rfl).trans (hf j hj)) ⟨by decide, fun j hj => absurd hj (Nat.not_lt_zero _)⟩ (fun τ3 hB3 F3 R3 => ?_)
      · have q := hc j hj
        exact ⟨(congrArg Int32.toInt (G2 119 _ rfl)).trans q.1, (congrArg Int32.toInt (G2 120 _ rfl)).trans q.2⟩
      · have G3 : FQ [(123, 9999)] σ τ3 := FQ.tr (FQ.up (G := []) rfl G2) F3
        refine ql_i22 l (1 : Nat) ((b + d.length : Nat) : Int) ((b + d.length : Nat) : Int) hB3 ⟨by omega, by decide, by omega, by omega, trivial⟩ ⟨by rw [el]; exact (congrArg Int32.toInt (G3 118 l rfl)).trans h118, trivial⟩ ?_
        intro τ4 y4 hB4 F4 _ _ _ _
        refine Ok.ic rfl rfl (by omega) (by omega) (by omega) (by omega) (fun g => ?_) (fun g => ?_)
        · refine ql_118 l (1 : Nat) ((b + d.length : Nat) : Int) hB4 ⟨by omega, by decide, by omega, trivial⟩ ?_
          intro τ5 y5 hB5 F5 _ _ _ _
          refine Ok.ald (n := 420) rfl rfl rfl (by decide) (by omega) (by omega) ?_
          have ev : τ5.1 123 (0 : Int).toNat = lv f ln := by
            have t := R3.top
            rw [F5 123 _ rfl, F4 123 _ rfl]
            exact t
          rw [ev]
          have G5 : FQ [(123, 9999)] σ τ5 := FQ.tr G3 (FQ.up (G := []) rfl (FQ.tr F4 F5))
          refine ql_122 l (lv f ln).toInt _ _ rfl rfl hB5 ⟨by omega, ai_rng _, trivial⟩ ?_ ?_
          · intro τ6 y6 hB6 F6 f6 _ _ _
            have f2 := f6.2.1
            have e0 : lv f ln = 0 := Int32.toInt_inj.mp (show (lv f ln).toInt = (0 : Int32).toInt by show (lv f ln).toInt = 0; omega)
            have ed : decide (lv f ln ≠ 0) = false := decide_eq_false (fun w => w e0)
            rw [ed]
            exact ⟨rfl, hB6, FQ.tr G5 (FQ.up (G := []) rfl F6)⟩
          · intro τ6 y6 hB6 F6 f6 rl _ _
            have ne : lv f ln ≠ 0 := fun w => rl.1 (by rw [w]; rfl)
            have ed : decide (lv f ln ≠ 0) = true := decide_eq_true ne
            rw [ed]
            exact ⟨rfl, hB6, FQ.tr G5 (FQ.up (G := []) rfl F6)⟩
        · have g : ((b + d.length : Nat) : Int) < ((b + d.length : Nat) : Int) := g
          exfalso
          omega
    · rw [m1] at g
      exfalso
      have g : (b : Int) ≠ ((b + 0 : Nat) : Int) := g
      omega
  · have g : (b : Int) = ((b + (m_ln ln).length : Nat) : Int) := g
    refine ql_i9 l u3 u4 k3 k4 hB1 ⟨by omega, trivial⟩ ?_
    intro τ2 y2 hB2 F2 _ _ _ _
    rcases hm with ⟨m1, m2, _⟩ | ⟨_, m2⟩
    · rw [m1] at g
      exfalso
      omega
    · have ed : decide (lv f ln ≠ 0) = true := decide_eq_true (by rw [m2]; decide)
      rw [ed]
      exact ⟨rfl, hB2, FQ.up (G := []) rfl (FQ.tr F1 F2)⟩
set_option maxRecDepth 20000 in
/-- the lines are asked, from the m-th on -/
theorem x_mls {f : Nat → Int32} {dd : Int} (hd : 0 ≤ dd ∧ dd ≤ 29) {Q : Option Value → pm_S → Prop} {N : Nat} (hN : N ≤ 16) : ∀ (ls : List (List Int)) (m b : Nat) (τ : pm_S), m + ls.length = N → (∀ l ∈ ls, lnW l) → mt_LN 0 τ m b ls → b + (ls.map m_ln).flatten.length ≤ 400 → mc_R τ b (ls.map m_ln).flatten → cI τ 36 = (N : Int) → an_GB pm_B τ → (∀ j, j < 9 → τ.1 122 j = f j) → (∀ τ' : pm_S, an_GB pm_B τ' → FQ [(123, 9999)] τ τ' → Q (some (b01 (LW f ls))) τ') → Ok 201 9 83 [.ref 93, .int (Int32.ofInt dd), .int (Int32.ofInt (m : Int))] [] τ Q
  | [], m, b, τ, hm, _, _, _, _, h36, hB, _, hQ => by
    have hm : m + 0 = N := hm
    refine ql_l83 dd m N hB ⟨hd, by omega, by omega, trivial⟩ ⟨h36, trivial⟩ ?_
    intro τ1 y1 hB1 F1 _ _ _ _
    refine Ok.ic rfl rfl (by omega) (by omega) (by omega) (by omega) (fun g => ?_) (fun g => ?_)
    · refine ql_l103 dd _ rfl hB1 ⟨hd, trivial⟩ ?_
      intro τ2 y2 hB2 F2 _ _ _ _
      exact hQ τ2 hB2 (FQ.up (G := []) rfl (FQ.tr F1 F2))
    · have g : (m : Int) < (N : Int) := g
      exfalso
      omega
  | l :: r, m, b, τ, hm, hw, hL, hb, hc, h36, hB, hf, hQ => by
    have hm : m + (r.length + 1) = N := hm
    obtain ⟨g1, g2, g3, g4⟩ := hL
    have g1 := g1
    rw [Nat.zero_add] at g1 g2 g3
    have fl : ((l :: r).map m_ln).flatten = m_ln l ++ (r.map m_ln).flatten := rfl
    rw [fl] at hb hc
    have hb2 : b + ((m_ln l).length + (r.map m_ln).flatten.length) ≤ 400 := by
      rw [← List.length_append]
      exact hb
    have em : ((m : Int)).toNat = m := by omega
    obtain ⟨d, z, b1, e, hz, he, _⟩ := ln_cl (f := f) (hw l List.mem_cons_self)
    have last : l.getLastD 0 = z := by rw [e, List.getLastD_concat]
    refine ql_l83 dd m N hB ⟨hd, by omega, by omega, trivial⟩ ⟨h36, trivial⟩ ?_
    intro τ1 y1 hB1 F1 _ _ _ _
    refine Ok.ic rfl rfl (by omega) (by omega) (by omega) (by omega) (fun g => ?_) (fun g => ?_)
    · have g : (N : Int) ≤ (m : Int) := g
      exfalso
      omega
    · refine ql_l87 dd m hB1 ⟨hd, by omega, trivial⟩ ?_
      intro τ2 y2 hB2 F2 _ _ _ _
      have G2 : FQ [] τ τ2 := FQ.tr F1 F2
      refine Ok.cv rfl rfl rfl rfl rfl rfl rfl ?_
      refine (x_iso (f := f) (l := m) (b := b) (ln := l) (hw l List.mem_cons_self) (by omega) hB2 (fun j hj => (G2 122 j rfl).trans (hf j hj)) ((congrArg Int32.toInt (G2 117 m rfl)).trans g2) ((congrArg Int32.toInt (G2 118 m rfl)).trans g3) (by omega) (fun j hj => ?_)).use (by decide) (fun rr τ3 q => ?_)
      · have q := hc j (by rw [List.length_append]; omega)
        rw [gd_l hj] at q
        exact ⟨(congrArg Int32.toInt (G2 119 _ rfl)).trans q.1, (congrArg Int32.toInt (G2 120 _ rfl)).trans q.2⟩
      · obtain ⟨rfl, hB3, F3⟩ := q
        have G3 : FQ [(123, 9999)] τ τ3 := FQ.tr (FQ.up (G := []) rfl G2) F3
        have h116 : sI τ3 116 m = -1 - z := by
          rw [← last]
          exact (congrArg Int32.toInt (G3 116 m rfl)).trans g1
        have w01 : 0 ≤ (if decide (lv f l ≠ 0) = true then (1 : Int) else 0) ∧ (if decide (lv f l ≠ 0) = true then (1 : Int) else 0) ≤ 1 := by split <;> decide
        refine ql_l91 dd m (if decide (lv f l ≠ 0) = true then 1 else 0) (-1 - z) hB3 ⟨hd, by omega, w01, by omega, trivial⟩ ⟨by rw [em]; exact h116, trivial⟩ ?_ ?_ ?_
        · intro τ4 y4 hB4 F4 f4 _ _ _
          have f3 := f4.2.2.1
          have e0 : lv f l = 0 := by
            by_cases w : lv f l = 0
            · exact w
            · rw [if_pos (decide_eq_true w)] at f3
              exfalso
              omega
          have eW : LW f (l :: r) = LW f r := if_pos e0
          rw [eW] at hQ
          have G4 : FQ [(123, 9999)] τ τ4 := FQ.tr G3 (FQ.up (G := []) rfl F4)
          rw [show (m : Int) + 1 = ((m + 1 : Nat) : Int) by omega]
          refine x_mls hd hN r (m + 1) (b + (m_ln l).length) τ4 (by omega) (fun x hx => hw x (List.mem_cons_of_mem _ hx)) (mt_LN.fr (fun i => ⟨G4 116 i rfl, G4 117 i rfl, G4 118 i rfl⟩) r (m + 1) _ g4) (by omega) (fun j hj => ?_) ((congrArg Int32.toInt (G4 93 36 rfl)).trans h36) hB4 (fun j hj => (G4 122 j rfl).trans (hf j hj)) (fun τ' hB' F' => hQ τ' hB' (FQ.tr G4 F'))
          have q := hc ((m_ln l).length + j) (by rw [List.length_append]; omega)
          rw [gd_e] at q
          rw [Nat.add_assoc]
          exact ⟨(congrArg Int32.toInt (G4 119 _ rfl)).trans q.1, (congrArg Int32.toInt (G4 120 _ rfl)).trans q.2⟩
        · intro τ4 y4 hB4 F4 f4 rl _ _
          have f3 := f4.2.2.1
          have r1 := rl.1
          have ne : ¬ lv f l = 0 := fun w => by
            rw [if_neg (by rw [decide_eq_false (fun h => h w)]; decide)] at f3
            omega
          have eW : LW f (l :: r) = false := by
            show (if lv f l = 0 then LW f r else decide (l.getLastD 0 = -1)) = false
            rw [if_neg ne, last]
            exact decide_eq_false (by omega)
          rw [eW] at hQ
          exact hQ τ4 hB4 (FQ.tr G3 (FQ.up (G := []) rfl F4))
        · intro τ4 y4 hB4 F4 f4 _ _ _
          have f3 := f4.2.2.1
          have f5 := f4.2.2.2.1
          have ne : ¬ lv f l = 0 := fun w => by
            rw [if_neg (by rw [decide_eq_false (fun h => h w)]; decide)] at f3
            omega
          have eW : LW f (l :: r) = true := by
            show (if lv f l = 0 then LW f r else decide (l.getLastD 0 = -1)) = true
            rw [if_neg ne, last]
            exact decide_eq_true (by omega)
          rw [eW] at hQ
          exact hQ τ4 hB4 (FQ.tr G3 (FQ.up (G := []) rfl F4))

