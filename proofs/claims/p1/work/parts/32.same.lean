/-! what scratch rows are: the invariant doesn't see them -/
theorem RT_same {ns np nd nl nw sun : Nat} {T μ : Nat → Nat → Int32} (h : RT ns np nd nl nw sun T T) (e : ∀ q, (1 ≤ q ∧ q ≤ 25) ∨ q = 32 ∨ (94 ≤ q ∧ q ≤ 113) ∨ (116 ≤ q ∧ q ≤ 120) → μ q = T q) (e31 : μ 31 0 = T 31 0 ∧ μ 31 1 = T 31 1) (e93 : ∀ j, j ∈ [1, 2, 5, 11, 19, 20, 21, 23, 36] → μ 93 j = T 93 j) : RT ns np nd nl nw sun μ μ := by
  unfold RT at h ⊢
  rw [e 1 (by omega), e 2 (by omega), e 3 (by omega), e 4 (by omega), e 5 (by omega), e 6 (by omega), e 7 (by omega), e 8 (by omega), e 9 (by omega), e 10 (by omega), e 11 (by omega), e 12 (by omega), e 13 (by omega), e 14 (by omega), e 15 (by omega), e 16 (by omega), e 17 (by omega), e 18 (by omega), e 19 (by omega), e 20 (by omega), e 21 (by omega), e 22 (by omega), e 23 (by omega), e 24 (by omega), e 25 (by omega), e 32 (by omega), e31.1, e31.2, e 94 (by omega), e 95 (by omega), e 96 (by omega), e 97 (by omega), e 98 (by omega), e 99 (by omega), e 100 (by omega), e 101 (by omega), e 102 (by omega), e 103 (by omega), e 104 (by omega), e 105 (by omega), e 106 (by omega), e 107 (by omega), e 108 (by omega), e 109 (by omega), e 110 (by omega), e 111 (by omega), e 112 (by omega), e 113 (by omega), e 116 (by omega), e 117 (by omega), e 118 (by omega), e 119 (by omega), e 120 (by omega), e93 1 (by decide), e93 2 (by decide), e93 5 (by decide), e93 11 (by decide), e93 19 (by decide), e93 20 (by decide), e93 21 (by decide), e93 23 (by decide), e93 36 (by decide)]
  exact h
def keepQ (q : Nat) : Prop := q ≤ 25 ∨ q = 32 ∨ (34 ≤ q ∧ q ≤ 68) ∨ (94 ≤ q ∧ q ≤ 120) ∨ q = 133
/-- a method that writes scratch alone keeps the invariant -/
theorem Inv_same {σ μ : pm_S} (h : Inv σ) (e : ∀ q, keepQ q → μ.1 q = σ.1 q) (e31 : μ.1 31 0 = σ.1 31 0 ∧ μ.1 31 1 = σ.1 31 1) (e93 : ∀ j, j ∈ [1, 2, 5, 11, 19, 20, 21, 23, 30, 36, 48, 49, 64] → μ.1 93 j = σ.1 93 j) : Inv μ := by
  obtain ⟨⟨ns, np, nd, nl, nw, sun, hr⟩, ⟨t, rr⟩, ri⟩ := h
  refine ⟨⟨ns, np, nd, nl, nw, sun, RT_same hr (fun q hq => e q (by unfold keepQ; omega)) e31 (fun j hj => e93 j ?_)⟩, ⟨t, ?_⟩, ri_of ri ?_ ?_ ?_ (fun c k1 k2 => e c (by unfold keepQ; omega))⟩
  · simp only [List.mem_cons, List.not_mem_nil, or_false] at hj ⊢
    omega
  · rw [e 67 (by unfold keepQ; omega), e 68 (by unfold keepQ; omega), e 114 (by unfold keepQ; omega), e 115 (by unfold keepQ; omega), e93 48 (by decide), e93 49 (by decide), e93 30 (by decide)]
    exact rr
  · rw [e 0 (by unfold keepQ; omega)]
  · exact e93 64 (by decide)
  · exact e 133 (by unfold keepQ; omega)
/-! feed -/
theorem FX5 {p pt s t : Nat} {b : Int32 → Int32 → Int32} {a1 a2 a3 a4 a5 : Int32} {σ τ1 τ2 τ3 τ4 τ : pm_S} (f1 : FX p pt s b t a1 σ τ1) (f2 : FX p pt s b (t + 4) a2 τ1 τ2) (f3 : FX p pt s b (t + 8) a3 τ2 τ3) (f4 : FX p pt s b (t + 12) a4 τ3 τ4) (f5 : FX p pt s b (t + 16) a5 τ4 τ) : τ.1 pt = ad b (ad b (ad b (ad b (ad b (σ.1 pt) t a1) (t + 4) a2) (t + 8) a3) (t + 12) a4) (t + 16) a5 ∧ τ.1 p s = nI (t + 20) ∧ (∀ j, j ≠ s → τ.1 p j = σ.1 p j) ∧ (∀ q, q ≠ p → q ≠ pt → τ.1 q = σ.1 q) ∧ τ.2 = σ.2 := by
  refine ⟨by rw [f5.1, f4.1, f3.1, f2.1, f1.1], f5.2.1, fun j hj => ?_, fun q q1 q2 => ?_, ?_⟩
  · rw [f5.2.2.1 j hj, f4.2.2.1 j hj, f3.2.2.1 j hj, f2.2.2.1 j hj, f1.2.2.1 j hj]
  · rw [f5.2.2.2.1 q q1 q2, f4.2.2.2.1 q q1 q2, f3.2.2.2.1 q q1 q2, f2.2.2.2.1 q q1 q2, f1.2.2.2.1 q q1 q2]
  · rw [f5.2.2.2.2, f4.2.2.2.2, f3.2.2.2.2, f2.2.2.2.2, f1.2.2.2.2]
theorem ad_rel {ta ta' : Nat → Int32} {t : Nat} (v : Int32) (h : ∀ j, j < t → ta j = ta' j ∧ ∃ w : Nat, w < 256 ∧ ta j = nI w) : ∀ j, j < t + 4 → ad bx ta t v j = ad bm ta' t v j ∧ ∃ w : Nat, w < 256 ∧ ad bx ta t v j = nI w := by
  have b24 := bx_eq v 24 (by omega)
  have b16 := bx_eq v 16 (by omega)
  have b8 := bx_eq v 8 (by omega)
  have b0 := bx_eq v 0 (by omega)
  intro j hj
  unfold ad upd
  by_cases h3 : j = t + 3
  · rw [if_pos h3, if_pos h3]; exact b0
  · rw [if_neg h3, if_neg h3]
    by_cases h2 : j = t + 2
    · rw [if_pos h2, if_pos h2]; exact b8
    · rw [if_neg h2, if_neg h2]
      by_cases h1 : j = t + 1
      · rw [if_pos h1, if_pos h1]; exact b16
      · rw [if_neg h1, if_neg h1]
        by_cases h0 : j = t
        · rw [if_pos h0, if_pos h0]; exact b24
        · rw [if_neg h0, if_neg h0]; exact h j (by omega)
theorem p_feed (a1 a2 a3 a4 a5 : Int32) : Pair Inv 135 175 [.int a1, .int a2, .int a3, .int a4, .int a5] := by
  intro σ hI
  have hI0 := hI
  obtain ⟨⟨ns, np, nd, nl, nw, sun, hr⟩, ⟨t, rr⟩, ri⟩ := hI
  have t3 := rr.2.2.2.2.1
  refine (x_feed σ a1 a2 a3 a4 a5 t t3 rr.2.2.1).use (by decide) (fun r τ h => ?_)
  rcases h with ⟨h1, rfl, τ1, τ2, τ3, τ4, f1, f2, f3, f4, f5⟩ | ⟨h1, rfl, ht⟩
  · obtain ⟨x1, x2, x3, x4, x5⟩ := FX5 f1 f2 f3 f4 f5
    have e93 : τ.1 93 = σ.1 93 := x4 93 (by decide) (by decide)
    refine ⟨_, rfl, (m_feed τ a1 a2 a3 a4 a5 t t3 (by rw [e93]; exact rr.2.2.2.1)).use (by decide) (fun r' τ' h' => ?_)⟩
    rcases h' with ⟨h2, rfl, μ1, μ2, μ3, μ4, g1, g2, g3, g4, g5⟩ | ⟨h2, rfl, ht'⟩
    · obtain ⟨y1, y2, y3, y4, y5⟩ := FX5 g1 g2 g3 g4 g5
      have fr : ∀ q, q ≠ 67 → q ≠ 68 → q ≠ 93 → q ≠ 114 → τ'.1 q = σ.1 q := by
        intro q q1 q2 q3 q4
        rw [y4 q q3 q4]
        show (va_up τ.1 93 (upd (τ.1 93) 0 0)) q = _
        rw [up_ne q3, x4 q q1 q2]
      have f93 : ∀ j, j ≠ 30 → j ≠ 0 → τ'.1 93 j = σ.1 93 j := by
        intro j j1 j2
        rw [y3 j j1]
        show (va_up τ.1 93 (upd (τ.1 93) 0 0)) 93 j = _
        simp [va_up, upd, j2, e93]
      have f67 : ∀ j, τ'.1 67 j = τ.1 67 j := by
        intro j
        rw [y4 67 (by decide) (by decide)]
        show (va_up τ.1 93 (upd (τ.1 93) 0 0)) 67 j = _
        rw [up_ne (by decide)]
      refine ⟨rfl, ⟨⟨ns, np, nd, nl, nw, sun, RT_same hr (fun q hq => fr q (by omega) (by omega) (by omega) (by omega)) ⟨by rw [fr 31 (by decide) (by decide) (by decide) (by decide)], by rw [fr 31 (by decide) (by decide) (by decide) (by decide)]⟩ (fun j hj => f93 j ?_ ?_)⟩, ⟨t + 20, ?_⟩, ri_of ri (by rw [fr 0 (by decide) (by decide) (by decide) (by decide)]) (f93 64 (by decide) (by decide)) (fr 133 (by decide) (by decide) (by decide) (by decide)) (fun c k1 k2 => fr c (by omega) (by omega) (by omega) (by omega))⟩⟩
      · rintro rfl; revert hj; decide
      · rintro rfl; revert hj; decide
      · have e114 : (va_up τ.1 93 (upd (τ.1 93) 0 0)) 114 = σ.1 114 := by rw [up_ne (by decide), x4 114 (by decide) (by decide)]
        have y1' : τ'.1 114 = ad bm (ad bm (ad bm (ad bm (ad bm (σ.1 114) t a1) (t + 4) a2) (t + 8) a3) (t + 12) a4) (t + 16) a5 := by rw [y1]; show ad bm (ad bm (ad bm (ad bm (ad bm ((va_up τ.1 93 (upd (τ.1 93) 0 0)) 114) t a1) (t + 4) a2) (t + 8) a3) (t + 12) a4) (t + 16) a5 = _; rw [e114]
        have e68 : τ'.1 68 = τ.1 68 := by
          rw [y4 68 (by decide) (by decide)]
          show (va_up τ.1 93 (upd (τ.1 93) 0 0)) 68 = _
          rw [up_ne (by decide)]
        rw [f67, f67, f67, x3 0 (by decide), x3 1 (by decide), x2, f93 48 (by decide) (by decide), f93 49 (by decide) (by decide), y2, e68, x1, y1', fr 115 (by decide) (by decide) (by decide) (by decide)]
        obtain ⟨c1, c2, c3, c4, c5, c6, c7⟩ := rr
        exact ⟨c1, c2, rfl, rfl, by omega, ad_rel a5 (ad_rel a4 (ad_rel a3 (ad_rel a2 (ad_rel a1 c6)))), c7⟩
    · exact absurd h1 h2
  · rw [ht]
    refine ⟨_, rfl, (m_feed σ a1 a2 a3 a4 a5 t t3 rr.2.2.2.1).use (by decide) (fun r' τ' h' => ?_)⟩
    rcases h' with ⟨h2, -⟩ | ⟨h2, rfl, ht'⟩
    · exact absurd h2 h1
    · rw [ht']
      exact ⟨rfl, Inv_told hI0⟩
