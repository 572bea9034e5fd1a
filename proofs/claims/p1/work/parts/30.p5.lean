theorem w10 {x y : Nat} (hx : x < 10) (hy : y < 10) : (nI x * nI 10 + nI y).toNatClampNeg = x * 10 + y := by
  rw [pk_mul, nI_add, tn_n (by omega)]
theorem w01 {x y : Nat} (hx : x < 10) (hy : y < 10) : (nI 10 * nI x + nI y).toNatClampNeg = x * 10 + y := by
  rw [Int32.mul_comm]
  exact w10 hx hy
theorem p_set (a1 a2 : Int32) : Pair Inv 133 172 [.int a1, .int a2] := by
  intro σ hI
  have hI0 := hI
  obtain ⟨⟨ns, np, nd, nl, nw, sun, r1, r2, r3, r4, r5, r6, r7⟩, ⟨t, rr⟩, ri⟩ := hI

  refine (x_set σ a1 a2 trivial).use (by decide) (fun r τ h => ?_)
  rcases h with ⟨h1, rfl, ht⟩ | ⟨h1, rfl, ht⟩
  · rw [ht]
    refine ⟨_, rfl, (m_set _ a1 a2 (by simp [va_up]; try omega)).use (by decide) (fun r' τ' h' => ?_)⟩
    rcases h' with ⟨h2, rfl, ht'⟩ | ⟨h2, rfl, ht'⟩
    · rw [ht']
      refine ⟨rfl, ⟨⟨ns, np, nd, nl, nw, sun, ?_, ?_, ?_, ?_, ?_, ?_, ?_⟩, ⟨t, ?_⟩, ri_of ri ?_ ?_ ?_ (fun c k1 k2 => ?_)⟩⟩
      · simpa [va_up, upd] using r1
      · simp [va_up, upd]
        obtain ⟨c1, c2, c3, c4, c5⟩ := r2
        obtain ⟨x, x1, rfl⟩ := nI_rng (n := 4) (a := a1) (by omega) (by omega) (by omega)
        obtain ⟨v, v1, rfl⟩ := nI_rng (n := 101) (a := a2) (by omega) (by omega) (by omega)
        rw [tn_n (by omega)]
        rw [ti_n (by omega), ti_n (by omega)] at h1
        refine ⟨fun j hj => ?_, ?_, ?_, ?_, ?_⟩
        · by_cases hjx : j = x
          · simp [upd, hjx]
          · simp [upd, hjx]; exact c1 j hj
        · by_cases hx : x = 0
          · subst hx; exact ⟨v, by omega, by simp [upd]⟩
          · simp [upd, Ne.symm hx]; exact c2
        · by_cases hx : x = 1
          · subst hx; exact ⟨v, by omega, by simp [upd]⟩
          · simp [upd, Ne.symm hx]; exact c3
        · by_cases hx : x = 2
          · subst hx; exact ⟨v, by omega, by simp [upd]⟩
          · simp [upd, Ne.symm hx]; exact c4
        · by_cases hx : x = 3
          · subst hx; exact ⟨v, by omega, by omega, by simp [upd]⟩
          · simp [upd, Ne.symm hx]; exact c5
      · simpa [va_up, upd] using r3
      · simpa [va_up, upd] using r4
      · simpa [va_up, upd] using r5
      · simpa [va_up, upd] using r6
      · simpa [va_up, upd] using r7
      · simpa [va_up, upd] using rr
      · simp [va_up, upd]
      · simp [va_up, upd]
      · simp [va_up, upd]
      · dsimp only; repeat rw [up_k k1 k2 (by decide)]
    · exfalso
      first | (simp [va_up] at h2; omega) | exact h2 h1
  · rw [ht]
    refine ⟨_, rfl, (m_set _ a1 a2 trivial).use (by decide) (fun r' τ' h' => ?_)⟩
    rcases h' with ⟨h2, rfl, ht'⟩ | ⟨h2, rfl, ht'⟩
    · exfalso
      first | omega | exact h1 h2
    · rw [ht']
      exact ⟨rfl, Inv_told hI0⟩
theorem p_way (a1 a2 a3 : Int32) : Pair Inv 130 167 [.int a1, .int a2, .int a3] := by
  intro σ hI
  have hI0 := hI
  obtain ⟨⟨ns, np, nd, nl, nw, sun, r1, r2, r3, r4, r5, r6, r7⟩, ⟨t, rr⟩, ri⟩ := hI
  have s1 : (σ.1 3 0).toInt = ns := by rw [r3.1]; exact nI_toInt (by have := r3.2.2.1; omega)
  have s2 : (σ.1 93 2).toInt = ns := by rw [r3.2.1]; exact nI_toInt (by have := r3.2.2.1; omega)
  have s3 := r3.2.2.1

  refine (x_way σ a1 a2 a3 (by omega)).use (by decide) (fun r τ h => ?_)
  rcases h with ⟨h1, rfl, ht⟩ | ⟨h1, rfl, ht⟩
  · rw [ht]
    refine ⟨_, rfl, (m_way _ a1 a2 a3 (by simp [va_up]; try omega)).use (by decide) (fun r' τ' h' => ?_)⟩
    rcases h' with ⟨h2, rfl, ht'⟩ | ⟨h2, rfl, ht'⟩
    · rw [ht']
      refine ⟨rfl, ⟨⟨ns, np, nd, nl, nw, sun, ?_, ?_, ?_, ?_, ?_, ?_, ?_⟩, ⟨t, ?_⟩, ri_of ri ?_ ?_ ?_ (fun c k1 k2 => ?_)⟩⟩
      · simpa [va_up, upd] using r1
      · simpa [va_up, upd] using r2
      · simp [va_up, upd]
        obtain ⟨c1, c2, c3, c4, c5, c6⟩ := r3
        obtain ⟨x, x1, rfl⟩ := nI_rng (n := ns) (a := a1) (by omega) (by omega) (by omega)
        obtain ⟨y, y1, rfl⟩ := nI_rng (n := ns) (a := a2) (by omega) (by omega) (by omega)
        obtain ⟨m, m1, rfl⟩ := nI_rng (n := 100) (a := a3) (by omega) (by omega) (by omega)
        have hxy : x ≠ y := fun e => h1.2.2.2.2.1 (by rw [e])
        rw [w10 (by omega) (by omega), w10 (by omega) (by omega), w01 (by omega) (by omega), w01 (by omega) (by omega)]
        refine ⟨c1, c2, c3, c4, fun a ha b hb => ?_, c6⟩
        by_cases hab : (a = x ∧ b = y) ∨ (a = y ∧ b = x)
        · refine ⟨m, by omega, fun e => by omega, ?_, ?_, fun _ => ?_⟩
          · rcases hab with ⟨rfl, rfl⟩ | ⟨rfl, rfl⟩ <;> simp [upd]
          · rcases hab with ⟨rfl, rfl⟩ | ⟨rfl, rfl⟩ <;> simp [upd]
          · rcases hab with ⟨rfl, rfl⟩ | ⟨rfl, rfl⟩ <;> simp [upd]
        · obtain ⟨v, v1, v2, v3, v4, v5⟩ := c5 a ha b hb
          have e1 : ¬ a * 10 + b = x * 10 + y := fun e => hab (Or.inl ⟨by omega, by omega⟩)
          have e2 : ¬ a * 10 + b = y * 10 + x := fun e => hab (Or.inr ⟨by omega, by omega⟩)
          have e3 : ¬ b * 10 + a = x * 10 + y := fun e => hab (Or.inr ⟨by omega, by omega⟩)
          have e4 : ¬ b * 10 + a = y * 10 + x := fun e => hab (Or.inl ⟨by omega, by omega⟩)
          exact ⟨v, v1, v2, by simp [upd, e1, e2]; exact v3, by simp [upd, e3, e4]; exact v4, fun h => by simp [upd, e1, e2]; exact v5 h⟩
      · simpa [va_up, upd] using r4
      · simpa [va_up, upd] using r5
      · simpa [va_up, upd] using r6
      · simpa [va_up, upd] using r7
      · simpa [va_up, upd] using rr
      · simp [va_up, upd]
      · simp [va_up, upd]
      · simp [va_up, upd]
      · dsimp only; repeat rw [up_k k1 k2 (by decide)]
    · exfalso
      first | (simp [va_up] at h2; omega) | exact h2 h1
  · rw [ht]
    refine ⟨_, rfl, (m_way _ a1 a2 a3 (by omega)).use (by decide) (fun r' τ' h' => ?_)⟩
    rcases h' with ⟨h2, rfl, ht'⟩ | ⟨h2, rfl, ht'⟩
    · exfalso
      first | omega | exact h1 h2
    · rw [ht']
      exact ⟨rfl, Inv_told hI0⟩
theorem p_line (a1 a2 a3 a4 : Int32) : Pair Inv 149 239 [.int a1, .int a2, .int a3, .int a4] := by
  intro σ hI
  have hI0 := hI
  obtain ⟨⟨ns, np, nd, nl, nw, sun, r1, r2, r3, r4, r5, r6, r7⟩, ⟨t, rr⟩, ri⟩ := hI
  have s1 : (σ.1 3 0).toInt = ns := by rw [r3.1]; exact nI_toInt (by have := r3.2.2.1; omega)
  have s2 : (σ.1 93 2).toInt = ns := by rw [r3.2.1]; exact nI_toInt (by have := r3.2.2.1; omega)
  have s3 := r3.2.2.1
  have p1 : (σ.1 7 0).toInt = np := by rw [r4.1]; exact nI_toInt (by have := r4.2.2.1; omega)
  have p2 : (σ.1 93 5).toInt = np := by rw [r4.2.1]; exact nI_toInt (by have := r4.2.2.1; omega)
  have p3 := r4.2.2.1
  have l1 : (σ.1 21 0).toInt = nl := by rw [r6.1]; exact nI_toInt (by have := r6.2.2.1; omega)
  have l2 : (σ.1 93 23).toInt = nl := by rw [r6.2.1]; exact nI_toInt (by have := r6.2.2.1; omega)
  have l3 := r6.2.2.1

  refine (x_line σ a1 a2 a3 a4 (by omega)).use (by decide) (fun r τ h => ?_)
  rcases h with ⟨h1, rfl, ht⟩ | ⟨h1, rfl, ht⟩
  · rw [ht]
    refine ⟨_, rfl, (m_line _ a1 a2 a3 a4 (by simp [va_up]; try omega)).use (by decide) (fun r' τ' h' => ?_)⟩
    rcases h' with ⟨h2, rfl, ht'⟩ | ⟨h2, rfl, ht'⟩
    · rw [ht']
      refine ⟨by simp [va_up, r6.1, r6.2.1], ⟨⟨ns, np, nd, nl + 1, nw, sun, ?_, ?_, ?_, ?_, ?_, ?_, ?_⟩, ⟨t, ?_⟩, ri_of ri ?_ ?_ ?_ (fun c k1 k2 => ?_)⟩⟩
      · simpa [va_up, upd] using r1
      · simpa [va_up, upd] using r2
      · simpa [va_up, upd] using r3
      · simpa [va_up, upd] using r4
      · simpa [va_up, upd] using r5
      · simp [va_up, upd]
        obtain ⟨c1, c2, c3, c4⟩ := r6
        obtain ⟨w, w1, rfl⟩ := nI_rng (n := np) (a := a2) (by omega) (by omega) (by omega)
        rw [c1, c2, tn_n (by omega)]
        refine ⟨nI_1 nl, nI_1 nl, by omega, fun j hj => ?_⟩
        by_cases hjn : j = nl
        · subst hjn
          simp [upd]
          refine ⟨⟨w, w1, rfl⟩, ?_⟩
          rcases h1.2.2.2.2.1 with ⟨g1, g2, g3⟩ | ⟨g1, g2, g3, g4⟩
          · obtain ⟨v, v1, rfl⟩ := nI_rng (n := ns) (a := a4) (by omega) (by omega) (by omega)
            exact Or.inl ⟨i_eq.mpr (by rw [g1]; rfl), ⟨v, v1, rfl⟩⟩
          · obtain ⟨v, v1, rfl⟩ := nI_rng (n := np) (a := a3) (by omega) (by omega) (by omega)
            exact Or.inr ⟨i_eq.mpr (by rw [g1]; rfl), ⟨v, v1, rfl⟩, fun e => g4 (by rw [e])⟩
        · simp [upd, hjn]
          exact c4 j (by omega)
      · simpa [va_up, upd] using r7
      · simpa [va_up, upd] using rr
      · simp [va_up, upd]
      · simp [va_up, upd]
      · simp [va_up, upd]
      · dsimp only; repeat rw [up_k k1 k2 (by decide)]
    · exfalso
      first | (simp [va_up] at h2; omega) | exact h2 h1
  · rw [ht]
    refine ⟨_, rfl, (m_line _ a1 a2 a3 a4 (by omega)).use (by decide) (fun r' τ' h' => ?_)⟩
    rcases h' with ⟨h2, rfl, ht'⟩ | ⟨h2, rfl, ht'⟩
    · exfalso
      first | omega | exact h1 h2
    · rw [ht']
      exact ⟨rfl, Inv_told hI0⟩
theorem p_fault (a1 : Int32) : Pair Inv 138 196 [.int a1] := by
  intro σ hI
  have hI0 := hI
  obtain ⟨-, ⟨t, rr⟩, -⟩ := hI
  refine (x_fault σ a1 trivial).use (by decide) (fun r τ h => ?_)
  rcases h with ⟨h1, rfl, ht⟩ | ⟨h1, rfl, ht⟩ | ⟨h1, h1', rfl, ht⟩
  · rw [ht]
    refine ⟨_, rfl, (m_fault σ a1 trivial).use (by decide) (fun r' τ' h' => ?_)⟩
    obtain ⟨h2, ht'⟩ := h'
    rw [ht']
    refine ⟨?_, Inv_told hI0⟩
    rcases h2 with ⟨h2, rfl⟩ | ⟨h2, rfl⟩ | ⟨h2, h3, rfl⟩
    · rw [rr.1]
    · omega
    · omega
  · rw [ht]
    refine ⟨_, rfl, (m_fault σ a1 trivial).use (by decide) (fun r' τ' h' => ?_)⟩
    obtain ⟨h2, ht'⟩ := h'
    rw [ht']
    refine ⟨?_, Inv_told hI0⟩
    rcases h2 with ⟨h2, rfl⟩ | ⟨h2, rfl⟩ | ⟨h2, h3, rfl⟩
    · omega
    · rw [rr.2.1]
    · omega
  · rw [ht]
    refine ⟨_, rfl, (m_fault σ a1 trivial).use (by decide) (fun r' τ' h' => ?_)⟩
    obtain ⟨h2, ht'⟩ := h'
    rw [ht']
    refine ⟨?_, Inv_told hI0⟩
    rcases h2 with ⟨h2, rfl⟩ | ⟨h2, rfl⟩ | ⟨h2, h3, rfl⟩
    · omega
    · omega
    · rfl
