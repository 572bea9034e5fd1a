theorem Rpeople_mono {ns ns' n : Nat} {c c' : Int32} {ho co ag go st ho' co' ag' go' st' : Nat → Int32} (h : Rpeople ns n c c' ho co ag go st ho' co' ag' go' st') (hn : ns ≤ ns') : Rpeople ns' n c c' ho co ag go st ho' co' ag' go' st' := by
  refine ⟨h.1, h.2.1, h.2.2.1, fun j hj => ?_, h.2.2.2.2⟩
  obtain ⟨a, b, c, d, e, ⟨v, h1, h2⟩, ⟨w, h3, h4⟩, ⟨u, h5, h6⟩⟩ := h.2.2.2.1 j hj
  exact ⟨a, b, c, d, e, ⟨v, by omega, h2⟩, ⟨w, by omega, h4⟩, ⟨u, by omega, h6⟩⟩
theorem Rdebts_mono {ns np sun ns' np' sun' n : Nat} {c c' : Int32} {dr cr co pl ma pa ho dr' cr' co' pl' ma' pa' ho' : Nat → Int32} (h : Rdebts ns np sun n c c' dr cr co pl ma pa ho dr' cr' co' pl' ma' pa' ho') (hn : ns ≤ ns') (hp : np ≤ np') (hs : sun ≤ sun') : Rdebts ns' np' sun' n c c' dr cr co pl ma pa ho dr' cr' co' pl' ma' pa' ho' := by
  refine ⟨h.1, h.2.1, h.2.2.1, fun j hj => ?_⟩
  obtain ⟨a1, a2, a3, a4, a5, a6, a7, ⟨v1, b1, d1⟩, ⟨v2, b2, d2⟩, a8, a9, ⟨v3, b3, d3⟩, ⟨v4, b4, d4⟩, a10⟩ := h.2.2.2 j hj
  exact ⟨a1, a2, a3, a4, a5, a6, a7, ⟨v1, by omega, d1⟩, ⟨v2, by omega, d2⟩, a8, a9, ⟨v3, by omega, d3⟩, ⟨v4, by omega, d4⟩, a10⟩
theorem Rlines_mono {ns np ns' np' n : Nat} {c c' : Int32} {da wh ot pl da' wh' ot' pl' : Nat → Int32} (h : Rlines ns np n c c' da wh ot pl da' wh' ot' pl') (hn : ns ≤ ns') (hp : np ≤ np') : Rlines ns' np' n c c' da wh ot pl da' wh' ot' pl' := by
  refine ⟨h.1, h.2.1, h.2.2.1, fun j hj => ?_⟩
  obtain ⟨a1, a2, a3, a4, ⟨v1, b1, d1⟩, a5⟩ := h.2.2.2 j hj
  refine ⟨a1, a2, a3, a4, ⟨v1, by omega, d1⟩, ?_⟩
  rcases a5 with ⟨e1, v, e2, e3⟩ | ⟨e1, ⟨v, e2, e3⟩, e4⟩
  · exact Or.inl ⟨e1, v, by omega, e3⟩
  · exact Or.inr ⟨e1, ⟨v, by omega, e3⟩, e4⟩
/-- an int in a range is a number -/
theorem nI_rng {a : Int32} {n : Nat} (h0 : 0 ≤ a.toInt) (h1 : a.toInt < n) (hn : n < 2 ^ 31) : ∃ v : Nat, v < n ∧ a = nI v := vp_in_of (vp_in_iff.mpr ⟨h0, h1⟩) hn
/-- the frame of the image: places outside 34 .. 66 and 133 were written -/
theorem up_k {f : Nat → Nat → Int32} {p c : Nat} {v : Nat → Int32} (c1 : 34 ≤ c) (c2 : c ≤ 66) (h : p < 34 ∨ 66 < p) : va_up f p v c = f c := up_ne (by omega)
/-- the model's first act -/
theorem Inv_told {σ : pm_S} {v : Int32} (h : Inv σ) : Inv (va_up σ.1 93 (upd (σ.1 93) 0 v), σ.2) := by
  obtain ⟨⟨ns, np, nd, nl, nw, sun, r1, r2, r3, r4, r5, r6, r7⟩, ⟨t, rr⟩, ri⟩ := h
  refine ⟨⟨ns, np, nd, nl, nw, sun, ?_, ?_, ?_, ?_, ?_, ?_, ?_⟩, ⟨t, ?_⟩, ri_of ri ?_ ?_ ?_ (fun c k1 k2 => ?_)⟩
  · simpa [va_up, upd] using r1
  · simpa [va_up, upd] using r2
  · simpa [va_up, upd] using r3
  · simpa [va_up, upd] using r4
  · simpa [va_up, upd] using r5
  · simpa [va_up, upd] using r6
  · simpa [va_up, upd] using r7
  · simpa [va_up, upd] using rr
  · simp [va_up, upd]
  · simp [va_up, upd]
  · simp [va_up, upd]
  · exact up_k k1 k2 (by decide)
theorem p_spot (a1 : Int32) : Pair Inv 129 166 [.int a1] := by
  intro σ hI
  have hI0 := hI
  obtain ⟨⟨ns, np, nd, nl, nw, sun, r1, r2, r3, r4, r5, r6, r7⟩, ⟨t, rr⟩, ri⟩ := hI
  have s1 : (σ.1 3 0).toInt = ns := by rw [r3.1]; exact nI_toInt (by have := r3.2.2.1; omega)
  have s2 : (σ.1 93 2).toInt = ns := by rw [r3.2.1]; exact nI_toInt (by have := r3.2.2.1; omega)
  have s3 := r3.2.2.1

  refine (x_spot σ a1 (by omega)).use (by decide) (fun r τ h => ?_)
  rcases h with ⟨h1, rfl, ht⟩ | ⟨h1, rfl, ht⟩
  · rw [ht]
    refine ⟨_, rfl, (m_spot _ a1 (by simp [va_up]; omega)).use (by decide) (fun r' τ' h' => ?_)⟩
    rcases h' with ⟨h2, rfl, ht'⟩ | ⟨h2, rfl, ht'⟩
    · rw [ht']
      refine ⟨by simp [va_up, r3.1, r3.2.1], ⟨⟨ns + 1, np, nd, nl, nw, sun, ?_, ?_, ?_, ?_, ?_, ?_, ?_⟩, ⟨t, ?_⟩, ri_of ri ?_ ?_ ?_ (fun c k1 k2 => ?_)⟩⟩
      · simpa [va_up, upd] using r1
      · simpa [va_up, upd] using r2
      · simp [va_up, upd]
        obtain ⟨c1, c2, c3, c4, c5, c6⟩ := r3
        rw [c1, c2, tn_n (by omega)]
        obtain ⟨v, v1, v2⟩ := nI_rng (n := 100) h1.1 (by omega) (by decide)
        refine ⟨nI_1 ns, nI_1 ns, by omega, fun j hj => ?_, c5, c6⟩
        by_cases hjn : j = ns
        · subst hjn
          simp [upd]
          exact ⟨v, by omega, v2⟩
        · simp [upd, hjn]
          exact c4 j (by omega)
      · have h5 := Rpeople_mono r4 (Nat.le_succ ns)
        simpa [va_up, upd] using h5
      · have h5 := Rdebts_mono r5 (Nat.le_succ ns) (Nat.le_refl _) (Nat.le_refl _)
        simpa [va_up, upd] using h5
      · have h5 := Rlines_mono r6 (Nat.le_succ ns) (Nat.le_refl _)
        simpa [va_up, upd] using h5
      · simpa [va_up, upd] using r7
      · simpa [va_up, upd] using rr
      · simp [va_up, upd]
      · simp [va_up, upd]
      · simp [va_up, upd]
      · dsimp only; repeat rw [up_k k1 k2 (by decide)]
    · exfalso
      simp [va_up] at h2
      omega
  · rw [ht]
    refine ⟨_, rfl, (m_spot _ a1 (by omega)).use (by decide) (fun r' τ' h' => ?_)⟩
    rcases h' with ⟨h2, rfl, ht'⟩ | ⟨h2, rfl, ht'⟩
    · exfalso
      omega
    · rw [ht']
      exact ⟨rfl, Inv_told hI0⟩
theorem p_goal (a1 a2 : Int32) : Pair Inv 134 173 [.int a1, .int a2] := by
  intro σ hI
  have hI0 := hI
  obtain ⟨⟨ns, np, nd, nl, nw, sun, r1, r2, r3, r4, r5, r6, r7⟩, ⟨t, rr⟩, ri⟩ := hI
  have s1 : (σ.1 3 0).toInt = ns := by rw [r3.1]; exact nI_toInt (by have := r3.2.2.1; omega)
  have s2 : (σ.1 93 2).toInt = ns := by rw [r3.2.1]; exact nI_toInt (by have := r3.2.2.1; omega)
  have s3 := r3.2.2.1
  have p1 : (σ.1 7 0).toInt = np := by rw [r4.1]; exact nI_toInt (by have := r4.2.2.1; omega)
  have p2 : (σ.1 93 5).toInt = np := by rw [r4.2.1]; exact nI_toInt (by have := r4.2.2.1; omega)
  have p3 := r4.2.2.1

  refine (x_goal σ a1 a2 (by omega)).use (by decide) (fun r τ h => ?_)
  rcases h with ⟨h1, rfl, ht⟩ | ⟨h1, rfl, ht⟩
  · rw [ht]
    refine ⟨_, rfl, (m_goal _ a1 a2 (by simp [va_up]; omega)).use (by decide) (fun r' τ' h' => ?_)⟩
    rcases h' with ⟨h2, rfl, ht'⟩ | ⟨h2, rfl, ht'⟩
    · rw [ht']
      refine ⟨rfl, ⟨⟨ns, np, nd, nl, nw, sun, ?_, ?_, ?_, ?_, ?_, ?_, ?_⟩, ⟨t, ?_⟩, ri_of ri ?_ ?_ ?_ (fun c k1 k2 => ?_)⟩⟩
      · simpa [va_up, upd] using r1
      · simpa [va_up, upd] using r2
      · simpa [va_up, upd] using r3
      · simp [va_up, upd]
        obtain ⟨c1, c2, c3, c4, c5⟩ := r4
        obtain ⟨v, v1, rfl⟩ := nI_rng (n := np) h1.1 (by omega) (by omega)
        obtain ⟨w, w1, rfl⟩ := nI_rng (n := ns) h1.2.2.1 (by omega) (by omega)
        rw [tn_n (by omega)]
        refine ⟨c1, c2, c3, fun j hj => ?_, c5⟩
        obtain ⟨e1, e2, e3, e4, e5, e6, e7, e8⟩ := c4 j hj
        by_cases hjn : j = v
        · subst hjn
          simp [upd]
          exact ⟨e1, e2, e3, e5, e6, ⟨w, w1, rfl⟩, e8⟩
        · simp [upd, hjn]
          exact ⟨e1, e2, e3, e4, e5, e6, e7, e8⟩
      · simpa [va_up, upd] using r5
      · simpa [va_up, upd] using r6
      · simpa [va_up, upd] using r7
      · simpa [va_up, upd] using rr
      · simp [va_up, upd]
      · simp [va_up, upd]
      · simp [va_up, upd]
      · dsimp only; repeat rw [up_k k1 k2 (by decide)]
    · exfalso
      simp [va_up] at h2
      omega
  · rw [ht]
    refine ⟨_, rfl, (m_goal _ a1 a2 (by omega)).use (by decide) (fun r' τ' h' => ?_)⟩
    rcases h' with ⟨h2, rfl, ht'⟩ | ⟨h2, rfl, ht'⟩
    · exfalso
      omega
    · rw [ht']
      exact ⟨rfl, Inv_told hI0⟩
theorem p_end (a1 : Int32) : Pair Inv 136 176 [.int a1] := by
  intro σ hI
  have hI0 := hI
  obtain ⟨⟨ns, np, nd, nl, nw, sun, r1, r2, r3, r4, r5, r6, r7⟩, ⟨t, rr⟩, ri⟩ := hI
  have t1 : (σ.1 67 2).toInt = t := by rw [rr.2.2.1]; exact nI_toInt (by have := rr.2.2.2.2.1; omega)
  have t2 : (σ.1 93 30).toInt = t := by rw [rr.2.2.2.1]; exact nI_toInt (by have := rr.2.2.2.2.1; omega)
  have t3 := rr.2.2.2.2.1

  refine (x_end σ a1 (by omega)).use (by decide) (fun r τ h => ?_)
  rcases h with ⟨h1, rfl, ht⟩ | ⟨h1, rfl, ht⟩
  · rw [ht]
    refine ⟨_, rfl, (m_end _ a1 (by simp [va_up]; omega)).use (by decide) (fun r' τ' h' => ?_)⟩
    rcases h' with ⟨h2, rfl, ht'⟩ | ⟨h2, rfl, ht'⟩
    · rw [ht']
      refine ⟨rfl, ⟨⟨ns, np, nd, nl, nw, sun, ?_, ?_, ?_, ?_, ?_, ?_, ?_⟩, ⟨a1.toNatClampNeg, ?_⟩, ri_of ri ?_ ?_ ?_ (fun c k1 k2 => ?_)⟩⟩
      · simpa [va_up, upd] using r1
      · simpa [va_up, upd] using r2
      · simpa [va_up, upd] using r3
      · simpa [va_up, upd] using r4
      · simpa [va_up, upd] using r5
      · simpa [va_up, upd] using r6
      · simpa [va_up, upd] using r7
      · simp [va_up, upd]
        obtain ⟨c1, c2, c3, c4, c5, c6, c7⟩ := rr
        obtain ⟨v, v1, rfl⟩ := nI_rng (n := t + 1) h1.1 (by omega) (by omega)
        rw [tn_n (by omega)]
        exact ⟨c1, c2, rfl, rfl, by omega, fun j hj => c6 j (by omega), c7⟩
      · simp [va_up, upd]
      · simp [va_up, upd]
      · simp [va_up, upd]
      · dsimp only; repeat rw [up_k k1 k2 (by decide)]
    · exfalso
      simp [va_up] at h2
      omega
  · rw [ht]
    refine ⟨_, rfl, (m_end _ a1 (by omega)).use (by decide) (fun r' τ' h' => ?_)⟩
    rcases h' with ⟨h2, rfl, ht'⟩ | ⟨h2, rfl, ht'⟩
    · exfalso
      omega
    · rw [ht']
      exact ⟨rfl, Inv_told hI0⟩
theorem p_person (a1 a2 a3 : Int32) : Pair Inv 131 168 [.int a1, .int a2, .int a3] := by
  intro σ hI
  have hI0 := hI
  obtain ⟨⟨ns, np, nd, nl, nw, sun, r1, r2, r3, r4, r5, r6, r7⟩, ⟨t, rr⟩, ri⟩ := hI
  have s1 : (σ.1 3 0).toInt = ns := by rw [r3.1]; exact nI_toInt (by have := r3.2.2.1; omega)
  have s2 : (σ.1 93 2).toInt = ns := by rw [r3.2.1]; exact nI_toInt (by have := r3.2.2.1; omega)
  have s3 := r3.2.2.1
  have p1 : (σ.1 7 0).toInt = np := by rw [r4.1]; exact nI_toInt (by have := r4.2.2.1; omega)
  have p2 : (σ.1 93 5).toInt = np := by rw [r4.2.1]; exact nI_toInt (by have := r4.2.2.1; omega)
  have p3 := r4.2.2.1

  refine (x_person σ a1 a2 a3 (by omega)).use (by decide) (fun r τ h => ?_)
  rcases h with ⟨h1, rfl, ht⟩ | ⟨h1, rfl, ht⟩
  · rw [ht]
    refine ⟨_, rfl, (m_person _ a1 a2 a3 (by simp [va_up]; omega)).use (by decide) (fun r' τ' h' => ?_)⟩
    rcases h' with ⟨h2, rfl, ht'⟩ | ⟨h2, rfl, ht'⟩
    · rw [ht']
      refine ⟨by simp [va_up, r4.1, r4.2.1], ⟨⟨ns, np + 1, nd, nl, nw, sun, ?_, ?_, ?_, ?_, ?_, ?_, ?_⟩, ⟨t, ?_⟩, ri_of ri ?_ ?_ ?_ (fun c k1 k2 => ?_)⟩⟩
      · simpa [va_up, upd] using r1
      · simpa [va_up, upd] using r2
      · simpa [va_up, upd] using r3
      · simp [va_up, upd]
        obtain ⟨c1, c2, c3, c4, c5⟩ := r4
        obtain ⟨w, w1, rfl⟩ := nI_rng (n := ns) h1.1 (by omega) (by omega)
        rw [c1, c2, tn_n (by omega)]
        refine ⟨nI_1 np, nI_1 np, by omega, fun j hj => ?_, fun j j1 j2 => c5 j j1 (by omega)⟩
        by_cases hjn : j = np
        · subst hjn
          have e := c5 j (by omega) (Nat.le_refl _)
          simp [upd]
          exact ⟨by rw [e]; decide, ⟨w, w1, rfl⟩, ⟨0, by omega, e⟩⟩
        · simp [upd, hjn]
          exact c4 j (by omega)
      · have h5 := Rdebts_mono r5 (Nat.le_refl _) (Nat.le_succ np) (Nat.le_refl _)
        simpa [va_up, upd] using h5
      · have h5 := Rlines_mono r6 (Nat.le_refl _) (Nat.le_succ np)
        simpa [va_up, upd] using h5
      · simpa [va_up, upd] using r7
      · simpa [va_up, upd] using rr
      · simp [va_up, upd]
      · simp [va_up, upd]
      · simp [va_up, upd]
      · dsimp only; repeat rw [up_k k1 k2 (by decide)]
    · exfalso
      simp [va_up] at h2
      omega
  · rw [ht]
    refine ⟨_, rfl, (m_person _ a1 a2 a3 (by omega)).use (by decide) (fun r' τ' h' => ?_)⟩
    rcases h' with ⟨h2, rfl, ht'⟩ | ⟨h2, rfl, ht'⟩
    · exfalso
      omega
    · rw [ht']
      exact ⟨rfl, Inv_told hI0⟩
theorem p_debt (a1 a2 a3 a4 : Int32) : Pair Inv 132 169 [.int a1, .int a2, .int a3, .int a4] := by
  intro σ hI
  have hI0 := hI
  obtain ⟨⟨ns, np, nd, nl, nw, sun, r1, r2, r3, r4, r5, r6, r7⟩, ⟨t, rr⟩, ri⟩ := hI
  have s1 : (σ.1 3 0).toInt = ns := by rw [r3.1]; exact nI_toInt (by have := r3.2.2.1; omega)
  have s2 : (σ.1 93 2).toInt = ns := by rw [r3.2.1]; exact nI_toInt (by have := r3.2.2.1; omega)
  have s3 := r3.2.2.1
  have p1 : (σ.1 7 0).toInt = np := by rw [r4.1]; exact nI_toInt (by have := r4.2.2.1; omega)
  have p2 : (σ.1 93 5).toInt = np := by rw [r4.2.1]; exact nI_toInt (by have := r4.2.2.1; omega)
  have p3 := r4.2.2.1
  have d1 : (σ.1 13 0).toInt = nd := by rw [r5.1]; exact nI_toInt (by have := r5.2.2.1; omega)
  have d2 : (σ.1 93 11).toInt = nd := by rw [r5.2.1]; exact nI_toInt (by have := r5.2.2.1; omega)
  have d3 := r5.2.2.1

  refine (x_debt σ a1 a2 a3 a4 (by omega)).use (by decide) (fun r τ h => ?_)
  rcases h with ⟨h1, rfl, ht⟩ | ⟨h1, rfl, ht⟩
  · rw [ht]
    refine ⟨_, rfl, (m_debt _ a1 a2 a3 a4 (by simp [va_up]; omega)).use (by decide) (fun r' τ' h' => ?_)⟩
    rcases h' with ⟨h2, rfl, ht'⟩ | ⟨h2, rfl, ht'⟩
    · rw [ht']
      refine ⟨by simp [va_up, r5.1, r5.2.1], ⟨⟨ns, np, nd + 1, nl, nw, sun, ?_, ?_, ?_, ?_, ?_, ?_, ?_⟩, ⟨t, ?_⟩, ri_of ri ?_ ?_ ?_ (fun c k1 k2 => ?_)⟩⟩
      · simpa [va_up, upd] using r1
      · simpa [va_up, upd] using r2
      · simpa [va_up, upd] using r3
      · simpa [va_up, upd] using r4
      · simp [va_up, upd]
        obtain ⟨c1, c2, c3, c4⟩ := r5
        obtain ⟨w, w1, rfl⟩ := nI_rng (n := np) h1.1 (by omega) (by omega)
        obtain ⟨u, u1, rfl⟩ := nI_rng (n := np) h1.2.2.1 (by omega) (by omega)
        obtain ⟨k, k1, rfl⟩ := nI_rng (n := 10000) (a := a3) (by omega) (by omega) (by omega)
        obtain ⟨l, l1, rfl⟩ := nI_rng (n := ns) (a := a4) (by omega) (by omega) (by omega)
        rw [c1, c2, tn_n (by omega)]
        refine ⟨nI_1 nd, nI_1 nd, by omega, fun j hj => ?_⟩
        by_cases hjn : j = nd
        · subst hjn
          simp [upd]
          refine ⟨by rw [r1.2.1, r1.2.2.1], ⟨w, w1, rfl⟩, ⟨u, u1, rfl⟩, fun e => ?_, ⟨k, by omega, rfl⟩, ⟨l, l1, rfl⟩, ⟨sun, Nat.le_refl _, r1.2.1⟩, ⟨0, by omega, rfl⟩⟩
          exact h1.2.2.2.2.1 (by rw [e])
        · simp [upd, hjn]
          exact c4 j (by omega)
      · simpa [va_up, upd] using r6
      · simpa [va_up, upd] using r7
      · simpa [va_up, upd] using rr
      · simp [va_up, upd]
      · simp [va_up, upd]
      · simp [va_up, upd]
      · dsimp only; repeat rw [up_k k1 k2 (by decide)]
    · exfalso
      simp [va_up] at h2
      omega
  · rw [ht]
    refine ⟨_, rfl, (m_debt _ a1 a2 a3 a4 (by omega)).use (by decide) (fun r' τ' h' => ?_)⟩
    rcases h' with ⟨h2, rfl, ht'⟩ | ⟨h2, rfl, ht'⟩
    · exfalso
      omega
    · rw [ht']
      exact ⟨rfl, Inv_told hI0⟩
