/-! counts of bits: the library's and the model's, for numbers below 1024 -/
def pc_j (i : Int32) : Int32 :=
  let a := i - (pm_ush i (pm_iv 1 0) &&& nI 1431655765)
  let b := (a &&& nI 858993459) + (pm_ush a (pm_iv 2 0) &&& nI 858993459)
  let c := (b + pm_ush b (pm_iv 4 0)) &&& nI 252645135
  let d := c + pm_ush c (pm_iv 8 0)
  let e := d + pm_ush d (pm_iv 16 0)
  e &&& pm_iv 63 0
theorem pc_j_ok : ∀ n, n < 1024 → pc_j (nI n) = nI (pc_N n) := by decide +kernel
theorem pu_bitCount (σ : pm_S) {n : Nat} (hn : n < 1024) : Sp 255 1 [.int (nI n)] σ (fun r τ => τ = σ ∧ r = some (.int (nI (pc_N n)))) := by
  refine S_Integer_bitCount [] 60 rfl (fun R cl Z hR hcl hZ => ?_)
  conv => whnf
  refine hZ _ _ ⟨rfl, ?_⟩
  rw [← pc_j_ok n hn]
  rfl
theorem pc_step : ∀ v, v < 1024 → 1 ≤ v → (nI v &&& (nI v - nI 1)) = nI (v &&& (v - 1)) ∧ v &&& (v - 1) < 1024 ∧ pc_N (v &&& (v - 1)) + 1 = pc_N v := by decide +kernel
theorem pc_pos : ∀ v, v < 1024 → pc_N v = 0 → v = 0 := by decide +kernel
theorem pu_ones_l (σ : pm_S) (s : Int32) : ∀ (m v c : Nat), v < 1024 → pc_N v = m → Ok 160 1 4 [.ref 93, .int s, .int (nI c), .int (nI v)] [] σ (fun r τ => τ = σ ∧ r = some (.int (nI (c + m)))) := by
  intro m
  induction m with
  | zero =>
    intro v c hv hm
    have := pc_pos v hv hm
    subst this
    refine O_Model_ones [4] 30 (fun R cl Z hR hcl hZ => ?_)
    conv => whnf
    refine ⟨fun _ => ?_, fun q => absurd (show pm_cc .eq (nI 0) 0 from rfl) q⟩
    conv => whnf
    exact hZ _ _ ⟨rfl, rfl⟩
  | succ m ih =>
    intro v c hv hm
    have h1 : 1 ≤ v := by
      rcases Nat.eq_zero_or_pos v with q | q
      · rw [q] at hm
        have : pc_N 0 = 0 := by decide
        omega
      · exact q
    obtain ⟨k1, k2, k3⟩ := pc_step v hv h1
    refine O_Model_ones [4] 30 (fun R cl Z hR hcl hZ => ?_)
    conv => whnf
    refine ⟨fun q => ?_, fun _ => ?_⟩
    · have q1 : nI v = 0 := q
      have q2 : (nI v).toInt = 0 := by rw [q1]; rfl
      rw [nI_toInt (by omega)] at q2
      omega
    · conv => whnf
      refine hR _ _ _ _ ?_
      have e1 : nI c + nI 1 = nI (c + 1) := nI_add c 1
      show Ok 160 1 4 [.ref 93, .int s, .int (nI c + nI 1), .int (nI v &&& (nI v - nI 1))] [] σ _
      rw [e1, k1, show c + (m + 1) = (c + 1) + m by omega]
      exact ih _ _ k2 (by omega)
theorem pu_ones (σ : pm_S) {n : Nat} (hn : n < 1024) : Sp 160 1 [.ref 93, .int (nI n)] σ (fun r τ => τ = σ ∧ r = some (.int (nI (pc_N n)))) := by
  refine S_Model_ones [4] 30 rfl (fun R cl Z hR hcl hZ => ?_)
  conv => whnf
  refine hR _ _ _ _ ?_
  have := pu_ones_l σ (nI n) (pc_N n) n 0 hn rfl
  rw [show 0 + pc_N n = pc_N n by omega] at this
  exact this
