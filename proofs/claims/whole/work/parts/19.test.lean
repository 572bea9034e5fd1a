theorem t_isIn (σ : pm_S) (v lo hi : Int32) : Sp 159 1 [.ref 93, .int v, .int lo, .int hi] σ (fun r τ => τ = σ ∧ r = some (.int (if lo ≤ v ∧ v ≤ hi then 1 else 0))) := by
  refine S_Model_isIn [] 12 rfl (fun R cl Z hR hcl hZ => ?_)
  conv => whnf
  refine ⟨fun h1 => ?_, fun h1 => ?_⟩
  · conv => whnf
    sorry
  · conv => whnf
    sorry
theorem t_isOpen (σ : pm_S) (d : Int32) : Sp 3 1 [.ref 13, .int d] σ (fun r τ => τ = σ) := by
  refine S_Debts_isOpen [] 20 rfl (fun R cl Z hR hcl hZ => ?_)
  conv => whnf
  refine ⟨fun h1 => ?_, fun h1 => ?_⟩
  · conv => whnf
    sorry
  · conv => whnf
    refine ⟨fun h1 => ?_, fun h1 => ?_⟩
    · conv => whnf
      sorry
    · conv => whnf
      refine ⟨fun h1 => ?_, fun h1 => ?_⟩
      · conv => whnf
        exact 5
      · conv => whnf
        exact 5
