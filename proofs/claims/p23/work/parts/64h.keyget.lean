/-! a key, read -/
theorem KE.g {K : KY} {σ : pm_S} (h : KE K σ) {q : Nat × Nat × Nat × Nat} (hq : q ∈ K) : (σ.1 q.1 q.2.1).toInt = (σ.1 q.2.2.1 q.2.2.2).toInt := congrArg Int32.toInt (h q hq)
