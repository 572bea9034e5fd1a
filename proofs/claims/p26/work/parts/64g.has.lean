/-! exact contracts of has -/
set_option maxRecDepth 20000 in
theorem x_h82 {σ : pm_S} (v S : Int) (hB : an_GB pm_B σ) (hv : (-2147483648) ≤ v ∧ v ≤ 2147483647) (hS : (σ.1 3 0).toInt = S) : Sp 82 2 [.ref 3, .int (Int32.ofInt v)] σ (fun r τ => an_GB pm_B τ ∧ FQ [] σ τ ∧ ((¬ (0 ≤ v ∧ v < S) ∧ r = some (.int (Int32.ofInt 0)) ∧ True) ∨ ((0 ≤ v ∧ v < S) ∧ r = some (.int (Int32.ofInt 1)) ∧ True))) := by
  subst hS
  refine Sp.at rfl rfl ?_
  refine O_Spots_has [1] 400 (fun R cl Z hR hcl hZ => ?_)
  conv => whnf
  refine hR _ _ _ _ ?_
  refine Ok.if1 rfl rfl (fun q => ?_) (fun q => ?_)
  · have q0 : v < 0 := by
      have q' : Int32.ofInt v < 0 := q
      rw [Int32.lt_iff_toInt_lt, ti_of (by omega) (by omega)] at q'
      exact q'
    refine O_Spots_has [] 400 (fun R cl Z hR hcl hZ => ?_)
    conv => whnf
    exact ⟨fun _ => hZ _ _ ⟨hB, FQ.rf _ _, Or.inl ⟨by omega, congrArg (fun w => some (Value.int w)) o0, trivial⟩⟩, fun z => absurd (by decide) z⟩
  · have q0 : 0 ≤ v := by
      have q' : ¬ (Int32.ofInt v < 0) := q
      rw [Int32.lt_iff_toInt_lt, ti_of (by omega) (by omega)] at q'
      have e0 : (0 : Int32).toInt = 0 := rfl
      omega
    refine O_Spots_has [5] 400 (fun R cl Z hR hcl hZ => ?_)
    conv => whnf
    refine hR _ _ _ _ ?_
    have eo : (Int32.ofInt (σ.1 3 0).toInt).toInt = (σ.1 3 0).toInt := by rw [oI]
    rw [← oI (σ.1 3 0)]
    refine Ok.ic rfl rfl (by omega) (by omega) (ai_rng _).1 (ai_rng _).2 (fun q2 => ?_) (fun q2 => ?_)
    · have q2 : (σ.1 3 0).toInt ≤ v := q2
      refine O_Spots_has [] 400 (fun R cl Z hR hcl hZ => ?_)
      conv => whnf
      exact ⟨fun _ => hZ _ _ ⟨hB, FQ.rf _ _, Or.inl ⟨by omega, congrArg (fun w => some (Value.int w)) o0, trivial⟩⟩, fun z => absurd (by decide) z⟩
    · have q2 : v < (σ.1 3 0).toInt := q2
      refine O_Spots_has [] 400 (fun R cl Z hR hcl hZ => ?_)
      conv => whnf
      exact ⟨fun _ => hZ _ _ ⟨hB, FQ.rf _ _, Or.inr ⟨⟨q0, by omega⟩, congrArg (fun w => some (Value.int w)) o1, trivial⟩⟩, fun z => absurd (by decide) z⟩
set_option maxRecDepth 20000 in
theorem x_h61 {σ : pm_S} (v S : Int) (hB : an_GB pm_B σ) (hv : (-2147483648) ≤ v ∧ v ≤ 2147483647) (hS : (σ.1 7 0).toInt = S) : Sp 61 2 [.ref 7, .int (Int32.ofInt v)] σ (fun r τ => an_GB pm_B τ ∧ FQ [] σ τ ∧ ((¬ (0 ≤ v ∧ v < S) ∧ r = some (.int (Int32.ofInt 0)) ∧ True) ∨ ((0 ≤ v ∧ v < S) ∧ r = some (.int (Int32.ofInt 1)) ∧ True))) := by
  subst hS
  refine Sp.at rfl rfl ?_
  refine O_People_has [1] 400 (fun R cl Z hR hcl hZ => ?_)
  conv => whnf
  refine hR _ _ _ _ ?_
  refine Ok.if1 rfl rfl (fun q => ?_) (fun q => ?_)
  · have q0 : v < 0 := by
      have q' : Int32.ofInt v < 0 := q
      rw [Int32.lt_iff_toInt_lt, ti_of (by omega) (by omega)] at q'
      exact q'
    refine O_People_has [] 400 (fun R cl Z hR hcl hZ => ?_)
    conv => whnf
    exact ⟨fun _ => hZ _ _ ⟨hB, FQ.rf _ _, Or.inl ⟨by omega, congrArg (fun w => some (Value.int w)) o0, trivial⟩⟩, fun z => absurd (by decide) z⟩
  · have q0 : 0 ≤ v := by
      have q' : ¬ (Int32.ofInt v < 0) := q
      rw [Int32.lt_iff_toInt_lt, ti_of (by omega) (by omega)] at q'
      have e0 : (0 : Int32).toInt = 0 := rfl
      omega
    refine O_People_has [5] 400 (fun R cl Z hR hcl hZ => ?_)
    conv => whnf
    refine hR _ _ _ _ ?_
    have eo : (Int32.ofInt (σ.1 7 0).toInt).toInt = (σ.1 7 0).toInt := by rw [oI]
    rw [← oI (σ.1 7 0)]
    refine Ok.ic rfl rfl (by omega) (by omega) (ai_rng _).1 (ai_rng _).2 (fun q2 => ?_) (fun q2 => ?_)
    · have q2 : (σ.1 7 0).toInt ≤ v := q2
      refine O_People_has [] 400 (fun R cl Z hR hcl hZ => ?_)
      conv => whnf
      exact ⟨fun _ => hZ _ _ ⟨hB, FQ.rf _ _, Or.inl ⟨by omega, congrArg (fun w => some (Value.int w)) o0, trivial⟩⟩, fun z => absurd (by decide) z⟩
    · have q2 : v < (σ.1 7 0).toInt := q2
      refine O_People_has [] 400 (fun R cl Z hR hcl hZ => ?_)
      conv => whnf
      exact ⟨fun _ => hZ _ _ ⟨hB, FQ.rf _ _, Or.inr ⟨⟨q0, by omega⟩, congrArg (fun w => some (Value.int w)) o1, trivial⟩⟩, fun z => absurd (by decide) z⟩
set_option maxRecDepth 20000 in
theorem x_h163 {σ : pm_S} (v S : Int) (hB : an_GB pm_B σ) (hv : (-2147483648) ≤ v ∧ v ≤ 2147483647) (hS : (σ.1 93 2).toInt = S) : Sp 163 2 [.ref 93, .int (Int32.ofInt v)] σ (fun r τ => an_GB pm_B τ ∧ FQ [] σ τ ∧ ((¬ (0 ≤ v ∧ v < S) ∧ r = some (.int (Int32.ofInt 0)) ∧ True) ∨ ((0 ≤ v ∧ v < S) ∧ r = some (.int (Int32.ofInt 1)) ∧ True))) := by
  subst hS
  refine Sp.at rfl rfl ?_
  refine O_Model_isSpot [1] 400 (fun R cl Z hR hcl hZ => ?_)
  conv => whnf
  refine hR _ _ _ _ ?_
  refine Ok.if1 rfl rfl (fun q => ?_) (fun q => ?_)
  · have q0 : v < 0 := by
      have q' : Int32.ofInt v < 0 := q
      rw [Int32.lt_iff_toInt_lt, ti_of (by omega) (by omega)] at q'
      exact q'
    refine O_Model_isSpot [] 400 (fun R cl Z hR hcl hZ => ?_)
    conv => whnf
    exact ⟨fun _ => hZ _ _ ⟨hB, FQ.rf _ _, Or.inl ⟨by omega, congrArg (fun w => some (Value.int w)) o0, trivial⟩⟩, fun z => absurd (by decide) z⟩
  · have q0 : 0 ≤ v := by
      have q' : ¬ (Int32.ofInt v < 0) := q
      rw [Int32.lt_iff_toInt_lt, ti_of (by omega) (by omega)] at q'
      have e0 : (0 : Int32).toInt = 0 := rfl
      omega
    refine O_Model_isSpot [5] 400 (fun R cl Z hR hcl hZ => ?_)
    conv => whnf
    refine hR _ _ _ _ ?_
    have eo : (Int32.ofInt (σ.1 93 2).toInt).toInt = (σ.1 93 2).toInt := by rw [oI]
    rw [← oI (σ.1 93 2)]
    refine Ok.ic rfl rfl (by omega) (by omega) (ai_rng _).1 (ai_rng _).2 (fun q2 => ?_) (fun q2 => ?_)
    · have q2 : (σ.1 93 2).toInt ≤ v := q2
      refine O_Model_isSpot [] 400 (fun R cl Z hR hcl hZ => ?_)
      conv => whnf
      exact ⟨fun _ => hZ _ _ ⟨hB, FQ.rf _ _, Or.inl ⟨by omega, congrArg (fun w => some (Value.int w)) o0, trivial⟩⟩, fun z => absurd (by decide) z⟩
    · have q2 : v < (σ.1 93 2).toInt := q2
      refine O_Model_isSpot [] 400 (fun R cl Z hR hcl hZ => ?_)
      conv => whnf
      exact ⟨fun _ => hZ _ _ ⟨hB, FQ.rf _ _, Or.inr ⟨⟨q0, by omega⟩, congrArg (fun w => some (Value.int w)) o1, trivial⟩⟩, fun z => absurd (by decide) z⟩
set_option maxRecDepth 20000 in
theorem x_h164 {σ : pm_S} (v S : Int) (hB : an_GB pm_B σ) (hv : (-2147483648) ≤ v ∧ v ≤ 2147483647) (hS : (σ.1 93 5).toInt = S) : Sp 164 2 [.ref 93, .int (Int32.ofInt v)] σ (fun r τ => an_GB pm_B τ ∧ FQ [] σ τ ∧ ((¬ (0 ≤ v ∧ v < S) ∧ r = some (.int (Int32.ofInt 0)) ∧ True) ∨ ((0 ≤ v ∧ v < S) ∧ r = some (.int (Int32.ofInt 1)) ∧ True))) := by
  subst hS
  refine Sp.at rfl rfl ?_
  refine O_Model_isOne [1] 400 (fun R cl Z hR hcl hZ => ?_)
  conv => whnf
  refine hR _ _ _ _ ?_
  refine Ok.if1 rfl rfl (fun q => ?_) (fun q => ?_)
  · have q0 : v < 0 := by
      have q' : Int32.ofInt v < 0 := q
      rw [Int32.lt_iff_toInt_lt, ti_of (by omega) (by omega)] at q'
      exact q'
    refine O_Model_isOne [] 400 (fun R cl Z hR hcl hZ => ?_)
    conv => whnf
    exact ⟨fun _ => hZ _ _ ⟨hB, FQ.rf _ _, Or.inl ⟨by omega, congrArg (fun w => some (Value.int w)) o0, trivial⟩⟩, fun z => absurd (by decide) z⟩
  · have q0 : 0 ≤ v := by
      have q' : ¬ (Int32.ofInt v < 0) := q
      rw [Int32.lt_iff_toInt_lt, ti_of (by omega) (by omega)] at q'
      have e0 : (0 : Int32).toInt = 0 := rfl
      omega
    refine O_Model_isOne [5] 400 (fun R cl Z hR hcl hZ => ?_)
    conv => whnf
    refine hR _ _ _ _ ?_
    have eo : (Int32.ofInt (σ.1 93 5).toInt).toInt = (σ.1 93 5).toInt := by rw [oI]
    rw [← oI (σ.1 93 5)]
    refine Ok.ic rfl rfl (by omega) (by omega) (ai_rng _).1 (ai_rng _).2 (fun q2 => ?_) (fun q2 => ?_)
    · have q2 : (σ.1 93 5).toInt ≤ v := q2
      refine O_Model_isOne [] 400 (fun R cl Z hR hcl hZ => ?_)
      conv => whnf
      exact ⟨fun _ => hZ _ _ ⟨hB, FQ.rf _ _, Or.inl ⟨by omega, congrArg (fun w => some (Value.int w)) o0, trivial⟩⟩, fun z => absurd (by decide) z⟩
    · have q2 : v < (σ.1 93 5).toInt := q2
      refine O_Model_isOne [] 400 (fun R cl Z hR hcl hZ => ?_)
      conv => whnf
      exact ⟨fun _ => hZ _ _ ⟨hB, FQ.rf _ _, Or.inr ⟨⟨q0, by omega⟩, congrArg (fun w => some (Value.int w)) o1, trivial⟩⟩, fun z => absurd (by decide) z⟩
