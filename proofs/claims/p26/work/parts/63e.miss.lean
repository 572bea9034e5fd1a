/-! findsMissed -/
abbrev qMi (σ0 : pm_S) (n : Nat) : Option Value → pm_S → Prop := fun r τ => r = none ∧ τ.1 = σ0.1 ∧ mI τ n 0 (cI σ0 2)
def mIC (σ : pm_S) (n h a : Nat) (S : Int) : Prop := mI σ n (h + 1) S ∧ ∀ b : Nat, b < a → 0 ≤ (σ.2 130 (10 * h + b)).toInt ∧ (σ.2 130 (10 * h + b)).toInt ≤ hu (n - h)
theorem upL (f : Nat → Nat → Int64) (j : Nat) (v : Int64) (i : Nat) : (va_up f 130 (vp_updL (f 130) j v)) 130 i = if i = j then v else f 130 i := by
  show (if 130 = 130 then vp_updL (f 130) j v else f 130) i = _
  rw [if_pos rfl]
  rfl
section MISS
variable {σ0 : pm_S} {n : Nat}
set_option maxRecDepth 20000 in
/-- walks that make it less -/
theorem mi_36 (hB0 : an_GB pm_B σ0) (hn : n ≤ 8) {h a : Nat} (hh : h + 1 ≤ n) (ha : (a : Int) < cI σ0 2)
    (hend : ∀ (τ : pm_S) (w : Int64) (v z : Value), τ.1 = σ0.1 → mIC τ n h a (cI σ0 2) → 0 ≤ w.toInt ∧ w.toInt ≤ hu (n - h) → Ok 235 6 61 [.ref 93, .int (Int32.ofInt (n : Int)), .int (Int32.ofInt (h : Int)), .int (Int32.ofInt (a : Int)), .long w, v, z] [] τ (qMi σ0 n)) :
    ∀ (N b : Nat) (τ : pm_S) (w : Int64), (b : Int) + N = cI σ0 2 → τ.1 = σ0.1 → mIC τ n h a (cI σ0 2) → 0 ≤ w.toInt ∧ w.toInt ≤ hu (n - h) → Ok 235 6 36 [.ref 93, .int (Int32.ofInt (n : Int)), .int (Int32.ofInt (h : Int)), .int (Int32.ofInt (a : Int)), .long w, pm_un, .int (Int32.ofInt (b : Int))] [] τ (qMi σ0 n) := by
  have gS : 0 ≤ cI σ0 2 ∧ cI σ0 2 ≤ 10 := hB0 93 2 (by decide)
  intro N
  induction N with
  | zero =>
    intro b τ w hN E hI hw
    have e2 : cI τ 2 = cI σ0 2 := by show (τ.1 93 2).toInt = _; rw [E]
    refine O_Model_findsMissed [39] 400 (fun R cl Z hR hcl hZ => ?_)
    conv => whnf
    refine hR _ _ _ _ ?_
    rw [← oI (τ.1 93 2)]
    refine Ok.ic rfl rfl (by omega) (by omega) (ai_rng _).1 (ai_rng _).2 (fun q => ?_) (fun q => ?_)
    · exact hend τ w pm_un _ E hI hw
    · exfalso
      have q : (b : Int) < cI τ 2 := q
      omega
  | succ N ih =>
    intro b τ w hN E hI hw
    have e2 : cI τ 2 = cI σ0 2 := by show (τ.1 93 2).toInt = _; rw [E]
    have hB : an_GB pm_B τ := fun p j hj => by rw [E]; exact hB0 p j hj
    have at59 : ∀ w : Int64, 0 ≤ w.toInt ∧ w.toInt ≤ hu (n - h) → Ok 235 6 59 [.ref 93, .int (Int32.ofInt (n : Int)), .int (Int32.ofInt (h : Int)), .int (Int32.ofInt (a : Int)), .long w, pm_un, .int (Int32.ofInt (b : Int))] [] τ (qMi σ0 n) := by
      intro w hw
      refine O_Model_findsMissed [36] 400 (fun R cl Z hR hcl hZ => ?_)
      conv => whnf
      refine hR _ _ _ _ ?_
      have fin := ih (b + 1) τ w (by omega) E hI hw
      rw [show ((b + 1 : Nat) : Int) = (b : Int) + 1 by omega, ← oa] at fin
      exact fin
    refine O_Model_findsMissed [39] 400 (fun R cl Z hR hcl hZ => ?_)
    conv => whnf
    refine hR _ _ _ _ ?_
    rw [← oI (τ.1 93 2)]
    refine Ok.ic rfl rfl (by omega) (by omega) (ai_rng _).1 (ai_rng _).2 (fun q => ?_) (fun q => ?_)
    · exfalso
      have q : cI τ 2 ≤ (b : Int) := q
      omega
    · have q : (b : Int) < cI τ 2 := q
      refine O_Model_findsMissed [42] 400 (fun R cl Z hR hcl hZ => ?_)
      conv => whnf
      refine hR _ _ _ _ ?_
      refine Ok.ic rfl rfl (by omega) (by omega) (by omega) (by omega) (fun q2 => ?_) (fun q2 => ?_)
      · exact at59 w hw
      · refine O_Model_findsMissed [48] 400 (fun R cl Z hR hcl hZ => ?_)
        conv => whnf
        refine hR _ _ _ _ ?_
        refine Ok.cv rfl rfl rfl rfl rfl rfl rfl ?_
        refine (m_walk hB hn hh ha (by omega) gS.2 hI.1).use (by decide) (fun r2 τ2 q3 => ?_)
        obtain ⟨rfl, w2, rfl, hw2⟩ := q3
        refine O_Model_findsMissed [51] 400 (fun R cl Z hR hcl hZ => ?_)
        conv => whnf
        refine hR _ _ _ _ ?_
        refine Ok.if1 rfl rfl (fun q4 => ?_) (fun q4 => ?_)
        · exact at59 w hw
        · refine O_Model_findsMissed [57] 400 (fun R cl Z hR hcl hZ => ?_)
          conv => whnf
          refine hR _ _ _ _ ?_
          refine Ok.cv rfl rfl rfl rfl rfl rfl rfl ?_
          refine (m_walk hB hn hh ha (by omega) gS.2 hI.1).use (by decide) (fun r5 τ5 q5 => ?_)
          obtain ⟨rfl, w5, rfl, hw5⟩ := q5
          have lt : w2 < w := by
            have q4' : ¬ (0 ≤ lg_cmp w2 w) := q4
            rw [lg_cmp_ge] at q4'
            exact Int64.not_le.mp q4'
          have lt' : w2.toInt < w.toInt := Int64.lt_iff_toInt_lt.mp lt
          have b5 : 0 ≤ w5.toInt ∧ w5.toInt ≤ hu (n - h) := by
            rcases hw5 with z | z
            · exfalso
              rcases hw2 with z2 | z2 <;> omega
            · exact z.2
          refine O_Model_findsMissed [59] 400 (fun R cl Z hR hcl hZ => ?_)
          conv => whnf
          refine hR _ _ _ _ ?_
          exact at59 w5 b5
set_option maxRecDepth 20000 in
/-- one hour, spot by spot -/
theorem mi_25 (hB0 : an_GB pm_B σ0) (hn : n ≤ 8) {h : Nat} (hh : h + 1 ≤ n)
    (hend : ∀ (τ : pm_S) (v4 v5 v6 : Value), τ.1 = σ0.1 → mI τ n h (cI σ0 2) → ∀ va : Value, va.category = 1 → Ok 235 6 72 [.ref 93, .int (Int32.ofInt (n : Int)), .int (Int32.ofInt (h : Int)), va, v4, v5, v6] [] τ (qMi σ0 n)) :
    ∀ (N a : Nat) (τ : pm_S) (v4 v5 v6 : Value), (a : Int) + N = cI σ0 2 → τ.1 = σ0.1 → mIC τ n h a (cI σ0 2) → Ok 235 6 25 [.ref 93, .int (Int32.ofInt (n : Int)), .int (Int32.ofInt (h : Int)), .int (Int32.ofInt (a : Int)), v4, v5, v6] [] τ (qMi σ0 n) := by
  have gS : 0 ≤ cI σ0 2 ∧ cI σ0 2 ≤ 10 := hB0 93 2 (by decide)
  intro N
  induction N with
  | zero =>
    intro a τ v4 v5 v6 hN E hI
    have e2 : cI τ 2 = cI σ0 2 := by show (τ.1 93 2).toInt = _; rw [E]
    refine O_Model_findsMissed [28] 400 (fun R cl Z hR hcl hZ => ?_)
    conv => whnf
    refine hR _ _ _ _ ?_
    rw [← oI (τ.1 93 2)]
    refine Ok.ic rfl rfl (by omega) (by omega) (ai_rng _).1 (ai_rng _).2 (fun q => ?_) (fun q => ?_)
    · refine hend τ v4 v5 v6 E (fun h' b h1 h2 h3 => ?_) _ rfl
      by_cases e : h' = h
      · rw [e]; exact hI.2 b (by omega)
      · exact hI.1 h' b (by omega) h2 h3
    · exfalso
      have q : (a : Int) < cI τ 2 := q
      omega
  | succ N ih =>
    intro a τ v4 v5 v6 hN E hI
    have e2 : cI τ 2 = cI σ0 2 := by show (τ.1 93 2).toInt = _; rw [E]
    have hB : an_GB pm_B τ := fun p j hj => by rw [E]; exact hB0 p j hj
    refine O_Model_findsMissed [28] 400 (fun R cl Z hR hcl hZ => ?_)
    conv => whnf
    refine hR _ _ _ _ ?_
    rw [← oI (τ.1 93 2)]
    refine Ok.ic rfl rfl (by omega) (by omega) (ai_rng _).1 (ai_rng _).2 (fun q => ?_) (fun q => ?_)
    · exfalso
      have q : cI τ 2 ≤ (a : Int) := q
      omega
    · have q : (a : Int) < cI τ 2 := q
      refine O_Model_findsMissed [32] 400 (fun R cl Z hR hcl hZ => ?_)
      conv => whnf
      refine hR _ _ _ _ ?_
      refine Ok.cv rfl rfl rfl rfl rfl rfl rfl ?_
      refine (m_stand hB hn hh (by omega) gS.2 hI.1).use (by decide) (fun r2 τ2 q3 => ?_)
      obtain ⟨rfl, w2, rfl, hw2⟩ := q3
      refine O_Model_findsMissed [36] 400 (fun R cl Z hR hcl hZ => ?_)
      conv => whnf
      refine hR _ _ _ _ ?_
      refine mi_36 hB0 hn hh (by omega) ?_ (cI σ0 2).toNat 0 τ2 w2 (by omega) E hI hw2
      intro τ3 w v z E3 hI3 hw
      refine O_Model_findsMissed [69] 400 (fun R cl Z hR hcl hZ => ?_)
      conv => whnf
      refine hR _ _ _ _ ?_
      dsimp only
      rw [o10, om, oa]
      refine Ok.lst (n := 160) rfl rfl rfl (by decide) (by omega) (by omega) ?_
      rw [show (10 * (h : Int) + a).toNat = 10 * h + a by omega]
      refine O_Model_findsMissed [25] 400 (fun R cl Z hR hcl hZ => ?_)
      conv => whnf
      refine hR _ _ _ _ ?_
      have fin := ih (a + 1) (τ3.1, va_up τ3.2 130 (vp_updL (τ3.2 130) (10 * h + a) w)) (.long w) v z (by omega) E3 ⟨fun h' b h1 h2 h3 => ?_, fun b hb => ?_⟩
      · rw [show ((a + 1 : Nat) : Int) = (a : Int) + 1 by omega, ← oa] at fin
        exact fin
      · show 0 ≤ ((va_up τ3.2 130 (vp_updL (τ3.2 130) (10 * h + a) w)) 130 (10 * h' + b)).toInt ∧ ((va_up τ3.2 130 (vp_updL (τ3.2 130) (10 * h + a) w)) 130 (10 * h' + b)).toInt ≤ _
        rw [upL, if_neg (by omega)]
        exact hI3.1 h' b h1 h2 h3
      · show 0 ≤ ((va_up τ3.2 130 (vp_updL (τ3.2 130) (10 * h + a) w)) 130 (10 * h + b)).toInt ∧ ((va_up τ3.2 130 (vp_updL (τ3.2 130) (10 * h + a) w)) 130 (10 * h + b)).toInt ≤ _
        rw [upL]
        by_cases e : b = a
        · rw [if_pos (by omega)]
          exact hw
        · rw [if_neg (by omega)]
          exact hI3.2 b (by omega)
set_option maxRecDepth 20000 in
theorem mi_21 (hB0 : an_GB pm_B σ0) (hn : n ≤ 8) : ∀ (k : Nat) (τ : pm_S) (v3 v4 v5 v6 : Value), k ≤ n → τ.1 = σ0.1 → mI τ n k (cI σ0 2) → Ok 235 6 21 [.ref 93, .int (Int32.ofInt (n : Int)), .int (Int32.ofInt ((k : Int) - 1)), v3, v4, v5, v6] [] τ (qMi σ0 n) := by
  have gS : 0 ≤ cI σ0 2 ∧ cI σ0 2 ≤ 10 := hB0 93 2 (by decide)
  intro k
  induction k with
  | zero =>
    intro τ v3 v4 v5 v6 hk E hI
    refine O_Model_findsMissed [22] 400 (fun R cl Z hR hcl hZ => ?_)
    conv => whnf
    refine hR _ _ _ _ ?_
    refine Ok.if1 rfl rfl (fun q => ?_) (fun q => ?_)
    · refine O_Model_findsMissed [] 400 (fun R cl Z hR hcl hZ => ?_)
      conv => whnf
      exact hZ _ _ ⟨rfl, E, hI⟩
    · exfalso
      exact q (by show Int32.ofInt (((0 : Nat) : Int) - 1) < 0; decide)
  | succ k ih =>
    intro τ v3 v4 v5 v6 hk E hI
    rw [show (((k + 1 : Nat)) : Int) - 1 = (k : Int) by omega]
    refine O_Model_findsMissed [22] 400 (fun R cl Z hR hcl hZ => ?_)
    conv => whnf
    refine hR _ _ _ _ ?_
    refine Ok.if1 rfl rfl (fun q => ?_) (fun q => ?_)
    · exfalso
      have q' : Int32.ofInt (k : Int) < 0 := q
      have := Int32.lt_iff_toInt_lt.mp q'
      rw [ti_of (by omega) (by omega)] at this
      have e0 : (0 : Int32).toInt = 0 := rfl
      omega
    · refine O_Model_findsMissed [25] 400 (fun R cl Z hR hcl hZ => ?_)
      conv => whnf
      refine hR _ _ _ _ ?_
      refine mi_25 hB0 hn (h := k) (by omega) ?_ (cI σ0 2).toNat 0 τ v4 v5 v6 (by omega) E ⟨hI, fun b hb => absurd hb (by omega)⟩
      intro τ2 a4 a5 a6 E2 hI2 va hva
      refine O_Model_findsMissed [21] 400 (fun R cl Z hR hcl hZ => ?_)
      conv => whnf
      refine hR _ _ _ _ ?_
      have fin := ih τ2 va a4 a5 a6 (by omega) E2 hI2
      rw [show (k : Int) - 1 = (k : Int) + (-1) by omega, ← oa] at fin
      exact fin
set_option maxRecDepth 20000 in
theorem mi_2 (hB0 : an_GB pm_B σ0) (hn : 1 ≤ n ∧ n ≤ 8) : ∀ (N s : Nat) (τ : pm_S) (v3 v4 v5 v6 : Value), (s : Int) + N = cI σ0 2 → τ.1 = σ0.1 → (∀ a : Nat, a < s → (τ.2 130 (10 * n + a)).toInt = 1) → Ok 235 6 2 [.ref 93, .int (Int32.ofInt (n : Int)), .int (Int32.ofInt (s : Int)), v3, v4, v5, v6] [] τ (qMi σ0 n) := by
  have gS : 0 ≤ cI σ0 2 ∧ cI σ0 2 ≤ 10 := hB0 93 2 (by decide)
  intro N
  induction N with
  | zero =>
    intro s τ v3 v4 v5 v6 hN E hI
    have e2 : cI τ 2 = cI σ0 2 := by show (τ.1 93 2).toInt = _; rw [E]
    refine O_Model_findsMissed [5] 400 (fun R cl Z hR hcl hZ => ?_)
    conv => whnf
    refine hR _ _ _ _ ?_
    rw [← oI (τ.1 93 2)]
    refine Ok.ic rfl rfl (by omega) (by omega) (ai_rng _).1 (ai_rng _).2 (fun q => ?_) (fun q => ?_)
    · refine O_Model_findsMissed [21] 400 (fun R cl Z hR hcl hZ => ?_)
      conv => whnf
      refine hR _ _ _ _ ?_
      have fin := mi_21 hB0 hn.2 n τ v3 v4 v5 v6 (Nat.le_refl _) E (fun h a h1 h2 h3 => by
        rw [show h = n by omega, hI a (by omega), show n - n = 0 by omega]
        exact ⟨by decide, by decide⟩)
      rw [← os] at fin
      exact fin
    · exfalso
      have q : (s : Int) < cI τ 2 := q
      omega
  | succ N ih =>
    intro s τ v3 v4 v5 v6 hN E hI
    have e2 : cI τ 2 = cI σ0 2 := by show (τ.1 93 2).toInt = _; rw [E]
    refine O_Model_findsMissed [5] 400 (fun R cl Z hR hcl hZ => ?_)
    conv => whnf
    refine hR _ _ _ _ ?_
    rw [← oI (τ.1 93 2)]
    refine Ok.ic rfl rfl (by omega) (by omega) (ai_rng _).1 (ai_rng _).2 (fun q => ?_) (fun q => ?_)
    · exfalso
      have q : cI τ 2 ≤ (s : Int) := q
      omega
    · refine O_Model_findsMissed [14] 400 (fun R cl Z hR hcl hZ => ?_)
      conv => whnf
      refine hR _ _ _ _ ?_
      dsimp only
      rw [o10, om, oa]
      refine Ok.lst (n := 160) rfl rfl rfl (by decide) (by omega) (by omega) ?_
      rw [show (10 * (n : Int) + s).toNat = 10 * n + s by omega]
      refine O_Model_findsMissed [2] 400 (fun R cl Z hR hcl hZ => ?_)
      conv => whnf
      refine hR _ _ _ _ ?_
      have fin := ih (s + 1) (τ.1, va_up τ.2 130 (vp_updL (τ.2 130) (10 * n + s) (pm_lv 1 0))) v3 v4 v5 v6 (by omega) E (fun a ha => ?_)
      · rw [show ((s + 1 : Nat) : Int) = (s : Int) + 1 by omega, ← oa] at fin
        exact fin
      · show ((va_up τ.2 130 (vp_updL (τ.2 130) (10 * n + s) (pm_lv 1 0))) 130 (10 * n + a)).toInt = 1
        rw [upL]
        by_cases e : a = s
        · rw [if_pos (by omega)]
          decide
        · rw [if_neg (by omega)]
          exact hI a (by omega)
end MISS
set_option maxRecDepth 20000 in
theorem m_missed {σ : pm_S} (hB : an_GB pm_B σ) {n : Nat} (hn : 1 ≤ n ∧ n ≤ 8) : Sp 235 6 [.ref 93, .int (Int32.ofInt (n : Int))] σ (qMi σ n) := by
  have gS : 0 ≤ cI σ 2 ∧ cI σ 2 ≤ 10 := hB 93 2 (by decide)
  refine Sp.at rfl rfl ?_
  refine O_Model_findsMissed [2] 400 (fun R cl Z hR hcl hZ => ?_)
  conv => whnf
  refine hR _ _ _ _ ?_
  exact mi_2 hB hn (cI σ 2).toNat 0 σ pm_un pm_un pm_un pm_un (by omega) rfl (fun a ha => absurd ha (by omega))
