/-! waiting: steps with longs, exact -/
theorem li_bmod {z : Int} (h1 : -9223372036854775808 ≤ z) (h2 : z ≤ 9223372036854775807) : z.bmod (2 ^ 64) = z := by
  rw [Int.bmod_eq_of_le (by omega) (by omega)]
theorem li_mul {x y : Int64} (h1 : -9223372036854775808 ≤ x.toInt * y.toInt) (h2 : x.toInt * y.toInt ≤ 9223372036854775807) : (x * y).toInt = x.toInt * y.toInt := by
  rw [Int64.toInt_mul]
  exact li_bmod h1 h2
theorem li_sub {x y : Int64} (h1 : -9223372036854775808 ≤ x.toInt - y.toInt) (h2 : x.toInt - y.toInt ≤ 9223372036854775807) : (x - y).toInt = x.toInt - y.toInt := by
  rw [Int64.toInt_sub]
  exact li_bmod h1 h2
theorem li_add {x y : Int64} (h1 : -9223372036854775808 ≤ x.toInt + y.toInt) (h2 : x.toInt + y.toInt ≤ 9223372036854775807) : (x + y).toInt = x.toInt + y.toInt := by
  rw [Int64.toInt_add]
  exact li_bmod h1 h2
section LSTEP
variable {k D idx : Nat} {M : pm_M} {L st : List Value} {σ : pm_S} {Q : Option Value → pm_S → Prop} {pc ln x y : Nat} {zs : List Nat}
theorem Ok.lld (hM : pm_nth pm_tab k = some M) (hi : pm_nth M.2.2.2.2.2 idx = some (pc, .laload, ln, x, y, zs)) {p n : Nat} (hp : pm_nth pm_lay p = some (.inl (2, n))) (hn : n ≤ 20000) {j : Int} (h0 : 0 ≤ j) (h1 : j < n) (h : Ok k (D + 1) (idx + 1) L (.long (σ.2 p j.toNat) :: st) σ Q) : Ok k (D + 1) idx L (.int (Int32.ofInt j) :: .ref p :: st) σ Q := by
  refine Ok.one (by rw [← pm_nth_eq]; exact hM) hi ?_
  obtain ⟨g1, g2⟩ := idxI h0 h1 hn
  unfold pm_go
  dsimp only
  unfold pm_glld
  dsimp only
  have e : (pm_OS none).2.2.2.2.1 σ p = some (n, σ.2 p) := by show (match pm_nth pm_lay p with | some (.inl (2, n)) => _ | _ => none) = _; rw [hp]; rfl
  rw [e]
  dsimp only
  refine ⟨fun _ => ?_, fun q => absurd g1 q⟩
  rw [g2]
  exact h
theorem Ok.lst (hM : pm_nth pm_tab k = some M) (hi : pm_nth M.2.2.2.2.2 idx = some (pc, .lastore, ln, x, y, zs)) {p n : Nat} (hp : pm_nth pm_lay p = some (.inl (2, n))) (hn : n ≤ 20000) {j : Int} (h0 : 0 ≤ j) (h1 : j < n) {v : Int64} (h : Ok k (D + 1) (idx + 1) L st (σ.1, va_up σ.2 p (vp_updL (σ.2 p) j.toNat v)) Q) : Ok k (D + 1) idx L (.long v :: .int (Int32.ofInt j) :: .ref p :: st) σ Q := by
  refine Ok.one (by rw [← pm_nth_eq]; exact hM) hi ?_
  obtain ⟨g1, g2⟩ := idxI h0 h1 hn
  unfold pm_go
  dsimp only
  unfold pm_glst
  dsimp only
  have e : (pm_OS none).2.2.2.2.1 σ p = some (n, σ.2 p) := by show (match pm_nth pm_lay p with | some (.inl (2, n)) => _ | _ => none) = _; rw [hp]; rfl
  rw [e]
  dsimp only
  refine ⟨fun _ => ?_, fun q => absurd g1 q⟩
  rw [g2]
  exact h
theorem Ok.if1 (hM : pm_nth pm_tab k = some M) {c : Jvm.ClassFile.Cond} {off : Int} (hi : pm_nth M.2.2.2.2.2 idx = some (pc, .ifCond c off, ln, x, y, zs)) {w : Int32} (ht : pm_cc c w 0 → Ok k (D + 1) x L st σ Q) (hf : ¬ pm_cc c w 0 → Ok k (D + 1) (idx + 1) L st σ Q) : Ok k (D + 1) idx L (.int w :: st) σ Q := by
  refine Ok.one (by rw [← pm_nth_eq]; exact hM) hi ?_
  unfold pm_go
  dsimp only
  exact ⟨ht, hf⟩
theorem Ok.dvc (hM : pm_nth pm_tab k = some M) (hi : pm_nth M.2.2.2.2.2 idx = some (pc, .idiv, ln, x, y, zs)) {v c : Int} (h0 : 0 ≤ v) (h1 : v ≤ 2147483647) (c0 : 1 ≤ c) (c1 : c ≤ 2147483647) (h : Ok k (D + 1) (idx + 1) L (.int (Int32.ofInt (v / c)) :: st) σ Q) : Ok k (D + 1) idx L (.int (Int32.ofInt c) :: .int (Int32.ofInt v) :: st) σ Q := by
  refine Ok.one (by rw [← pm_nth_eq]; exact hM) hi ?_
  have ec : (Int32.ofInt c).toInt = c := ti_of (by omega) (by omega)
  have ev : (Int32.ofInt v).toInt = v := ti_of (by omega) (by omega)
  have hne : ¬ Int32.ofInt c = 0 := fun z => by
    have : (Int32.ofInt c).toInt = 0 := by rw [z]; rfl
    omega
  have e : Int32.ofInt v / Int32.ofInt c = Int32.ofInt (v / c) := by
    rw [← oI (Int32.ofInt v / Int32.ofInt c), ai_div (by omega), ec, ev, Int.tdiv_eq_ediv_of_nonneg h0]
  unfold pm_go
  dsimp only
  unfold pm_gdiv
  dsimp only
  refine ⟨fun _ => ?_, fun q => absurd hne q⟩
  rw [e]
  exact h
end LSTEP
theorem o10 : pm_iv 10 0 = Int32.ofInt 10 := by decide
theorem o9 : pm_iv 9 0 = Int32.ofInt 9 := by decide
theorem o8 : pm_iv 8 0 = Int32.ofInt 8 := by decide
theorem o1 : pm_iv 1 0 = Int32.ofInt 1 := by decide
theorem o0 : pm_iv 0 0 = Int32.ofInt 0 := by decide
theorem om (a b : Int) : Int32.ofInt a * Int32.ofInt b = Int32.ofInt (a * b) := (Int32.ofInt_mul a b).symm
theorem oa (a b : Int) : Int32.ofInt a + Int32.ofInt b = Int32.ofInt (a + b) := (Int32.ofInt_add a b).symm
theorem os (a b : Int) : Int32.ofInt a - Int32.ofInt b = Int32.ofInt (a - b) := (Int32.ofInt_sub a b).symm
def mlF (σ : pm_S) (a b : Int) : Int := if a = b then 0 else 9 + (σ.1 95 (10 * a + b).toNat).toInt
def hoF (σ : pm_S) (a b : Int) : Int := if (mlF σ a b + 9) / 10 < 1 then 1 else (mlF σ a b + 9) / 10
theorem mlF_ok {σ : pm_S} (hB : an_GB pm_B σ) {a b : Int} (ha : 0 ≤ a ∧ a ≤ 9) (hb : 0 ≤ b ∧ b ≤ 9) : 0 ≤ mlF σ a b ∧ mlF σ a b ≤ 99 := by
  unfold mlF
  split
  · omega
  · have : -9 ≤ (σ.1 95 (10 * a + b).toNat).toInt ∧ (σ.1 95 (10 * a + b).toNat).toInt ≤ 90 := hB 95 _ (show (10 * a + b).toNat < 100 by omega)
    omega
theorem hoF_ok {σ : pm_S} (hB : an_GB pm_B σ) {a b : Int} (ha : 0 ≤ a ∧ a ≤ 9) (hb : 0 ≤ b ∧ b ≤ 9) : 1 ≤ hoF σ a b ∧ hoF σ a b ≤ 10 := by
  have := mlF_ok hB ha hb
  unfold hoF
  split <;> omega
set_option maxRecDepth 20000 in
theorem m_miles {σ : pm_S} (hB : an_GB pm_B σ) {a b : Int} (ha : 0 ≤ a ∧ a ≤ 9) (hb : 0 ≤ b ∧ b ≤ 9) : Sp 165 2 [.ref 93, .int (Int32.ofInt a), .int (Int32.ofInt b)] σ (fun r τ => τ = σ ∧ r = some (.int (Int32.ofInt (mlF σ a b)))) := by
  refine Sp.at rfl rfl ?_
  refine O_Model_milesOf [2] 400 (fun R cl Z hR hcl hZ => ?_)
  conv => whnf
  refine hR _ _ _ _ ?_
  refine Ok.ic rfl rfl (by omega) (by omega) (by omega) (by omega) (fun h => ?_) (fun h => ?_)
  · have h : a ≠ b := h
    refine O_Model_milesOf [13] 400 (fun R cl Z hR hcl hZ => ?_)
    conv => whnf
    refine hR _ _ _ _ ?_
    dsimp only
    rw [o10, om, oa]
    refine Ok.ald (n := 100) rfl rfl rfl (by decide) (by omega) (by omega) ?_
    refine O_Model_milesOf [15] 400 (fun R cl Z hR hcl hZ => ?_)
    conv => whnf
    refine hR _ _ _ _ ?_
    dsimp only
    rw [o9, oa]
    refine O_Model_milesOf [] 400 (fun R cl Z hR hcl hZ => ?_)
    conv => whnf
    exact hZ _ _ ⟨rfl, by unfold mlF; rw [if_neg h]⟩
  · have h : a = b := h
    refine O_Model_milesOf [15] 400 (fun R cl Z hR hcl hZ => ?_)
    conv => whnf
    refine hR _ _ _ _ ?_
    refine O_Model_milesOf [] 400 (fun R cl Z hR hcl hZ => ?_)
    conv => whnf
    exact hZ _ _ ⟨rfl, by unfold mlF; rw [if_pos h]; rfl⟩
set_option maxRecDepth 20000 in
theorem m_hours {σ : pm_S} (hB : an_GB pm_B σ) {a b : Int} (ha : 0 ≤ a ∧ a ≤ 9) (hb : 0 ≤ b ∧ b ≤ 9) : Sp 231 3 [.ref 93, .int (Int32.ofInt a), .int (Int32.ofInt b)] σ (fun r τ => τ = σ ∧ r = some (.int (Int32.ofInt (hoF σ a b)))) := by
  have ml := mlF_ok hB ha hb
  refine Sp.at rfl rfl ?_
  refine O_Model_hoursOf [3] 400 (fun R cl Z hR hcl hZ => ?_)
  conv => whnf
  refine hR _ _ _ _ ?_
  refine Ok.cv rfl rfl rfl rfl rfl rfl rfl ?_
  refine (m_miles hB ha hb).use (by decide) (fun r τ q => ?_)
  obtain ⟨rfl, rfl⟩ := q
  refine O_Model_hoursOf [7] 400 (fun R cl Z hR hcl hZ => ?_)
  conv => whnf
  refine hR _ _ _ _ ?_
  dsimp only
  rw [o9, oa, o10]
  refine Ok.dvc rfl rfl (by omega) (by omega) (by omega) (by omega) ?_
  refine O_Model_hoursOf [11] 400 (fun R cl Z hR hcl hZ => ?_)
  conv => whnf
  refine hR _ _ _ _ ?_
  rw [o1]
  refine Ok.ic rfl rfl (by omega) (by omega) (by omega) (by omega) (fun h => ?_) (fun h => ?_)
  · have h : 1 ≤ (mlF τ a b + 9) / 10 := h
    refine O_Model_hoursOf [15] 400 (fun R cl Z hR hcl hZ => ?_)
    conv => whnf
    refine hR _ _ _ _ ?_
    refine O_Model_hoursOf [] 400 (fun R cl Z hR hcl hZ => ?_)
    conv => whnf
    exact hZ _ _ ⟨rfl, by unfold hoF; rw [if_neg (by omega)]⟩
  · have h : (mlF τ a b + 9) / 10 < 1 := h
    refine O_Model_hoursOf [15] 400 (fun R cl Z hR hcl hZ => ?_)
    conv => whnf
    refine hR _ _ _ _ ?_
    refine O_Model_hoursOf [] 400 (fun R cl Z hR hcl hZ => ?_)
    conv => whnf
    exact hZ _ _ ⟨rfl, by unfold hoF; rw [if_pos h]; rfl⟩
def hu : Nat → Int
  | 0 => 1
  | m + 1 => 100 * hu m
theorem hu_ok : ∀ m, m ≤ 8 → 1 ≤ hu m ∧ hu m ≤ 10000000000000000 := by decide
set_option maxRecDepth 20000 in
theorem hu_loop {σ : pm_S} {m : Nat} (hm : m ≤ 8) : ∀ (N k : Nat) (w : Int64) (v : Value), v.category = 1 → k + N = m → w.toInt = hu k → Ok 232 2 4 [.ref 93, .int (Int32.ofInt (m : Int)), .long w, v, .int (Int32.ofInt (k : Int))] [] σ (fun r τ => τ = σ ∧ ∃ w : Int64, r = some (.long w) ∧ w.toInt = hu m) := by
  intro N
  induction N with
  | zero =>
    intro k w v hv hN hw
    refine O_Model_hundreds [6] 400 (fun R cl Z hR hcl hZ => ?_)
    conv => whnf
    refine hR _ _ _ _ ?_
    refine Ok.ic rfl rfl (by omega) (by omega) (by omega) (by omega) (fun h => ?_) (fun h => ?_)
    · refine O_Model_hundreds [] 400 (fun R cl Z hR hcl hZ => ?_)
      conv => whnf
      exact hZ _ _ ⟨rfl, w, rfl, by rw [show m = k by omega]; exact hw⟩
    · exfalso
      have h : (k : Int) < m := h
      omega
  | succ N ih =>
    intro k w v hv hN hw
    have hk := hu_ok k (by omega)
    have hk1 := hu_ok (k + 1) (by omega)
    refine O_Model_hundreds [6] 400 (fun R cl Z hR hcl hZ => ?_)
    conv => whnf
    refine hR _ _ _ _ ?_
    refine Ok.ic rfl rfl (by omega) (by omega) (by omega) (by omega) (fun h => ?_) (fun h => ?_)
    · exfalso
      have h : (m : Int) ≤ k := h
      omega
    · refine O_Model_hundreds [4] 400 (fun R cl Z hR hcl hZ => ?_)
      conv => whnf
      refine hR _ _ _ _ ?_
      have e : (pm_lv 100 0 * w).toInt = hu (k + 1) := by
        have e1 : (pm_lv 100 0).toInt = 100 := by decide
        have e2 : hu (k + 1) = 100 * hu k := rfl
        have e3 := li_mul (x := pm_lv 100 0) (y := w) (by rw [e1, hw]; omega) (by rw [e1, hw]; omega)
        rw [e3, e1, hw, e2]
      have fin := ih (k + 1) (pm_lv 100 0 * w) pm_un rfl (by omega) e
      rw [show ((k + 1 : Nat) : Int) = (k : Int) + 1 by omega, ← oa] at fin
      exact fin
set_option maxRecDepth 20000 in
theorem m_hund {σ : pm_S} {m : Nat} (hm : m ≤ 8) : Sp 232 2 [.ref 93, .int (Int32.ofInt (m : Int))] σ (fun r τ => τ = σ ∧ ∃ w : Int64, r = some (.long w) ∧ w.toInt = hu m) := by
  refine Sp.at rfl rfl ?_
  refine O_Model_hundreds [4] 400 (fun R cl Z hR hcl hZ => ?_)
  conv => whnf
  refine hR _ _ _ _ ?_
  exact hu_loop hm m 0 _ pm_un rfl (by omega) (by decide)

theorem hu_mul : ∀ t, t < 9 → ∀ s, s < 9 → hu t * hu s = hu (t + s) := by decide
def mI (σ : pm_S) (n h0 : Nat) (S : Int) : Prop := ∀ h a : Nat, h0 ≤ h → h ≤ n → (a : Int) < S → 0 ≤ (σ.2 130 (10 * h + a)).toInt ∧ (σ.2 130 (10 * h + a)).toInt ≤ hu (n - h)
set_option maxRecDepth 20000 in
theorem m_stand {σ : pm_S} (hB : an_GB pm_B σ) {n h s : Nat} {S : Int} (hn : n ≤ 8) (hh : h + 1 ≤ n) (hs : (s : Int) < S) (hS : S ≤ 10) (hI : mI σ n (h + 1) S) : Sp 233 2 [.ref 93, .int (Int32.ofInt (h : Int)), .int (Int32.ofInt (s : Int))] σ (fun r τ => τ = σ ∧ ∃ w : Int64, r = some (.long w) ∧ 0 ≤ w.toInt ∧ w.toInt ≤ hu (n - h)) := by
  have hc : 0 ≤ (σ.1 113 (8 * (s : Int) + h).toNat).toInt ∧ (σ.1 113 (8 * (s : Int) + h).toNat).toInt ≤ 100 := hB 113 _ (show (8 * (s : Int) + h).toNat < 80 by omega)
  have hm := hI (h + 1) s (Nat.le_refl _) hh hs
  have ix : (10 * ((h : Int) + 1) + s).toNat = 10 * (h + 1) + s := by omega
  have hu1 : hu (n - h) = 100 * hu (n - (h + 1)) := by
    rw [show n - h = (n - (h + 1)) + 1 by omega]
    rfl
  have hb := hu_ok (n - h) (by omega)
  refine Sp.at rfl rfl ?_
  refine O_Model_standing [8] 400 (fun R cl Z hR hcl hZ => ?_)
  conv => whnf
  refine hR _ _ _ _ ?_
  dsimp only
  rw [o8, om, oa]
  refine Ok.ald (n := 80) rfl rfl rfl (by decide) (by omega) (by omega) ?_
  refine O_Model_standing [20] 400 (fun R cl Z hR hcl hZ => ?_)
  conv => whnf
  refine hR _ _ _ _ ?_
  dsimp only
  rw [o10, o1, oa, om, oa]
  refine Ok.lld (n := 160) rfl rfl rfl (by decide) (by omega) (by omega) ?_
  rw [ix]
  refine O_Model_standing [] 400 (fun R cl Z hR hcl hZ => ?_)
  conv => whnf
  refine hZ _ _ ⟨rfl, _, rfl, ?_⟩
  have e0 : (pm_lv 100 0).toInt = 100 := by decide
  have e1 : ((Int32.ofInt (σ.1 113 (8 * (s : Int) + h).toNat).toInt).toInt64).toInt = (σ.1 113 (8 * (s : Int) + h).toNat).toInt := by rw [Int32.toInt_toInt64, oI]
  have e2 : (pm_lv 100 0 - (Int32.ofInt (σ.1 113 (8 * (s : Int) + h).toNat).toInt).toInt64).toInt = 100 - (σ.1 113 (8 * (s : Int) + h).toNat).toInt := by
    have := li_sub (x := pm_lv 100 0) (y := (Int32.ofInt (σ.1 113 (8 * (s : Int) + h).toNat).toInt).toInt64) (by rw [e0, e1]; omega) (by rw [e0, e1]; omega)
    rw [this, e0, e1]
  have p1 : 0 ≤ (100 - (σ.1 113 (8 * (s : Int) + h).toNat).toInt) * (σ.2 130 (10 * (h + 1) + s)).toInt := Int.mul_nonneg (by omega) hm.1
  have p2 : (100 - (σ.1 113 (8 * (s : Int) + h).toNat).toInt) * (σ.2 130 (10 * (h + 1) + s)).toInt ≤ 100 * (σ.2 130 (10 * (h + 1) + s)).toInt := Int.mul_le_mul_of_nonneg_right (by omega) hm.1
  show 0 ≤ ((pm_lv 100 0 - (Int32.ofInt (σ.1 113 (8 * (s : Int) + h).toNat).toInt).toInt64) * σ.2 130 (10 * (h + 1) + s)).toInt ∧ ((pm_lv 100 0 - (Int32.ofInt (σ.1 113 (8 * (s : Int) + h).toNat).toInt).toInt64) * σ.2 130 (10 * (h + 1) + s)).toInt ≤ hu (n - h)
  have e3 := li_mul (x := pm_lv 100 0 - (Int32.ofInt (σ.1 113 (8 * (s : Int) + h).toNat).toInt).toInt64) (y := σ.2 130 (10 * (h + 1) + s)) (by rw [e2]; omega) (by rw [e2]; omega)
  rw [e3, e2]
  omega
set_option maxRecDepth 20000 in
theorem m_walk {σ : pm_S} (hB : an_GB pm_B σ) {n h a b : Nat} {S : Int} (hn : n ≤ 8) (hh : h + 1 ≤ n) (ha : (a : Int) < S) (hb : (b : Int) < S) (hS : S ≤ 10) (hI : mI σ n (h + 1) S) : Sp 234 4 [.ref 93, .int (Int32.ofInt (h : Int)), .int (Int32.ofInt (a : Int)), .int (Int32.ofInt (b : Int)), .int (Int32.ofInt (n : Int))] σ (fun r τ => τ = σ ∧ ∃ w : Int64, r = some (.long w) ∧ (((n : Int) < h + hoF σ a b ∧ w.toInt = hu (n - h) + 1) ∨ ((h : Int) + hoF σ a b ≤ n ∧ 0 ≤ w.toInt ∧ w.toInt ≤ hu (n - h)))) := by
  have ht := hoF_ok hB (a := a) (b := b) (by omega) (by omega)
  have hb8 := hu_ok (n - h) (by omega)
  refine Sp.at rfl rfl ?_
  refine O_Model_walking [3] 400 (fun R cl Z hR hcl hZ => ?_)
  conv => whnf
  refine hR _ _ _ _ ?_
  refine Ok.cv rfl rfl rfl rfl rfl rfl rfl ?_
  refine (m_hours hB (by omega) (by omega)).use (by decide) (fun r τ q => ?_)
  obtain ⟨rfl, rfl⟩ := q
  refine O_Model_walking [9] 400 (fun R cl Z hR hcl hZ => ?_)
  conv => whnf
  refine hR _ _ _ _ ?_
  dsimp only
  rw [oa]
  refine Ok.ic rfl rfl (by omega) (by omega) (by omega) (by omega) (fun q => ?_) (fun q => ?_)
  · have q : (h : Int) + hoF τ a b ≤ n := q
    have hm := hI (h + (hoF τ a b).toNat) b (by omega) (by omega) hb
    have h8 := hu_ok (hoF τ a b).toNat (by omega)
    have hmu := hu_mul (hoF τ a b).toNat (by omega) (n - (h + (hoF τ a b).toNat)) (by omega)
    rw [show (hoF τ a b).toNat + (n - (h + (hoF τ a b).toNat)) = n - h by omega] at hmu
    refine O_Model_walking [20] 400 (fun R cl Z hR hcl hZ => ?_)
    conv => whnf
    refine hR _ _ _ _ ?_
    refine Ok.cv rfl rfl rfl rfl rfl rfl rfl ?_
    rw [show hoF τ a b = (((hoF τ a b).toNat : Nat) : Int) by omega]
    refine (m_hund (m := (hoF τ a b).toNat) (by omega)).use (by decide) (fun r2 τ2 q2 => ?_)
    obtain ⟨rfl, w, rfl, hw⟩ := q2
    refine O_Model_walking [30] 400 (fun R cl Z hR hcl hZ => ?_)
    conv => whnf
    refine hR _ _ _ _ ?_
    dsimp only
    rw [o10, oa, om, oa]
    refine Ok.lld (n := 160) rfl rfl rfl (by decide) (by omega) (by omega) ?_
    rw [show (10 * ((h : Int) + (((hoF τ2 a b).toNat : Nat) : Int)) + b).toNat = 10 * (h + (hoF τ2 a b).toNat) + b by omega]
    refine O_Model_walking [] 400 (fun R cl Z hR hcl hZ => ?_)
    conv => whnf
    refine hZ _ _ ⟨rfl, _, rfl, Or.inr ⟨by omega, ?_⟩⟩
    have p1 : 0 ≤ hu (hoF τ2 a b).toNat * (τ2.2 130 (10 * (h + (hoF τ2 a b).toNat) + b)).toInt := Int.mul_nonneg (by omega) hm.1
    have p2 : hu (hoF τ2 a b).toNat * (τ2.2 130 (10 * (h + (hoF τ2 a b).toNat) + b)).toInt ≤ hu (hoF τ2 a b).toNat * hu (n - (h + (hoF τ2 a b).toNat)) := Int.mul_le_mul_of_nonneg_left hm.2 (by omega)
    show 0 ≤ (w * τ2.2 130 (10 * (h + (hoF τ2 a b).toNat) + b)).toInt ∧ (w * τ2.2 130 (10 * (h + (hoF τ2 a b).toNat) + b)).toInt ≤ hu (n - h)
    have e3 := li_mul (x := w) (y := τ2.2 130 (10 * (h + (hoF τ2 a b).toNat) + b)) (by rw [hw]; omega) (by rw [hw]; omega)
    rw [e3, hw]
    omega
  · have q : (n : Int) < h + hoF τ a b := q
    refine O_Model_walking [14] 400 (fun R cl Z hR hcl hZ => ?_)
    conv => whnf
    refine hR _ _ _ _ ?_
    dsimp only
    rw [os, show (n : Int) - h = ((n - h : Nat) : Int) by omega]
    refine Ok.cv rfl rfl rfl rfl rfl rfl rfl ?_
    refine (m_hund (m := n - h) (by omega)).use (by decide) (fun r2 τ2 q2 => ?_)
    obtain ⟨rfl, w, rfl, hw⟩ := q2
    refine O_Model_walking [] 400 (fun R cl Z hR hcl hZ => ?_)
    conv => whnf
    refine hZ _ _ ⟨rfl, _, rfl, Or.inl ⟨q, ?_⟩⟩
    have e0 : (pm_lv 1 0).toInt = 1 := by decide
    show (w + pm_lv 1 0).toInt = hu (n - h) + 1
    have e3 := li_add (x := w) (y := pm_lv 1 0) (by rw [hw, e0]; omega) (by rw [hw, e0]; omega)
    rw [e3, hw, e0]
