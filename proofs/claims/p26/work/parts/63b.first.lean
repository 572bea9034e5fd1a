/-! first: what is added grows, what sets cost -/
def gS (v r : Int) : Int := (an_f 0 (Int32.ofInt v) (Int32.ofInt ((an_f 9 (Int32.ofInt ((an_f 2 (Int32.ofInt v) (Int32.ofInt r)).toInt)) (Int32.ofInt 100)).toInt))).toInt
def gN (v r : Int) : Nat → Int
  | 0 => v
  | m + 1 => gS (gN v r m) r
theorem gS_ok {v r : Int} (hv : 0 ≤ v ∧ v ≤ 12800000) (hr : 0 ≤ r ∧ r ≤ 99) : 0 ≤ gS v r ∧ gS v r ≤ 2 * v := by
  have p1 : 0 ≤ v * r := Int.mul_nonneg hv.1 hr.1
  have p2 : v * r ≤ v * 99 := Int.mul_le_mul_of_nonneg_left hr.2 hv.1
  have ev : (Int32.ofInt v).toInt = v := ti_of (by omega) (by omega)
  have er : (Int32.ofInt r).toInt = r := ti_of (by omega) (by omega)
  have e2 : (an_f 2 (Int32.ofInt v) (Int32.ofInt r)).toInt = v * r := by
    show (Int32.ofInt v * Int32.ofInt r).toInt = v * r
    rw [ai_mul, ev, er] <;> rw [ev, er] <;> omega
  have e100 : (Int32.ofInt 100).toInt = 100 := by decide
  have em : (Int32.ofInt (v * r)).toInt = v * r := ti_of (by omega) (by omega)
  have e9 : (an_f 9 (Int32.ofInt (v * r)) (Int32.ofInt 100)).toInt = (v * r) / 100 := by
    show (Int32.ofInt (v * r) / Int32.ofInt 100).toInt = _
    rw [ai_div (by rw [e100]; decide), em, e100]
    exact Int.tdiv_eq_ediv_of_nonneg p1
  have ed : (Int32.ofInt ((v * r) / 100)).toInt = (v * r) / 100 := ti_of (by omega) (by omega)
  have e0 : gS v r = v + (v * r) / 100 := by
    unfold gS
    rw [e2, e9]
    show (Int32.ofInt v + Int32.ofInt ((v * r) / 100)).toInt = _
    rw [ai_add, ev, ed] <;> rw [ev, ed] <;> omega
  omega
theorem gN_ok {v r : Int} (hv : 0 ≤ v ∧ v ≤ 99999) (hr : 0 ≤ r ∧ r ≤ 99) : ∀ m : Nat, m ≤ 7 → 0 ≤ gN v r m ∧ gN v r m ≤ 99999 * 2 ^ m
  | 0, _ => by show 0 ≤ v ∧ v ≤ 99999 * 1; omega
  | m + 1, hm => by
    have ih := gN_ok hv hr m (by omega)
    have p : (2 : Int) ^ m ≤ 64 := by
      rcases (show m = 0 ∨ m = 1 ∨ m = 2 ∨ m = 3 ∨ m = 4 ∨ m = 5 ∨ m = 6 by omega) with rfl | rfl | rfl | rfl | rfl | rfl | rfl <;> decide
    have := gS_ok (v := gN v r m) (r := r) (by omega) hr
    show 0 ≤ gS (gN v r m) r ∧ gS (gN v r m) r ≤ 99999 * 2 ^ (m + 1)
    rw [Int.pow_succ]
    omega
theorem gN_rng {v r : Int} (hv : (-2147483648) ≤ v ∧ v ≤ 2147483647) : ∀ m, (-2147483648) ≤ gN v r m ∧ gN v r m ≤ 2147483647
  | 0 => hv
  | m + 1 => ai_rng _
abbrev rt (σ : pm_S) : Int := (σ.1 108 1).toInt
theorem gr_loop {σ0 : pm_S} {d v : Int} {m : Nat} (hd : 0 ≤ d ∧ d ≤ 29) (hm : m ≤ 8) (hv : (-2147483648) ≤ v ∧ v ≤ 2147483647) : ∀ (N k : Nat) (σ : pm_S), k + N = m → an_GB pm_B σ → FQ [] σ0 σ → Ok 221 6 7 [.ref 93, .int (Int32.ofInt d), .int (Int32.ofInt (m : Int)), .int (Int32.ofInt (gN v (rt σ0) k)), .int (Int32.ofInt (k : Int))] [] σ (fun r τ => r = some (.int (Int32.ofInt (gN v (rt σ0) m))) ∧ an_GB pm_B τ ∧ FQ [] σ0 τ) := by
  intro N
  induction N with
  | zero =>
    intro k σ hN hB hF
    refine sg_gr7 d m (gN v (rt σ0) k) k hB ⟨hd, by omega, gN_rng hv k, by omega, trivial⟩ ?_
    intro τ y hB1 hF1 _ _ _ _
    refine Ok.ic rfl rfl (by omega) (by omega) (by omega) (by omega) (fun h => ?_) (fun h => ?_)
    · refine sg_gr23 (gN v (rt σ0) k) _ _ _ rfl rfl rfl hB1 ⟨gN_rng hv k, trivial⟩ ?_
      intro τ2 y2 hB2 hF2 _ _ _ _
      exact ⟨by rw [show m = k by omega], hB2, (hF.tr hF1).tr hF2⟩
    · exfalso
      have h : (k : Int) < m := h
      omega
  | succ N ih =>
    intro k σ hN hB hF
    refine sg_gr7 d m (gN v (rt σ0) k) k hB ⟨hd, by omega, gN_rng hv k, by omega, trivial⟩ ?_
    intro τ y hB1 hF1 _ _ _ _
    have F1 := hF.tr hF1
    refine Ok.ic rfl rfl (by omega) (by omega) (by omega) (by omega) (fun h => ?_) (fun h => ?_)
    · exfalso
      have h : (m : Int) ≤ k := h
      omega
    · have hr : 0 ≤ rt σ0 ∧ rt σ0 ≤ 99 := by
        have : 0 ≤ (τ.1 108 1).toInt ∧ (τ.1 108 1).toInt ≤ 99 := hB1 108 1 (by decide)
        rw [F1 108 1 rfl] at this
        exact this
      refine sg_gr10 d m (gN v (rt σ0) k) k (rt σ0) hB1 ⟨hd, by omega, gN_rng hv k, by omega, hr, trivial⟩ ⟨by rw [F1 108 1 rfl], trivial⟩ ?_
      intro τ2 y2 hB2 hF2 _ _ dd _
      have e7 : y2 7 = gN v (rt σ0) (k + 1) := by
        show y2 7 = gS (gN v (rt σ0) k) (rt σ0)
        unfold gS
        rw [dd.1, dd.2.1, dd.2.2.1]
      rw [e7]
      exact ih (k + 1) τ2 (by omega) hB2 (F1.tr hF2)
theorem m_grown {σ : pm_S} (hB : an_GB pm_B σ) {d : Int} {m : Nat} (hd : 0 ≤ d ∧ d ≤ 29) (hm : m ≤ 8) : Sp 221 6 [.ref 93, .int (Int32.ofInt d), .int (Int32.ofInt (m : Int))] σ (fun r τ => r = some (.int (Int32.ofInt (gN (zK σ d) (rt σ) m))) ∧ an_GB pm_B τ ∧ FQ [] σ τ) := by
  refine Sp.at rfl rfl ?_
  refine sg_gr0 d m _ _ rfl rfl hB ⟨hd, by omega, trivial⟩ ?_
  intro τ y hB1 hF1 _ _ _ c
  have e : y 2 = zK σ d := by rw [← c.1, hF1 103 _ rfl]
  rw [e]
  exact gr_loop (σ0 := σ) (v := zK σ d) hd hm (ai_rng _) m 0 τ (by omega) hB1 hF1
/-! sets as bits -/
def sbI (s i : Int) : Int := (an_f 3 (Int32.ofInt s) (Int32.ofInt ((an_f 5 (Int32.ofInt ((an_f 6 (Int32.ofInt 1) (Int32.ofInt i)).toInt)) (Int32.ofInt (-1))).toInt))).toInt
def btI (s i : Int) : Int := (an_f 3 (Int32.ofInt ((an_f 7 (Int32.ofInt s) (Int32.ofInt i)).toInt)) (Int32.ofInt 1)).toInt
def ocI (s : Int) : Int := (an_f 16 (Int32.ofInt s) (Int32.ofInt 0)).toInt
set_option maxRecDepth 100000 in
theorem sb_f : ∀ s : Nat, s < 256 → ∀ i : Nat, i < 8 → (0 ≤ sbI s i ∧ sbI s i ≤ s) ∧ (btI s i = 1 → sbI s i < s ∧ ocI (sbI s i) + 1 = ocI s) := by decide +kernel
set_option maxRecDepth 100000 in
theorem oc_f : ∀ s : Nat, s < 256 → 0 ≤ ocI s ∧ ocI s ≤ 8 ∧ (s = 0 → ocI s = 0) ∧ (1 ≤ s → 1 ≤ ocI s) := by decide +kernel
set_option maxRecDepth 100000 in
theorem oc_n : ∀ n : Nat, n < 9 → (an_f 6 (Int32.ofInt 1) (Int32.ofInt (n : Int))).toInt = ((2 ^ n : Nat) : Int) ∧ (2 ^ n : Nat) ≤ 256 ∧ 1 ≤ (2 ^ n : Nat) ∧ ocI (((2 ^ n : Nat) : Int) + (-1)) = n := by decide +kernel
def ocK (n s : Nat) : Bool := !(decide (s < 2 ^ n)) || (decide (ocI s ≤ n) && (List.range 8).all (fun i => !(decide (btI s (i : Nat) = 1)) || decide (i < n)) && (!(decide (1 ≤ s)) || (List.range n).any (fun i => decide (btI s (i : Nat) = 1))))
set_option maxRecDepth 100000 in
theorem oc_le0 : ∀ n : Nat, n < 9 → ∀ s : Nat, s < 256 → ocK n s = true := by decide +kernel
theorem oc_le (n : Nat) (hn : n < 9) (s : Nat) (hs : s < 256) (h : s < 2 ^ n) : ocI s ≤ n ∧ (∀ i : Nat, i < 8 → btI s i = 1 → i < n) ∧ (1 ≤ s → ∃ i : Nat, i < n ∧ btI s i = 1) := by
  have h0 := oc_le0 n hn s hs
  unfold ocK at h0
  rw [decide_eq_true h] at h0
  have h1 : (decide (ocI s ≤ n) && (List.range 8).all (fun i => !(decide (btI s (i : Nat) = 1)) || decide (i < n)) && (!(decide (1 ≤ s)) || (List.range n).any (fun i => decide (btI s (i : Nat) = 1)))) = true := h0
  rw [Bool.and_eq_true, Bool.and_eq_true] at h1
  obtain ⟨⟨h1, h2⟩, h3⟩ := h1
  refine ⟨of_decide_eq_true h1, fun i hi hb => ?_, fun z => ?_⟩
  · have := List.all_eq_true.mp h2 i (List.mem_range.mpr hi)
    rw [decide_eq_true hb] at this
    exact of_decide_eq_true this
  · rw [decide_eq_true z] at h3
    obtain ⟨i, i1, i2⟩ := List.any_eq_true.mp h3
    exact ⟨i, List.mem_range.mp i1, of_decide_eq_true i2⟩
abbrev kC (σ : pm_S) (t : Int) : Int := (σ.1 128 t.toNat).toInt
def cwF (σ : pm_S) (s i : Int) : Int := (an_f 0 (Int32.ofInt (gN (zK σ (σ.1 125 i.toNat).toInt) (rt σ) (cI σ 55 - ocI s).toNat)) (Int32.ofInt (kC σ (sbI s i)))).toInt
theorem cwF_e {σ τ : pm_S} (h : τ.1 = σ.1) (s i : Int) : cwF τ s i = cwF σ s i := by
  unfold cwF
  show (an_f 0 (Int32.ofInt (gN (τ.1 103 ((τ.1 125 i.toNat).toInt).toNat).toInt (τ.1 108 1).toInt ((τ.1 93 55).toInt - ocI s).toNat)) (Int32.ofInt (τ.1 128 (sbI s i).toNat).toInt)).toInt = _
  rw [h]
theorem m_costWith {σ : pm_S} (hB : an_GB pm_B σ) {s i : Nat} (hs : s < 256) (hi : i < 8) (ho : cI σ 55 ≤ 8) (hoc : ocI s ≤ cI σ 55) : Sp 222 11 [.ref 93, .int (Int32.ofInt (s : Int)), .int (Int32.ofInt (i : Int))] σ (fun r τ => r = some (.int (Int32.ofInt (cwF σ s i))) ∧ an_GB pm_B τ ∧ FQ [] σ τ) := by
  have g55 : 0 ≤ cI σ 55 ∧ cI σ 55 ≤ 30 := hB 93 55 (by decide)
  have o := oc_f s hs
  refine Sp.at rfl rfl ?_
  refine sg_cw0 s i (cI σ 55) hB ⟨by omega, by omega, by omega, trivial⟩ ⟨rfl, trivial⟩ ?_
  intro τ y hB1 hF1 f _ dd c
  have e4 : y 4 = ocI s := dd.1.symm
  have e5 : y 5 = cI σ 55 - ocI s := by
    rw [← dd.2.1, e4]
    show (Int32.ofInt (cI σ 55) - Int32.ofInt (ocI s)).toInt = _
    rw [ai_sub, ti_of (by omega) (by omega), ti_of (by omega) (by omega)] <;> rw [ti_of (by omega) (by omega), ti_of (by omega) (by omega)] <;> omega
  have e3 : y 3 = (σ.1 125 ((i : Int)).toNat).toInt := by rw [← c.2.1, hF1 125 _ rfl]
  have em : y 5 = (((cI σ 55 - ocI s).toNat : Nat) : Int) := by omega
  rw [em]
  refine Ok.cv rfl rfl rfl rfl rfl rfl rfl ?_
  refine (m_grown hB1 (d := y 3) (m := (cI σ 55 - ocI s).toNat) (by omega) (by omega)).use (by decide) (fun r2 τ2 q2 => ?_)
  obtain ⟨rfl, hB2, hF2⟩ := q2
  have E1 : τ.1 = σ.1 := FQ.e1 hF1
  refine sg_cw12 s i (gN (zK τ (y 3)) (rt τ) (cI σ 55 - ocI s).toNat) hB2 ⟨by omega, by omega, gN_rng (ai_rng _) _, trivial⟩ ?_
  intro τ3 y3 hB3 hF3 _ _ d3 c3
  have F3 : FQ [] σ τ3 := (FQ.tr hF1 hF2).tr hF3
  refine ⟨?_, hB3, F3⟩
  have es : y3 5 = sbI s i := by
    unfold sbI
    rw [d3.1, d3.2.1, d3.2.2.1]
  have e6 : y3 6 = kC σ (sbI s i) := by rw [← c3.1, es, F3 128 _ rfl]
  have e7 : y3 7 = cwF σ s i := by
    rw [← d3.2.2.2.1, e6, e3]
    show (an_f 0 (Int32.ofInt (gN (τ.1 103 _).toInt (τ.1 108 1).toInt _)) _).toInt = _
    rw [E1]
    rfl
  rw [e7]
abbrev FFi : List (Nat × Nat) := [(128, 9999)]
def cwJ (σ : pm_S) (n T : Nat) : Prop := kC σ 0 = 0 ∧ ∀ t : Nat, 1 ≤ t → t < T → (0 ≤ kC σ t ∧ kC σ t ≤ 12800000 * ocI t) ∧ ∃ i : Nat, i < n ∧ btI t i = 1 ∧ cwF σ t i = kC σ t
theorem cwF_p {σ : pm_S} {T : Nat} {w : Int32} {t i : Nat} (ht : t < 256) (hi : i < 8) (hT : t ≤ T) (hb : btI t i = 1) : cwF (put σ 128 T w) t i = cwF σ t i := by
  have h := (sb_f t ht i hi)
  have h2 := h.2 hb
  unfold cwF
  have e1 : kC (put σ 128 T w) (sbI t i) = kC σ (sbI t i) := by
    show ((put σ 128 T w).1 128 _).toInt = _
    rw [put_nj (by omega)]
  have e2 : ∀ p j, p ≠ 128 → (put σ 128 T w).1 p j = σ.1 p j := fun p j hp => put_nr hp
  rw [e1]
  show (an_f 0 (Int32.ofInt (gN ((put σ 128 T w).1 103 (((put σ 128 T w).1 125 _).toInt).toNat).toInt ((put σ 128 T w).1 108 1).toInt (((put σ 128 T w).1 93 55).toInt - _).toNat)) _).toInt = _
  rw [e2 125 _ (by decide), e2 103 _ (by decide), e2 108 _ (by decide), e2 93 _ (by decide)]
theorem cwF_b {σ : pm_S} (hB : an_GB pm_B σ) {n T : Nat} (hn : cI σ 55 = (n : Int)) (hn8 : n ≤ 8) (hT : T < 256) (hT1 : 1 ≤ T) (hI : cwJ σ n T) {i : Nat} (hi : i < 8) (hb : btI T i = 1) (hoc : ocI T ≤ n) : 0 ≤ cwF σ T i ∧ cwF σ T i ≤ 12800000 * ocI T := by
  have h := sb_f T hT i hi
  have h2 := h.2 hb
  have o := oc_f T hT
  have hc : 0 ≤ kC σ (sbI T i) ∧ kC σ (sbI T i) ≤ 12800000 * ocI (sbI T i) := by
    by_cases z : sbI T i = 0
    · have o0 := oc_f 0 (by decide)
      rw [z]
      have := hI.1
      have e : ocI (((0 : Nat)) : Int) = 0 := o0.2.2.1 rfl
      have e' : ocI 0 = 0 := e
      omega
    · have := (hI.2 (sbI T i).toNat (by omega) (by omega)).1
      rw [show (((sbI T i).toNat : Nat) : Int) = sbI T i by omega] at this
      exact this
  have hr : 0 ≤ rt σ ∧ rt σ ≤ 99 := hB 108 1 (by decide)
  have h125 : 0 ≤ (σ.1 125 ((i : Int)).toNat).toInt ∧ (σ.1 125 ((i : Int)).toNat).toInt ≤ 29 := hB 125 _ (show ((i : Int)).toNat < 30 by omega)
  have hk := ca_k hB h125
  have hm : (cI σ 55 - ocI T).toNat ≤ 7 := by omega
  have hg := gN_ok hk hr _ hm
  have p : (2 : Int) ^ (cI σ 55 - ocI T).toNat ≤ 128 := by
    rcases (show (cI σ 55 - ocI T).toNat = 0 ∨ (cI σ 55 - ocI T).toNat = 1 ∨ (cI σ 55 - ocI T).toNat = 2 ∨ (cI σ 55 - ocI T).toNat = 3 ∨ (cI σ 55 - ocI T).toNat = 4 ∨ (cI σ 55 - ocI T).toNat = 5 ∨ (cI σ 55 - ocI T).toNat = 6 ∨ (cI σ 55 - ocI T).toNat = 7 by omega) with e | e | e | e | e | e | e | e <;> rw [e] <;> decide
  have e : cwF σ T i = gN (zK σ (σ.1 125 ((i : Int)).toNat).toInt) (rt σ) (cI σ 55 - ocI T).toNat + kC σ (sbI T i) := by
    unfold cwF
    show (Int32.ofInt _ + Int32.ofInt _).toInt = _
    rw [ai_add, ti_of (by omega) (by omega), ti_of (by omega) (by omega)] <;> rw [ti_of (by omega) (by omega), ti_of (by omega) (by omega)] <;> omega
  omega
