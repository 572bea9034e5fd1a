/-! walksOn, placeIn, waiting -/
theorem Ok.icw {k D idx : Nat} {M : pm_M} {L st : List Value} {σ : pm_S} {Q : Option Value → pm_S → Prop} {pc ln x y : Nat} {zs : List Nat} (hM : pm_nth pm_tab k = some M) {c : Jvm.ClassFile.Cond} {off : Int} (hi : pm_nth M.2.2.2.2.2 idx = some (pc, .if_icmp c off, ln, x, y, zs)) {v w : Int32} (ht : Ok k (D + 1) x L st σ Q) (hf : Ok k (D + 1) (idx + 1) L st σ Q) : Ok k (D + 1) idx L (.int w :: .int v :: st) σ Q := by
  have h := Ok.ic hM hi (a := v.toInt) (b := w.toInt) (ai_rng _).1 (ai_rng _).2 (ai_rng _).1 (ai_rng _).2 (fun _ => ht) (fun _ => hf)
  rw [oI, oI] at h
  exact h
def K1 (σ0 τ : pm_S) : Prop := τ.2 = σ0.2 ∧ FQ [(131, 9999)] σ0 τ ∧ an_GB pm_B τ
theorem bd131 (y : Nat) : an_bd pm_B 131 y = (-2147483648, 2147483647) := rfl
theorem K1.put {σ0 τ : pm_S} (h : K1 σ0 τ) (j : Nat) (w : Int32) : K1 σ0 (put τ 131 j w) := ⟨h.1, h.2.1.tr (FQ.put rfl), put_GB h.2.2 (by rw [bd131]; exact ai_rng w)⟩
theorem K1.c2 {σ0 τ : pm_S} (h : K1 σ0 τ) : cI τ 2 = cI σ0 2 := h.2.1.c 2 rfl
theorem K1.kI {σ0 τ : pm_S} (h : K1 σ0 τ) {n k : Nat} {S : Int} (hI : mI σ0 n k S) : mI τ n k S := by
  unfold mI
  rw [h.1]
  exact hI
theorem K1.tr {σ0 τ υ : pm_S} (h : K1 σ0 τ) (h' : K1 τ υ) : K1 σ0 υ := ⟨h'.1.trans h.1, h.2.1.tr h'.2.1, h'.2.2⟩
theorem mI.up {σ : pm_S} {n k k' : Nat} {S : Int} (h : mI σ n k S) (hk : k ≤ k') : mI σ n k' S := fun h' a h1 h2 h3 => h h' a (by omega) h2 h3
abbrev qWo (σ0 : pm_S) : Option Value → pm_S → Prop := fun r τ => r = none ∧ K1 σ0 τ
section WALKS
variable {σ0 : pm_S} {n h : Nat}
set_option maxRecDepth 20000 in
theorem wo_18 (hI0 : mI σ0 n 0 (cI σ0 2)) (gS : 0 ≤ cI σ0 2 ∧ cI σ0 2 ≤ 10) (hn : n ≤ 8) (hh : h + 1 ≤ n) {a : Nat} (ha : (a : Int) < cI σ0 2)
    (hend : ∀ (τ : pm_S) (v : Value), v.category = 1 → K1 σ0 τ → Ok 237 6 65 [.ref 93, .int (Int32.ofInt (h : Int)), .int (Int32.ofInt (n : Int)), .int (Int32.ofInt (a : Int)), v] [] τ (qWo σ0)) :
    ∀ (N b : Nat) (τ : pm_S), (b : Int) + N = cI σ0 2 → K1 σ0 τ → Ok 237 6 18 [.ref 93, .int (Int32.ofInt (h : Int)), .int (Int32.ofInt (n : Int)), .int (Int32.ofInt (a : Int)), .int (Int32.ofInt (b : Int))] [] τ (qWo σ0) := by
  intro N
  induction N with
  | zero =>
    intro b τ hN hK
    have e2 := hK.c2
    refine O_Model_walksOn [21] 400 (fun R cl Z hR hcl hZ => ?_)
    conv => whnf
    refine hR _ _ _ _ ?_
    rw [← oI (τ.1 93 2)]
    refine Ok.ic rfl rfl (by omega) (by omega) (ai_rng _).1 (ai_rng _).2 (fun q => ?_) (fun q => ?_)
    · exact hend τ _ rfl hK
    · exfalso
      have q : (b : Int) < cI τ 2 := q
      omega
  | succ N ih =>
    intro b τ hN hK
    have e2 := hK.c2
    have at63 : ∀ τ : pm_S, K1 σ0 τ → Ok 237 6 63 [.ref 93, .int (Int32.ofInt (h : Int)), .int (Int32.ofInt (n : Int)), .int (Int32.ofInt (a : Int)), .int (Int32.ofInt (b : Int))] [] τ (qWo σ0) := by
      intro τ hK
      refine O_Model_walksOn [18] 400 (fun R cl Z hR hcl hZ => ?_)
      conv => whnf
      refine hR _ _ _ _ ?_
      have fin := ih (b + 1) τ (by omega) hK
      rw [show ((b + 1 : Nat) : Int) = (b : Int) + 1 by omega, ← oa] at fin
      exact fin
    refine O_Model_walksOn [21] 400 (fun R cl Z hR hcl hZ => ?_)
    conv => whnf
    refine hR _ _ _ _ ?_
    rw [← oI (τ.1 93 2)]
    refine Ok.ic rfl rfl (by omega) (by omega) (ai_rng _).1 (ai_rng _).2 (fun q => ?_) (fun q => ?_)
    · exfalso
      have q : cI τ 2 ≤ (b : Int) := q
      omega
    · have q : (b : Int) < cI τ 2 := q
      have hI := hK.kI hI0
      refine O_Model_walksOn [24] 400 (fun R cl Z hR hcl hZ => ?_)
      conv => whnf
      refine hR _ _ _ _ ?_
      refine Ok.ic rfl rfl (by omega) (by omega) (by omega) (by omega) (fun q2 => ?_) (fun q2 => ?_)
      · exact at63 τ hK
      · refine O_Model_walksOn [30] 400 (fun R cl Z hR hcl hZ => ?_)
        conv => whnf
        refine hR _ _ _ _ ?_
        refine Ok.cv rfl rfl rfl rfl rfl rfl rfl ?_
        refine (m_walk hK.2.2 hn hh ha (by omega) gS.2 (hI.up (by omega))).use (by decide) (fun r2 τ2 q3 => ?_)
        obtain ⟨rfl, w2, rfl, hw2⟩ := q3
        refine O_Model_walksOn [38] 400 (fun R cl Z hR hcl hZ => ?_)
        conv => whnf
        refine hR _ _ _ _ ?_
        dsimp only
        rw [o10, om, oa]
        refine Ok.lld (n := 160) rfl rfl rfl (by decide) (by omega) (by omega) ?_
        rw [show (10 * (h : Int) + a).toNat = 10 * h + a by omega]
        refine O_Model_walksOn [40] 400 (fun R cl Z hR hcl hZ => ?_)
        conv => whnf
        refine hR _ _ _ _ ?_
        refine Ok.if1 rfl rfl (fun q4 => ?_) (fun q4 => ?_)
        · exact at63 τ2 hK
        · have q5 : w2 = τ2.2 130 (10 * h + a) := by
            have q4' : ¬ (lg_cmp w2 (τ2.2 130 (10 * h + a)) ≠ 0) := q4
            exact (lg_cmp_eq _ _).mp (Classical.byContradiction q4')
          have hm := hI h a (by omega) (by omega) ha
          have ht : (h : Int) + hoF τ2 a b ≤ n := by
            rcases hw2 with z | z
            · exfalso
              rw [← q5] at hm
              omega
            · exact z.1
          have h1 := hoF_ok hK.2.2 (a := (a : Int)) (b := (b : Int)) (by omega) (by omega)
          refine O_Model_walksOn [47] 400 (fun R cl Z hR hcl hZ => ?_)
          conv => whnf
          refine hR _ _ _ _ ?_
          refine Ok.cv rfl rfl rfl rfl rfl rfl rfl ?_
          refine (m_hours hK.2.2 (by omega) (by omega)).use (by decide) (fun r5 τ5 q5 => ?_)
          obtain ⟨rfl, rfl⟩ := q5
          refine O_Model_walksOn [55] 400 (fun R cl Z hR hcl hZ => ?_)
          conv => whnf
          refine hR _ _ _ _ ?_
          refine Ok.cv rfl rfl rfl rfl rfl rfl rfl ?_
          refine (m_hours hK.2.2 (by omega) (by omega)).use (by decide) (fun r6 τ6 q6 => ?_)
          obtain ⟨rfl, rfl⟩ := q6
          refine O_Model_walksOn [57] 400 (fun R cl Z hR hcl hZ => ?_)
          conv => whnf
          refine hR _ _ _ _ ?_
          dsimp only
          rw [oa]
          refine Ok.ald (n := 16) rfl rfl rfl (by decide) (by omega) (by omega) ?_
          refine O_Model_walksOn [62] 400 (fun R cl Z hR hcl hZ => ?_)
          conv => whnf
          refine hR _ _ _ _ ?_
          refine Ok.ast (n := 16) rfl rfl rfl (by decide) (by omega) (by omega) ?_
          exact at63 _ (hK.put _ _)
set_option maxRecDepth 20000 in
theorem wo_2 (hI0 : mI σ0 n 0 (cI σ0 2)) (gS : 0 ≤ cI σ0 2 ∧ cI σ0 2 ≤ 10) (hn : n ≤ 8) (hh : h + 1 ≤ n) :
    ∀ (N a : Nat) (τ : pm_S) (v : Value), v.category = 1 → (a : Int) + N = cI σ0 2 → K1 σ0 τ → Ok 237 6 2 [.ref 93, .int (Int32.ofInt (h : Int)), .int (Int32.ofInt (n : Int)), .int (Int32.ofInt (a : Int)), v] [] τ (qWo σ0) := by
  intro N
  induction N with
  | zero =>
    intro a τ v hv hN hK
    have e2 := hK.c2
    refine O_Model_walksOn [5] 400 (fun R cl Z hR hcl hZ => ?_)
    conv => whnf
    refine hR _ _ _ _ ?_
    rw [← oI (τ.1 93 2)]
    refine Ok.ic rfl rfl (by omega) (by omega) (ai_rng _).1 (ai_rng _).2 (fun q => ?_) (fun q => ?_)
    · refine O_Model_walksOn [] 400 (fun R cl Z hR hcl hZ => ?_)
      conv => whnf
      exact hZ _ _ ⟨rfl, hK⟩
    · exfalso
      have q : (a : Int) < cI τ 2 := q
      omega
  | succ N ih =>
    intro a τ v hv hN hK
    have e2 := hK.c2
    have at65 : ∀ (τ : pm_S) (v : Value), v.category = 1 → K1 σ0 τ → Ok 237 6 65 [.ref 93, .int (Int32.ofInt (h : Int)), .int (Int32.ofInt (n : Int)), .int (Int32.ofInt (a : Int)), v] [] τ (qWo σ0) := by
      intro τ v hv hK
      refine O_Model_walksOn [2] 400 (fun R cl Z hR hcl hZ => ?_)
      conv => whnf
      refine hR _ _ _ _ ?_
      have fin := ih (a + 1) τ v hv (by omega) hK
      rw [show ((a + 1 : Nat) : Int) = (a : Int) + 1 by omega, ← oa] at fin
      exact fin
    refine O_Model_walksOn [5] 400 (fun R cl Z hR hcl hZ => ?_)
    conv => whnf
    refine hR _ _ _ _ ?_
    rw [← oI (τ.1 93 2)]
    refine Ok.ic rfl rfl (by omega) (by omega) (ai_rng _).1 (ai_rng _).2 (fun q => ?_) (fun q => ?_)
    · exfalso
      have q : cI τ 2 ≤ (a : Int) := q
      omega
    · refine O_Model_walksOn [9] 400 (fun R cl Z hR hcl hZ => ?_)
      conv => whnf
      refine hR _ _ _ _ ?_
      refine Ok.ald (n := 16) rfl rfl rfl (by decide) (by omega) (by omega) ?_
      refine O_Model_walksOn [14] 400 (fun R cl Z hR hcl hZ => ?_)
      conv => whnf
      refine hR _ _ _ _ ?_
      refine Ok.if1 rfl rfl (fun q4 => ?_) (fun q4 => ?_)
      · refine O_Model_walksOn [18] 400 (fun R cl Z hR hcl hZ => ?_)
        conv => whnf
        refine hR _ _ _ _ ?_
        exact wo_18 hI0 gS hn hh (by omega) at65 (cI σ0 2).toNat 0 τ (by omega) hK
      · refine O_Model_walksOn [65] 400 (fun R cl Z hR hcl hZ => ?_)
        conv => whnf
        refine hR _ _ _ _ ?_
        exact at65 τ v hv hK
end WALKS
set_option maxRecDepth 20000 in
theorem m_walks {σ : pm_S} (hB : an_GB pm_B σ) {n h : Nat} (hn : n ≤ 8) (hh : h + 1 ≤ n) (hI : mI σ n 0 (cI σ 2)) : Sp 237 6 [.ref 93, .int (Int32.ofInt (h : Int)), .int (Int32.ofInt (n : Int))] σ (qWo σ) := by
  have gS : 0 ≤ cI σ 2 ∧ cI σ 2 ≤ 10 := hB 93 2 (by decide)
  refine Sp.at rfl rfl ?_
  refine O_Model_walksOn [2] 400 (fun R cl Z hR hcl hZ => ?_)
  conv => whnf
  refine hR _ _ _ _ ?_
  exact wo_2 hI gS hn hh (cI σ 2).toNat 0 σ pm_un rfl (by omega) ⟨rfl, FQ.rf _ _, hB⟩

abbrev qPl (σ0 : pm_S) : Option Value → pm_S → Prop := fun r τ => (∃ w : Int32, r = some (.int w)) ∧ K1 σ0 τ
section PLACE
variable {σ0 : pm_S} {n hr : Nat} {f : Int32}
set_option maxRecDepth 20000 in
theorem pl_2 (hn : n ≤ 8) {v5 v6 : Value} (h5 : v5.category = 1) (h6 : v6.category = 1)
    (hend : ∀ (τ : pm_S) (w : Int32), K1 σ0 τ → Ok 236 8 12 [.ref 93, .int f, .int (Int32.ofInt (n : Int)), .int (Int32.ofInt (hr : Int)), .int w, v5, v6] [] τ (qPl σ0)) :
    ∀ (N k : Nat) (τ : pm_S), k + N = n + 1 → K1 σ0 τ → Ok 236 8 2 [.ref 93, .int f, .int (Int32.ofInt (n : Int)), .int (Int32.ofInt (hr : Int)), .int (Int32.ofInt (k : Int)), v5, v6] [] τ (qPl σ0) := by
  intro N
  induction N with
  | zero =>
    intro k τ hN hK
    refine O_Model_placeIn [4] 400 (fun R cl Z hR hcl hZ => ?_)
    conv => whnf
    refine hR _ _ _ _ ?_
    refine Ok.ic rfl rfl (by omega) (by omega) (by omega) (by omega) (fun q => ?_) (fun q => ?_)
    · exact hend τ _ hK
    · exfalso
      have q : (k : Int) ≤ n := q
      omega
  | succ N ih =>
    intro k τ hN hK
    refine O_Model_placeIn [4] 400 (fun R cl Z hR hcl hZ => ?_)
    conv => whnf
    refine hR _ _ _ _ ?_
    refine Ok.ic rfl rfl (by omega) (by omega) (by omega) (by omega) (fun q => ?_) (fun q => ?_)
    · exfalso
      have q : (n : Int) < k := q
      omega
    · refine O_Model_placeIn [9] 400 (fun R cl Z hR hcl hZ => ?_)
      conv => whnf
      refine hR _ _ _ _ ?_
      refine Ok.ast (n := 16) rfl rfl rfl (by decide) (by omega) (by omega) ?_
      refine O_Model_placeIn [2] 400 (fun R cl Z hR hcl hZ => ?_)
      conv => whnf
      refine hR _ _ _ _ ?_
      have fin := ih (k + 1) _ (by omega) (hK.put ((k : Int)).toNat (pm_iv 0 0))
      rw [show ((k + 1 : Nat) : Int) = (k : Int) + 1 by omega, ← oa] at fin
      exact fin
set_option maxRecDepth 20000 in
theorem pl_70 (hn : n ≤ 8) {p : Int} {h : Nat}
    (hend : ∀ (τ : pm_S) (w : Int32), K1 σ0 τ → Ok 236 8 80 [.ref 93, .int f, .int (Int32.ofInt (n : Int)), .int (Int32.ofInt (hr : Int)), .int (Int32.ofInt p), .int (Int32.ofInt (h : Int)), .int w] [] τ (qPl σ0)) :
    ∀ (N k : Nat) (τ : pm_S), k + N = n + 1 → K1 σ0 τ → Ok 236 8 70 [.ref 93, .int f, .int (Int32.ofInt (n : Int)), .int (Int32.ofInt (hr : Int)), .int (Int32.ofInt p), .int (Int32.ofInt (h : Int)), .int (Int32.ofInt (k : Int))] [] τ (qPl σ0) := by
  intro N
  induction N with
  | zero =>
    intro k τ hN hK
    refine O_Model_placeIn [72] 400 (fun R cl Z hR hcl hZ => ?_)
    conv => whnf
    refine hR _ _ _ _ ?_
    refine Ok.ic rfl rfl (by omega) (by omega) (by omega) (by omega) (fun q => ?_) (fun q => ?_)
    · exact hend τ _ hK
    · exfalso
      have q : (k : Int) ≤ n := q
      omega
  | succ N ih =>
    intro k τ hN hK
    refine O_Model_placeIn [72] 400 (fun R cl Z hR hcl hZ => ?_)
    conv => whnf
    refine hR _ _ _ _ ?_
    refine Ok.ic rfl rfl (by omega) (by omega) (by omega) (by omega) (fun q => ?_) (fun q => ?_)
    · exfalso
      have q : (n : Int) < k := q
      omega
    · refine O_Model_placeIn [77] 400 (fun R cl Z hR hcl hZ => ?_)
      conv => whnf
      refine hR _ _ _ _ ?_
      refine Ok.ast (n := 16) rfl rfl rfl (by decide) (by omega) (by omega) ?_
      refine O_Model_placeIn [70] 400 (fun R cl Z hR hcl hZ => ?_)
      conv => whnf
      refine hR _ _ _ _ ?_
      have fin := ih (k + 1) _ (by omega) (hK.put ((k : Int)).toNat (pm_iv 0 0))
      rw [show ((k + 1 : Nat) : Int) = (k : Int) + 1 by omega, ← oa] at fin
      exact fin
set_option maxRecDepth 20000 in
theorem pl_33 (hI0 : mI σ0 n 0 (cI σ0 2)) (gS : 0 ≤ cI σ0 2 ∧ cI σ0 2 ≤ 10) (hn : n ≤ 8) {h : Nat} (hh : h + 1 ≤ n) {τ : pm_S} (hK : K1 σ0 τ)
    (hend : ∀ (p : Int) (w : Int32), 0 ≤ p ∧ p ≤ 10 → Ok 236 8 63 [.ref 93, .int f, .int (Int32.ofInt (n : Int)), .int (Int32.ofInt (hr : Int)), .int (Int32.ofInt p), .int (Int32.ofInt (h : Int)), .int w] [] τ (qPl σ0)) :
    ∀ (k : Nat) (p : Int), (k : Int) ≤ cI σ0 2 → 0 ≤ p ∧ p ≤ 10 → Ok 236 8 33 [.ref 93, .int f, .int (Int32.ofInt (n : Int)), .int (Int32.ofInt (hr : Int)), .int (Int32.ofInt p), .int (Int32.ofInt (h : Int)), .int (Int32.ofInt ((k : Int) - 1))] [] τ (qPl σ0) := by
  intro k
  induction k with
  | zero =>
    intro p hk hp
    refine O_Model_placeIn [34] 400 (fun R cl Z hR hcl hZ => ?_)
    conv => whnf
    refine hR _ _ _ _ ?_
    refine Ok.if1 rfl rfl (fun q => ?_) (fun q => ?_)
    · exact hend p _ hp
    · exfalso
      exact q (by show Int32.ofInt (((0 : Nat) : Int) - 1) < 0; decide)
  | succ k ih =>
    intro p hk hp
    rw [show (((k + 1 : Nat)) : Int) - 1 = (k : Int) by omega]
    have hI := hK.kI hI0
    have at61 : ∀ p : Int, 0 ≤ p ∧ p ≤ 10 → Ok 236 8 61 [.ref 93, .int f, .int (Int32.ofInt (n : Int)), .int (Int32.ofInt (hr : Int)), .int (Int32.ofInt p), .int (Int32.ofInt (h : Int)), .int (Int32.ofInt (k : Int))] [] τ (qPl σ0) := by
      intro p hp
      refine O_Model_placeIn [33] 400 (fun R cl Z hR hcl hZ => ?_)
      conv => whnf
      refine hR _ _ _ _ ?_
      have fin := ih p (by omega) hp
      rw [show (k : Int) - 1 = (k : Int) + (-1) by omega, ← oa] at fin
      exact fin
    refine O_Model_placeIn [34] 400 (fun R cl Z hR hcl hZ => ?_)
    conv => whnf
    refine hR _ _ _ _ ?_
    refine Ok.if1 rfl rfl (fun q => ?_) (fun q => ?_)
    · exfalso
      have q' : Int32.ofInt (k : Int) < 0 := q
      have := Int32.lt_iff_toInt_lt.mp q'
      rw [ti_of (by omega) (by omega)] at this
      have e0 : (0 : Int32).toInt = 0 := rfl
      omega
    · refine O_Model_placeIn [38] 400 (fun R cl Z hR hcl hZ => ?_)
      conv => whnf
      refine hR _ _ _ _ ?_
      refine Ok.ald (n := 16) rfl rfl rfl (by decide) (by omega) (by omega) ?_
      refine O_Model_placeIn [44] 400 (fun R cl Z hR hcl hZ => ?_)
      conv => whnf
      refine hR _ _ _ _ ?_
      refine Ok.icw rfl rfl ?_ ?_
      · exact at61 p hp
      · refine O_Model_placeIn [48] 400 (fun R cl Z hR hcl hZ => ?_)
        conv => whnf
        refine hR _ _ _ _ ?_
        refine Ok.cv rfl rfl rfl rfl rfl rfl rfl ?_
        refine (m_stand hK.2.2 hn hh (s := k) (S := cI σ0 2) (by omega) gS.2 (hI.up (by omega))).use (by decide) (fun r2 τ2 q3 => ?_)
        obtain ⟨rfl, w2, rfl, hw2⟩ := q3
        refine O_Model_placeIn [56] 400 (fun R cl Z hR hcl hZ => ?_)
        conv => whnf
        refine hR _ _ _ _ ?_
        dsimp only
        rw [o10, om, oa]
        refine Ok.lld (n := 160) rfl rfl rfl (by decide) (by omega) (by omega) ?_
        refine O_Model_placeIn [58] 400 (fun R cl Z hR hcl hZ => ?_)
        conv => whnf
        refine hR _ _ _ _ ?_
        refine Ok.if1 rfl rfl (fun q4 => ?_) (fun q4 => ?_)
        · exact at61 p hp
        · refine O_Model_placeIn [61] 400 (fun R cl Z hR hcl hZ => ?_)
          conv => whnf
          refine hR _ _ _ _ ?_
          exact at61 (k : Int) (by omega)
set_option maxRecDepth 20000 in
theorem pl_23 (hI0 : mI σ0 n 0 (cI σ0 2)) (gS : 0 ≤ cI σ0 2 ∧ cI σ0 2 ≤ 10) (hn : n ≤ 8) (hr1 : hr + 1 ≤ n) :
    ∀ (N h : Nat) (τ : pm_S) (w : Int32) (v6 : Value), v6.category = 1 → h + N = hr + 1 → K1 σ0 τ → Ok 236 8 23 [.ref 93, .int f, .int (Int32.ofInt (n : Int)), .int (Int32.ofInt (hr : Int)), .int w, .int (Int32.ofInt (h : Int)), v6] [] τ (qPl σ0) := by
  intro N
  induction N with
  | zero =>
    intro h τ w v6 h6 hN hK
    refine O_Model_placeIn [25] 400 (fun R cl Z hR hcl hZ => ?_)
    conv => whnf
    refine hR _ _ _ _ ?_
    refine Ok.ic rfl rfl (by omega) (by omega) (by omega) (by omega) (fun q => ?_) (fun q => ?_)
    · refine O_Model_placeIn [] 400 (fun R cl Z hR hcl hZ => ?_)
      conv => whnf
      exact hZ _ _ ⟨⟨w, rfl⟩, hK⟩
    · exfalso
      have q : (h : Int) ≤ hr := q
      omega
  | succ N ih =>
    intro h τ w v6 h6 hN hK
    have e2 := hK.c2
    have at94 : ∀ (τ : pm_S) (w w6 : Int32), K1 σ0 τ → Ok 236 8 94 [.ref 93, .int f, .int (Int32.ofInt (n : Int)), .int (Int32.ofInt (hr : Int)), .int w, .int (Int32.ofInt (h : Int)), .int w6] [] τ (qPl σ0) := by
      intro τ w w6 hK
      refine O_Model_placeIn [23] 400 (fun R cl Z hR hcl hZ => ?_)
      conv => whnf
      refine hR _ _ _ _ ?_
      have fin := ih (h + 1) τ w (.int w6) rfl (by omega) hK
      rw [show ((h + 1 : Nat) : Int) = (h : Int) + 1 by omega, ← oa] at fin
      exact fin
    refine O_Model_placeIn [25] 400 (fun R cl Z hR hcl hZ => ?_)
    conv => whnf
    refine hR _ _ _ _ ?_
    refine Ok.ic rfl rfl (by omega) (by omega) (by omega) (by omega) (fun q => ?_) (fun q => ?_)
    · exfalso
      have q : (hr : Int) < h := q
      omega
    · refine O_Model_placeIn [33] 400 (fun R cl Z hR hcl hZ => ?_)
      conv => whnf
      refine hR _ _ _ _ ?_
      have e2' : (τ.1 93 2).toInt = ((cI σ0 2).toNat : Int) := by
        have e3 : (τ.1 93 2).toInt = cI σ0 2 := e2
        rw [e3]
        omega
      have e : τ.1 93 2 - pm_iv 1 0 = Int32.ofInt (((cI σ0 2).toNat : Int) - 1) := by
        rw [← oI (τ.1 93 2), o1, os, e2']
      dsimp only
      rw [e, o10]
      refine pl_33 hI0 gS hn (h := h) (by omega) hK ?_ (cI σ0 2).toNat 10 (by omega) (by omega)
      intro p w6 hp
      refine O_Model_placeIn [65] 400 (fun R cl Z hR hcl hZ => ?_)
      conv => whnf
      refine hR _ _ _ _ ?_
      rw [o10]
      refine Ok.ic rfl rfl (by omega) (by omega) (by omega) (by omega) (fun q2 => ?_) (fun q2 => ?_)
      · refine O_Model_placeIn [93] 400 (fun R cl Z hR hcl hZ => ?_)
        conv => whnf
        refine hR _ _ _ _ ?_
        refine Ok.cv rfl rfl rfl rfl rfl rfl rfl ?_
        refine (m_walks hK.2.2 hn (h := h) (by omega) (by rw [e2]; exact hK.kI hI0)).use (by decide) (fun r2 τ2 q3 => ?_)
        obtain ⟨rfl, hK2⟩ := q3
        exact at94 τ2 _ _ (hK.tr hK2)
      · refine O_Model_placeIn [70] 400 (fun R cl Z hR hcl hZ => ?_)
        conv => whnf
        refine hR _ _ _ _ ?_
        dsimp only
        rw [o1, oa]
        have fin := pl_70 (σ0 := σ0) (n := n) (hr := hr) (f := f) hn (p := p) (h := h) ?_ (n - h) (h + 1) τ (by omega) hK
        · rw [show ((h + 1 : Nat) : Int) = (h : Int) + 1 by omega] at fin
          exact fin
        · intro τ3 w3 hK3
          refine O_Model_placeIn [88] 400 (fun R cl Z hR hcl hZ => ?_)
          conv => whnf
          refine hR _ _ _ _ ?_
          dsimp only
          rw [o1, oa]
          refine Ok.ast (n := 16) rfl rfl rfl (by decide) (by omega) (by omega) ?_
          refine O_Model_placeIn [94] 400 (fun R cl Z hR hcl hZ => ?_)
          conv => whnf
          refine hR _ _ _ _ ?_
          exact at94 _ _ _ (hK3.put _ _)
end PLACE
set_option maxRecDepth 20000 in
theorem m_place {σ : pm_S} (hB : an_GB pm_B σ) {n hr : Nat} {f : Int32} (hn : n ≤ 8) (hr1 : hr + 1 ≤ n) (hI : mI σ n 0 (cI σ 2)) : Sp 236 8 [.ref 93, .int f, .int (Int32.ofInt (n : Int)), .int (Int32.ofInt (hr : Int))] σ (qPl σ) := by
  have gS : 0 ≤ cI σ 2 ∧ cI σ 2 ≤ 10 := hB 93 2 (by decide)
  refine Sp.at rfl rfl ?_
  refine O_Model_placeIn [2] 400 (fun R cl Z hR hcl hZ => ?_)
  conv => whnf
  refine hR _ _ _ _ ?_
  refine pl_2 (σ0 := σ) hn (v5 := pm_un) (v6 := pm_un) rfl rfl ?_ (n + 1) 0 σ (by omega) ⟨rfl, FQ.rf _ _, hB⟩
  intro τ w hK
  refine O_Model_placeIn [18] 400 (fun R cl Z hR hcl hZ => ?_)
  conv => whnf
  refine hR _ _ _ _ ?_
  rw [o0]
  refine Ok.ast (n := 16) rfl rfl rfl (by decide) (by omega) (by omega) ?_
  refine O_Model_placeIn [23] 400 (fun R cl Z hR hcl hZ => ?_)
  conv => whnf
  refine hR _ _ _ _ ?_
  exact pl_23 hI gS hn hr1 (hr + 1) 0 _ _ pm_un rfl (by omega) (hK.put _ _)
