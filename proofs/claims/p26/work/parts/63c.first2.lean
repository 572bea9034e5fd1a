/-! first: its walks -/
theorem ii_ok {σ : pm_S} (hB : an_GB pm_B σ) (v l h : Int) (hv : (-2147483648) ≤ v ∧ v ≤ 2147483647) (hl : (-2147483648) ≤ l ∧ l ≤ 2147483647) (hh : (-2147483648) ≤ h ∧ h ≤ 2147483647) : Sp 159 3 [.ref 93, .int (Int32.ofInt v), .int (Int32.ofInt l), .int (Int32.ofInt h)] σ (fun r τ => an_GB pm_B τ ∧ FQ [] σ τ ∧ (r = some (.int (Int32.ofInt 0)) ∨ (r = some (.int (Int32.ofInt 1)) ∧ l ≤ v ∧ v ≤ h))) := by
  refine Sp.at rfl rfl ?_
  refine sg_ii0 v l h hB ⟨hv, hl, hh, trivial⟩ ?_
  intro τ y hB1 hF1 _ _ _ _
  refine Ok.ic rfl rfl hv.1 hv.2 hl.1 hl.2 (fun q => ?_) (fun q => ?_)
  · refine sg_ii8 _ _ _ rfl rfl rfl hB1 ?_
    intro τ2 y2 hB2 hF2 _ _ _ _
    exact ⟨hB2, FQ.tr hF1 hF2, Or.inl rfl⟩
  · have q : l ≤ v := q
    refine sg_ii3 v l h hB1 ⟨hv, hl, hh, trivial⟩ ?_
    intro τ2 y2 hB2 hF2 _ _ _ _
    refine Ok.ic rfl rfl hv.1 hv.2 hh.1 hh.2 (fun q2 => ?_) (fun q2 => ?_)
    · refine sg_ii8 _ _ _ rfl rfl rfl hB2 ?_
      intro τ3 y3 hB3 hF3 _ _ _ _
      exact ⟨hB3, (FQ.tr hF1 hF2).tr hF3, Or.inl rfl⟩
    · have q2 : v ≤ h := q2
      refine sg_ii6 _ _ _ rfl rfl rfl hB2 ?_
      intro τ3 y3 hB3 hF3 _ _ _ _
      exact ⟨hB3, (FQ.tr hF1 hF2).tr hF3, Or.inr ⟨rfl, q, q2⟩⟩
abbrev qFi (σ0 : pm_S) : Option Value → pm_S → Prop := fun r τ => (∃ v : Int32, r = some (.int v)) ∧ an_GB pm_B τ ∧ FQ FFi σ0 τ
section FIR
variable {σ0 : pm_S} {n : Nat} {what : Int}
/-- the first that costs least -/
theorem fi_106 (h55 : cI σ0 55 = (n : Int)) (hn : n ≤ 8) (hw : 10 ≤ what ∧ what ≤ 17) {left i0 k : Nat} (hl : 1 ≤ left ∧ left < 256) (hoc : ocI left ≤ n) (hi0 : i0 < n) (hb : btI left i0 = 1) (hk : k ≤ 7) (he : cwF σ0 left i0 = kC σ0 left) {Q : Option Value → pm_S → Prop}
    (hend : ∀ (σ : pm_S) (i : Nat) (v : Value), v.category = 1 → an_GB pm_B σ → FQ [] σ0 σ → i < n → btI left i = 1 → Ok 223 31 126 [.ref 93, v, .int (Int32.ofInt what), .int (Int32.ofInt (left : Int)), .int (Int32.ofInt (i : Int)), .int (Int32.ofInt (k : Int))] [] σ Q) :
    ∀ (N i : Nat) (σ : pm_S) (v : Value), v.category = 1 → i + N = i0 → an_GB pm_B σ → FQ [] σ0 σ → Ok 223 31 106 [.ref 93, v, .int (Int32.ofInt what), .int (Int32.ofInt (left : Int)), .int (Int32.ofInt (i : Int)), .int (Int32.ofInt (k : Int))] [] σ Q := by
  intro N
  induction N with
  | zero =>
    intro i σ v hv hN hB hF
    have ei : i = i0 := by omega
    refine sg_fi106 what left i k v hv hB ⟨hw, by omega, by omega, by omega, trivial⟩ ?_ ?_
    · intro τ y v1 hv1 hB1 hF1 f _ dd _
      exfalso
      have : btI left i = y 5 := by unfold btI; rw [dd.1, dd.2.1]
      rw [ei] at this
      omega
    · intro τ y v1 hv1 hB1 hF1 f _ dd _
      have F1 := hF.tr hF1
      refine Ok.cv rfl rfl rfl rfl rfl rfl rfl ?_
      refine (m_costWith hB1 (s := left) (i := i) (by omega) (by omega) (by rw [F1.c 55 rfl]; omega) (by rw [F1.c 55 rfl]; omega)).use (by decide) (fun r2 τ2 q2 => ?_)
      obtain ⟨rfl, hB2, hF2⟩ := q2
      have F2 := F1.tr hF2
      refine sg_fi116 what left i k (cwF τ left i) v1 hv1 hB2 ⟨hw, by omega, by omega, by omega, ai_rng _, trivial⟩ ?_
      intro τ3 y3 v3 hv3 hB3 hF3 f3 _ _ c3
      have F3 := F2.tr hF3
      have e5 : y3 5 = kC σ0 left := by rw [← c3.1, F3 128 _ rfl]
      have ew : cwF τ left i = cwF σ0 left i := cwF_e (FQ.e1 F1) _ _
      refine Ok.ic rfl rfl (ai_rng _).1 (ai_rng _).2 (by omega) (by omega) (fun h => ?_) (fun h => ?_)
      · exact hend τ3 i v3 hv3 hB3 F3 (by omega) (by rw [ei]; exact hb)
      · exfalso
        have h : cwF τ left i ≠ y3 5 := h
        rw [ew, e5, ei] at h
        exact h he
  | succ N ih =>
    intro i σ v hv hN hB hF
    have next : ∀ (τ : pm_S) (v1 : Value), v1.category = 1 → an_GB pm_B τ → FQ [] σ0 τ → Ok 223 31 121 [.ref 93, v1, .int (Int32.ofInt what), .int (Int32.ofInt (left : Int)), .int (Int32.ofInt (i : Int)), .int (Int32.ofInt (k : Int))] [] τ Q := by
      intro τ v1 hv1 hB1 F1
      refine sg_fi121 what left i k v1 hv1 hB1 ⟨hw, by omega, by omega, by omega, trivial⟩ ?_
      intro τ2 y2 v2 hv2 hB2 hF2 _ _ _ _
      exact ih (i + 1) τ2 v2 hv2 (by omega) hB2 (F1.tr hF2)
    refine sg_fi106 what left i k v hv hB ⟨hw, by omega, by omega, by omega, trivial⟩ ?_ ?_
    · intro τ y v1 hv1 hB1 hF1 f _ dd _
      exact next τ v1 hv1 hB1 (hF.tr hF1)
    · intro τ y v1 hv1 hB1 hF1 f _ dd _
      have F1 := hF.tr hF1
      have hbi : btI left i = 1 := by
        have : btI left i = y 5 := by unfold btI; rw [dd.1, dd.2.1]
        omega
      refine Ok.cv rfl rfl rfl rfl rfl rfl rfl ?_
      refine (m_costWith hB1 (s := left) (i := i) (by omega) (by omega) (by rw [F1.c 55 rfl]; omega) (by rw [F1.c 55 rfl]; omega)).use (by decide) (fun r2 τ2 q2 => ?_)
      obtain ⟨rfl, hB2, hF2⟩ := q2
      have F2 := F1.tr hF2
      refine sg_fi116 what left i k (cwF τ left i) v1 hv1 hB2 ⟨hw, by omega, by omega, by omega, ai_rng _, trivial⟩ ?_
      intro τ3 y3 v3 hv3 hB3 hF3 f3 _ _ c3
      have F3 := F2.tr hF3
      refine Ok.ic rfl rfl (ai_rng _).1 (ai_rng _).2 (by omega) (by omega) (fun h => ?_) (fun h => ?_)
      · exact hend τ3 i v3 hv3 hB3 F3 (by omega) hbi
      · exact next τ3 v3 hv3 hB3 F3
theorem fi_99 (h55 : cI σ0 55 = (n : Int)) (hn : n ≤ 8) (hw : 10 ≤ what ∧ what ≤ 9 + n) (hI : cwJ σ0 n (2 ^ n)) {Q : Option Value → pm_S → Prop} (hQ : ∀ (v : Int32) (τ : pm_S), an_GB pm_B τ → FQ [] σ0 τ → Q (some (.int v)) τ) : ∀ (N k left i : Nat) (σ : pm_S) (v : Value), v.category = 1 → k + N = n → left < 2 ^ n → ocI left = (n : Int) - k → i < 8 → an_GB pm_B σ → FQ [] σ0 σ → Ok 223 31 99 [.ref 93, v, .int (Int32.ofInt what), .int (Int32.ofInt (left : Int)), .int (Int32.ofInt (i : Int)), .int (Int32.ofInt (k : Int))] [] σ Q := by
  have h2 := oc_n n (by omega)
  have out : ∀ (σ : pm_S) (v : Value) (k left i : Nat), v.category = 1 → i < 8 → an_GB pm_B σ → FQ [] σ0 σ → Ok 223 31 136 [.ref 93, v, .int (Int32.ofInt what), .int (Int32.ofInt (left : Int)), .int (Int32.ofInt (i : Int)), .int (Int32.ofInt (k : Int))] [] σ Q := by
    intro σ v k left i hv hi hB hF
    refine sg_fi136 i _ _ _ _ hv rfl rfl rfl hB ⟨by omega, trivial⟩ ?_
    intro τ y hB1 hF1 _ _ _ _
    exact hQ _ τ hB1 (hF.tr hF1)
  intro N
  induction N with
  | zero =>
    intro k left i σ v hv hN hl hoc hi hB hF
    refine sg_fi99 what left i k v hv hB ⟨by omega, by omega, by omega, by omega, trivial⟩ ?_
    intro τ y v1 hv1 hB1 hF1 _ _ _ _
    refine Ok.ic rfl rfl (by omega) (by omega) (by omega) (by omega) (fun h => ?_) (fun h => ?_)
    · exact out τ v1 k left i hv1 hi hB1 (hF.tr hF1)
    · exfalso
      have h : (k : Int) ≤ what + (-10) := h
      omega
  | succ N ih =>
    intro k left i σ v hv hN hl hoc hi hB hF
    refine sg_fi99 what left i k v hv hB ⟨by omega, by omega, by omega, by omega, trivial⟩ ?_
    intro τ y v1 hv1 hB1 hF1 _ _ _ _
    refine Ok.ic rfl rfl (by omega) (by omega) (by omega) (by omega) (fun h => ?_) (fun h => ?_)
    · exact out τ v1 k left i hv1 hi hB1 (hF.tr hF1)
    · have o0 := oc_f left (by omega)
      have l1 : 1 ≤ left := by
        by_cases z : left = 0
        · have := o0.2.2.1 z
          omega
        · omega
      refine sg_fi104 what left k v1 _ hv1 rfl hB1 ⟨by omega, by omega, by omega, trivial⟩ ?_
      intro τ2 y2 v2 hv2 hB2 hF2 _ _ _ _
      have F2 : FQ [] σ0 τ2 := (hF.tr hF1).tr hF2
      obtain ⟨i0, hi0, hb0, he0⟩ := (hI.2 left l1 hl).2
      refine fi_106 (σ0 := σ0) h55 hn (by omega) (left := left) (i0 := i0) (k := k) (by omega) (by omega) hi0 hb0 (by omega) he0 ?_ i0 0 τ2 v2 hv2 (by omega) hB2 F2
      intro σ3 j v3 hv3 hB3 hF3 hj hbj
      have sbj := sb_f left (by omega) j (by omega)
      have sb2 := sbj.2 hbj
      refine sg_fi126 what left j k v3 hv3 hB3 ⟨by omega, by omega, by omega, by omega, trivial⟩ ?_
      intro τ4 y4 v4 hv4 hB4 hF4 f4 _ d4 _
      have e6 : y4 6 = (((sbI left j).toNat : Nat) : Int) := by
        have : y4 6 = sbI left j := by unfold sbI; rw [d4.1, d4.2.1, d4.2.2.1]
        omega
      rw [e6]
      have := ih (k + 1) (sbI left j).toNat j τ4 v4 hv4 (by omega) (by omega) (by rw [show (((sbI left j).toNat : Nat) : Int) = sbI left j by omega]; omega) (by omega) hB4 (hF3.tr hF4)
      exact this
/-- the least of a set -/
theorem fi_49 (h55 : cI σ0 55 = (n : Int)) (hn : n ≤ 8) {T : Nat} (hT : 1 ≤ T ∧ T < 2 ^ n) (hwr : (-2147483648) ≤ what ∧ what ≤ 2147483647) {Q : Option Value → pm_S → Prop}
    (hend : ∀ (σ : pm_S) (v w z : Value), v.category = 1 → w.category = 1 → z.category = 1 → an_GB pm_B σ → FQ FFi σ0 σ → cwJ σ n (T + 1) → Ok 223 31 79 [.ref 93, v, .int (Int32.ofInt what), .int (Int32.ofInt (T : Int)), w, z] [] σ Q) :
    ∀ (N i : Nat) (σ : pm_S) (v z : Value), v.category = 1 → z.category = 1 → i + N = n → an_GB pm_B σ → FQ FFi σ0 σ → cwJ σ n T → ((kC σ T = 1000000000 ∧ ∀ j : Nat, j < i → btI T j ≠ 1) ∨ ((0 ≤ kC σ T ∧ kC σ T ≤ 12800000 * ocI T) ∧ ∃ j : Nat, j < i ∧ btI T j = 1 ∧ cwF σ T j = kC σ T)) → Ok 223 31 49 [.ref 93, v, .int (Int32.ofInt what), .int (Int32.ofInt (T : Int)), .int (Int32.ofInt (i : Int)), z] [] σ Q := by
  have h2 := oc_n n (by omega)
  have hT2 : T < 256 := by omega
  have ol := oc_le n (by omega) T hT2 hT.2
  have o0 := oc_f T hT2
  have ixT : ((T : Int)).toNat = T := by omega
  intro N
  induction N with
  | zero =>
    intro i σ v z hv hz hN hB hF hI hc
    have e55 : cI σ 55 = n := (hF.c 55 rfl).trans h55
    refine sg_fi49 what T i (cI σ 55) v z hv hz hB ⟨hwr, by omega, by omega, by omega, trivial⟩ ⟨rfl, trivial⟩ ?_
    intro τ y v1 z1 hv1 hz1 hB1 hF1 _ _ _ _
    have E := FQ.e1 hF1
    refine Ok.ic rfl rfl (by omega) (by omega) (by omega) (by omega) (fun h => ?_) (fun h => ?_)
    · refine hend τ v1 _ z1 hv1 rfl hz1 hB1 (hF.tr (FQ.up (G := []) rfl hF1)) ?_
      have K : ∀ t, kC τ t = kC σ t := fun t => by show (τ.1 128 _).toInt = _; rw [E]
      refine ⟨by rw [K]; exact hI.1, fun t t1 t2 => ?_⟩
      rw [K]
      by_cases e : t = T
      · rw [e]
        rcases hc with ⟨-, hno⟩ | ⟨hb, j, hj, hbj, hcj⟩
        · exfalso
          obtain ⟨j, hj, hbj⟩ := ol.2.2 hT.1
          exact hno j (by omega) hbj
        · exact ⟨hb, j, by omega, hbj, by rw [cwF_e E]; exact hcj⟩
      · obtain ⟨a1, j, a2, a3, a4⟩ := hI.2 t t1 (by omega)
        exact ⟨a1, j, a2, a3, by rw [cwF_e E]; exact a4⟩
    · exfalso
      have h : (i : Int) < cI σ 55 := h
      omega
  | succ N ih =>
    intro i σ v z hv hz hN hB hF hI hc
    have e55 : cI σ 55 = n := (hF.c 55 rfl).trans h55
    refine sg_fi49 what T i (cI σ 55) v z hv hz hB ⟨hwr, by omega, by omega, by omega, trivial⟩ ⟨rfl, trivial⟩ ?_
    intro τ y v1 z1 hv1 hz1 hB1 hF1 _ _ _ _
    refine Ok.ic rfl rfl (by omega) (by omega) (by omega) (by omega) (fun h => ?_) (fun h => ?_)
    · exfalso
      have h : cI σ 55 ≤ (i : Int) := h
      omega
    · -- where it goes on
      have next : ∀ (τ : pm_S) (v1 z1 : Value), v1.category = 1 → z1.category = 1 → an_GB pm_B τ → FQ FFi σ0 τ → cwJ τ n T → ((kC τ T = 1000000000 ∧ ∀ j : Nat, j < i + 1 → btI T j ≠ 1) ∨ ((0 ≤ kC τ T ∧ kC τ T ≤ 12800000 * ocI T) ∧ ∃ j : Nat, j < i + 1 ∧ btI T j = 1 ∧ cwF τ T j = kC τ T)) → Ok 223 31 77 [.ref 93, v1, .int (Int32.ofInt what), .int (Int32.ofInt (T : Int)), .int (Int32.ofInt (i : Int)), z1] [] τ Q := by
        intro τ v1 z1 hv1 hz1 hB1 F1 hI1 hc1
        refine sg_fi77 what T i v1 z1 hv1 hz1 hB1 ⟨hwr, by omega, by omega, trivial⟩ ?_
        intro τ2 y2 v2 z2 hv2 hz2 hB2 hF2 _ _ _ _
        have E := FQ.e1 hF2
        have K : ∀ t, kC τ2 t = kC τ t := fun t => by show (τ2.1 128 _).toInt = _; rw [E]
        refine ih (i + 1) τ2 v2 z2 hv2 hz2 (by omega) hB2 (F1.tr (FQ.up (G := []) rfl hF2)) ⟨by rw [K]; exact hI1.1, fun t t1 t2 => ?_⟩ ?_
        · obtain ⟨a1, j, a2, a3, a4⟩ := hI1.2 t t1 t2
          rw [K]
          exact ⟨a1, j, a2, a3, by rw [cwF_e E]; exact a4⟩
        · rw [K]
          rcases hc1 with hc1 | ⟨hb, j, hj, hbj, hcj⟩
          · exact Or.inl hc1
          · exact Or.inr ⟨hb, j, hj, hbj, by rw [cwF_e E]; exact hcj⟩
      -- nothing is changed so far
      have tr : ∀ τ : pm_S, τ.1 = σ.1 → cwJ τ n T := fun τ E => by
        have K : ∀ t, kC τ t = kC σ t := fun t => by show (τ.1 128 _).toInt = _; rw [E]
        refine ⟨by rw [K]; exact hI.1, fun t t1 t2 => ?_⟩
        obtain ⟨a1, j, a2, a3, a4⟩ := hI.2 t t1 t2
        rw [K]
        exact ⟨a1, j, a2, a3, by rw [cwF_e E]; exact a4⟩
      refine sg_fi53 what T i v1 z1 hv1 hz1 hB1 ⟨hwr, by omega, by omega, trivial⟩ ?_ ?_
      · intro τ2 y2 v2 z2 hv2 hz2 hB2 hF2 f2 _ d2 _
        have E : τ2.1 = σ.1 := FQ.e1 (FQ.tr hF1 hF2)
        have hbi : btI T i = 0 := by
          have : btI T i = y2 4 := by unfold btI; rw [d2.1, d2.2.1]
          omega
        have K : kC τ2 T = kC σ T := by show (τ2.1 128 _).toInt = _; rw [E]
        refine next τ2 v2 z2 hv2 hz2 hB2 (hF.tr (FQ.up (G := []) rfl (FQ.tr hF1 hF2))) (tr τ2 E) ?_
        rw [K]
        rcases hc with ⟨h1, hno⟩ | ⟨hb, j, hj, hbj, hcj⟩
        · refine Or.inl ⟨h1, fun j hj => ?_⟩
          by_cases e : j = i
          · rw [e]; omega
          · exact hno j (by omega)
        · exact Or.inr ⟨hb, j, by omega, hbj, by rw [cwF_e E]; exact hcj⟩
      · intro τ2 y2 v2 z2 hv2 hz2 hB2 hF2 f2 _ d2 _
        have E : τ2.1 = σ.1 := FQ.e1 (FQ.tr hF1 hF2)
        have F2 : FQ FFi σ0 τ2 := hF.tr (FQ.up (G := []) rfl (FQ.tr hF1 hF2))
        have hbi : btI T i = 1 := by
          have : btI T i = y2 4 := by unfold btI; rw [d2.1, d2.2.1]
          omega
        have e55' : cI τ2 55 = n := (F2.c 55 rfl).trans h55
        refine Ok.cv rfl rfl rfl rfl rfl rfl rfl ?_
        refine (m_costWith hB2 (s := T) (i := i) hT2 (by omega) (by omega) (by omega)).use (by decide) (fun r3 τ3 q3 => ?_)
        obtain ⟨rfl, hB3, hF3⟩ := q3
        refine sg_fi64 what T i (cwF τ2 T i) v2 z2 hv2 hz2 hB3 ⟨hwr, by omega, by omega, ai_rng _, trivial⟩ ?_
        intro τ4 y4 v4 z4 hv4 hz4 hB4 hF4 f4 _ _ c4
        have E4 : τ4.1 = σ.1 := (FQ.e1 (FQ.tr hF3 hF4)).trans E
        have F4 : FQ FFi σ0 τ4 := F2.tr (FQ.up (G := []) rfl (FQ.tr hF3 hF4))
        have K4 : y4 4 = kC σ T := by rw [← c4.1, E4]
        have cw2 : cwF τ2 T i = cwF σ T i := cwF_e E _ _
        have bnd := cwF_b hB e55 hn hT2 hT.1 hI (i := i) (by omega) hbi (by omega)
        refine Ok.ic rfl rfl (ai_rng _).1 (ai_rng _).2 (by omega) (by omega) (fun h5 => ?_) (fun h5 => ?_)
        · have h5 : y4 4 ≤ cwF τ2 T i := h5
          have K : kC τ4 T = kC σ T := by show (τ4.1 128 _).toInt = _; rw [E4]
          refine next τ4 v4 z4 hv4 hz4 hB4 F4 (tr τ4 E4) ?_
          rw [K]
          rcases hc with ⟨h1, hno⟩ | ⟨hb, j, hj, hbj, hcj⟩
          · exfalso; omega
          · exact Or.inr ⟨hb, j, by omega, hbj, by rw [cwF_e E4]; exact hcj⟩
        · refine sg_fi69 what T i v4 z4 hv4 hz4 hB4 ⟨hwr, by omega, by omega, trivial⟩ ?_
          intro τ5 y5 v5 z5 hv5 hz5 hB5 hF5 _ _ _ _
          have E5 : τ5.1 = σ.1 := (FQ.e1 hF5).trans E4
          have F5 : FQ FFi σ0 τ5 := F4.tr (FQ.up (G := []) rfl hF5)
          have e555 : cI τ5 55 = n := (F5.c 55 rfl).trans h55
          refine Ok.cv rfl rfl rfl rfl rfl rfl rfl ?_
          refine (m_costWith hB5 (s := T) (i := i) hT2 (by omega) (by omega) (by omega)).use (by decide) (fun r6 τ6 q6 => ?_)
          obtain ⟨rfl, hB6, hF6⟩ := q6
          have E6 : τ6.1 = σ.1 := (FQ.e1 hF6).trans E5
          refine Ok.ast (n := 256) rfl rfl rfl (by decide) (by omega) (by omega) ?_
          have cw5 : cwF τ5 T i = cwF σ T i := cwF_e E5 _ _
          rw [cw5, ixT]
          have hB7 : an_GB pm_B (put τ6 128 T (Int32.ofInt (cwF σ T i))) := put_GB hB6 (ai_rng _)
          have cv : (Int32.ofInt (cwF σ T i)).toInt = cwF σ T i := ti_of (by omega) (by omega)
          have K7 : kC (put τ6 128 T (Int32.ofInt (cwF σ T i))) T = cwF σ T i := by
            show ((put τ6 128 T _).1 128 ((T : Int)).toNat).toInt = _
            rw [ixT, put_eq, cv]
          have K7' : ∀ t : Int, t.toNat ≠ T → kC (put τ6 128 T (Int32.ofInt (cwF σ T i))) t = kC σ t := fun t ht => by
            show ((put τ6 128 T _).1 128 t.toNat).toInt = _
            rw [put_nj ht, E6]
          have W7 : ∀ t j : Nat, t ≤ T → j < 8 → btI t j = 1 → cwF (put τ6 128 T (Int32.ofInt (cwF σ T i))) t j = cwF σ t j := fun t j ht hj hb => by
            rw [cwF_p (by omega) hj ht hb, cwF_e E6]
          refine next _ v5 z5 hv5 hz5 hB7 ((F5.tr (FQ.up (G := []) rfl hF6)).tr (FQ.put rfl)) ⟨?_, fun t t1 t2 => ?_⟩ ?_
          · rw [K7' 0 (by show (0 : Nat) ≠ T; omega)]; exact hI.1
          · obtain ⟨a1, j, a2, a3, a4⟩ := hI.2 t t1 t2
            rw [K7' t (by omega)]
            exact ⟨a1, j, a2, a3, by rw [W7 t j (by omega) (by omega) a3]; exact a4⟩
          · rw [K7]
            exact Or.inr ⟨bnd, i, by omega, hbi, W7 T i (Nat.le_refl _) (by omega) hbi⟩
theorem fi_36 (h55 : cI σ0 55 = (n : Int)) (hn : n ≤ 8) (hwr : what = 0 ∨ (10 ≤ what ∧ what ≤ 9 + n)) : ∀ (N T : Nat) (σ : pm_S) (v w z : Value), v.category = 1 → w.category = 1 → z.category = 1 → T + N = 2 ^ n → 1 ≤ T → an_GB pm_B σ → FQ FFi σ0 σ → cwJ σ n T → Ok 223 31 36 [.ref 93, v, .int (Int32.ofInt what), .int (Int32.ofInt (T : Int)), w, z] [] σ (qFi σ0) := by
  have h2 := oc_n n (by omega)
  intro N
  induction N with
  | zero =>
    intro T σ v w z hv hw hz hN hT1 hB hF hI
    have e55 : cI σ 55 = n := (hF.c 55 rfl).trans h55
    refine sg_fi36 what T (cI σ 55) v w z hv hw hz hB ⟨by omega, by omega, by omega, trivial⟩ ⟨rfl, trivial⟩ ?_
    intro τ y v1 w1 z1 hv1 hw1 hz1 hB1 hF1 f1 _ d1 _
    have F1 : FQ FFi σ0 τ := hF.tr (FQ.up (G := []) rfl hF1)
    have e3 : y 3 = ((2 ^ n : Nat) : Int) := by rw [← d1.1, e55]; exact h2.1
    refine Ok.ic rfl rfl (by omega) (by omega) (by omega) (by omega) (fun h => ?_) (fun h => ?_)
    · have e551 : cI τ 55 = n := (F1.c 55 rfl).trans h55
      refine sg_fi81 what (cI τ 55) v1 _ w1 z1 hv1 rfl hw1 hz1 hB1 ⟨by omega, by omega, trivial⟩ ⟨rfl, trivial⟩ ?_ ?_
      · intro τ2 y2 v2 hv2 hB2 hF2 f2 r2 d2 _
        have e2 : y2 2 = ((2 ^ n : Nat) : Int) := by rw [← d2.1, e551]; exact h2.1
        have hw10 : 10 ≤ what ∧ what ≤ 9 + n := by
          rcases hwr with h0 | h0
          · exact absurd h0 r2.1
          · exact h0
        have E2 : τ2.1 = σ.1 := FQ.e1 (FQ.tr hF1 hF2)
        have K : ∀ t, kC τ2 t = kC σ t := fun t => by show (τ2.1 128 _).toInt = _; rw [E2]
        have hI2 : cwJ τ2 n (2 ^ n) := by
          refine ⟨by rw [K]; exact hI.1, fun t t1 t2 => ?_⟩
          obtain ⟨a1, j, a2, a3, a4⟩ := hI.2 t t1 (by omega)
          rw [K]
          exact ⟨a1, j, a2, a3, by rw [cwF_e E2]; exact a4⟩
        have F2 : FQ FFi σ0 τ2 := F1.tr (FQ.up (G := []) rfl hF2)
        have el : y2 2 + (-1) = (((2 ^ n - 1 : Nat)) : Int) := by omega
        rw [el]
        have := fi_99 (σ0 := τ2) (n := n) (what := what) ((F2.c 55 rfl).trans h55) hn hw10 hI2 (Q := qFi σ0) (fun v τ h1 h2 => ⟨⟨v, rfl⟩, h1, F2.tr (FQ.up (G := []) rfl h2)⟩) n 0 (2 ^ n - 1) 0 τ2 v2 hv2 (by omega) (by omega) (by rw [show (((2 ^ n - 1 : Nat)) : Int) = ((2 ^ n : Nat) : Int) + (-1) by omega, h2.2.2.2]; omega) (by omega) hB2 (FQ.rf _ _)
        exact this
      · intro τ2 y2 hB2 hF2 _ _ _ _
        exact ⟨⟨_, rfl⟩, hB2, F1.tr (FQ.up (G := []) rfl hF2)⟩
    · exfalso
      have h : (T : Int) < y 3 := h
      omega
  | succ N ih =>
    intro T σ v w z hv hw hz hN hT1 hB hF hI
    have e55 : cI σ 55 = n := (hF.c 55 rfl).trans h55
    refine sg_fi36 what T (cI σ 55) v w z hv hw hz hB ⟨by omega, by omega, by omega, trivial⟩ ⟨rfl, trivial⟩ ?_
    intro τ y v1 w1 z1 hv1 hw1 hz1 hB1 hF1 f1 _ d1 _
    have F1 : FQ FFi σ0 τ := hF.tr (FQ.up (G := []) rfl hF1)
    have e3 : y 3 = ((2 ^ n : Nat) : Int) := by rw [← d1.1, e55]; exact h2.1
    have ixT : ((T : Int)).toNat = T := by omega
    refine Ok.ic rfl rfl (by omega) (by omega) (by omega) (by omega) (fun h => ?_) (fun h => ?_)
    · exfalso
      have h : y 3 ≤ (T : Int) := h
      omega
    · refine sg_fi42 what T v1 w1 z1 hv1 hw1 hz1 hB1 ⟨by omega, by omega, trivial⟩ ?_
      intro τ2 y2 v2 w2 z2 hv2 hw2 hz2 hB2 hF2 _ _ _ _
      have E2 : τ2.1 = σ.1 := FQ.e1 (FQ.tr hF1 hF2)
      refine Ok.ast (n := 256) rfl rfl rfl (by decide) (by omega) (by omega) ?_
      rw [ixT]
      have hB3 : an_GB pm_B (put τ2 128 T (Int32.ofInt 1000000000)) := put_GB hB2 (ai_rng _)
      have F3 : FQ FFi σ0 (put τ2 128 T (Int32.ofInt 1000000000)) := (F1.tr (FQ.up (G := []) rfl hF2)).tr (FQ.put rfl)
      have K3 : kC (put τ2 128 T (Int32.ofInt 1000000000)) T = 1000000000 := by
        show ((put τ2 128 T _).1 128 ((T : Int)).toNat).toInt = _
        rw [ixT, put_eq]
        decide
      have I3 : cwJ (put τ2 128 T (Int32.ofInt 1000000000)) n T := by
        have K7' : ∀ t : Int, t.toNat ≠ T → kC (put τ2 128 T (Int32.ofInt 1000000000)) t = kC σ t := fun t ht => by
          show ((put τ2 128 T _).1 128 t.toNat).toInt = _
          rw [put_nj ht, E2]
        refine ⟨by rw [K7' 0 (by show (0 : Nat) ≠ T; omega)]; exact hI.1, fun t t1 t2 => ?_⟩
        obtain ⟨a1, j, a2, a3, a4⟩ := hI.2 t t1 t2
        rw [K7' t (by omega)]
        exact ⟨a1, j, a2, a3, by rw [cwF_p (by omega) (by omega) (by omega) a3, cwF_e E2]; exact a4⟩
      generalize put τ2 128 T (Int32.ofInt 1000000000) = σ3 at hB3 F3 K3 I3
      refine sg_fi47 what T v2 w2 z2 hv2 hw2 hz2 hB3 ⟨by omega, by omega, trivial⟩ ?_
      intro τ4 y4 v4 z4 hv4 hz4 hB4 hF4 _ _ _ _
      have E4 : τ4.1 = σ3.1 := FQ.e1 hF4
      have K4 : ∀ t, kC τ4 t = kC σ3 t := fun t => by show (τ4.1 128 _).toInt = _; rw [E4]
      have I4 : cwJ τ4 n T := by
        refine ⟨by rw [K4]; exact I3.1, fun t t1 t2 => ?_⟩
        obtain ⟨a1, j, a2, a3, a4⟩ := I3.2 t t1 t2
        rw [K4]
        exact ⟨a1, j, a2, a3, by rw [cwF_e E4]; exact a4⟩
      refine fi_49 (σ0 := σ0) (what := what) h55 hn (T := T) (by omega) (by omega) ?_ n 0 τ4 v4 z4 hv4 hz4 (by omega) hB4 (F3.tr (FQ.up (G := []) rfl hF4)) I4 (Or.inl ⟨by rw [K4]; exact K3, fun j hj => absurd hj (by omega)⟩)
      intro σ5 v5 w5 z5 hv5 hw5 hz5 hB5 F5 I5
      refine sg_fi79 what T v5 w5 z5 hv5 hw5 hz5 hB5 ⟨by omega, by omega, trivial⟩ ?_
      intro τ6 y6 v6 w6 z6 hv6 hw6 hz6 hB6 hF6 _ _ _ _
      have E6 : τ6.1 = σ5.1 := FQ.e1 hF6
      have K6 : ∀ t, kC τ6 t = kC σ5 t := fun t => by show (τ6.1 128 _).toInt = _; rw [E6]
      refine ih (T + 1) τ6 v6 w6 z6 hv6 hw6 hz6 (by omega) (by omega) hB6 (F5.tr (FQ.up (G := []) rfl hF6)) ⟨by rw [K6]; exact I5.1, fun t t1 t2 => ?_⟩
      obtain ⟨a1, j, a2, a3, a4⟩ := I5.2 t t1 t2
      rw [K6]
      exact ⟨a1, j, a2, a3, by rw [cwF_e E6]; exact a4⟩
end FIR
abbrev FFf : List (Nat × Nat) := [(93, 0), (93, 55), (125, 9999), (128, 9999)]
theorem m_first {σ : pm_S} (hB : an_GB pm_B σ) (p what : Int) (hp : (-2147483648) ≤ p ∧ p ≤ 2147483647) (hw : (-2147483648) ≤ what ∧ what ≤ 2147483647) : Sp 223 31 [.ref 93, .int (Int32.ofInt p), .int (Int32.ofInt what)] σ (fun r τ => (∃ v : Int32, r = some (.int v)) ∧ an_GB pm_B τ ∧ FQ FFf σ τ) := by
  have go : ∀ (τ : pm_S) (n : Nat) (a b c d : Value), a.category = 1 → b.category = 1 → c.category = 1 → d.category = 1 → an_GB pm_B τ → FQ FFf σ τ → cI τ 55 = (n : Int) → n ≤ 8 → (what = 0 ∨ (10 ≤ what ∧ what ≤ 9 + n)) → Ok 223 31 33 [.ref 93, a, .int (Int32.ofInt what), b, c, d] [.int (Int32.ofInt 0), .int (Int32.ofInt 0), .ref 128] τ (fun r τ => (∃ v : Int32, r = some (.int v)) ∧ an_GB pm_B τ ∧ FQ FFf σ τ) := by
    intro τ n a b c d ha hb hc hd hB1 hF1 h55 hn hwr
    refine Ok.ast (n := 256) (j := 0) rfl rfl rfl (by decide) (by omega) (by omega) ?_
    have hB2 : an_GB pm_B (put τ 128 (0 : Int).toNat (Int32.ofInt 0)) := put_GB hB1 (ai_rng _)
    have K2 : kC (put τ 128 (0 : Int).toNat (Int32.ofInt 0)) 0 = 0 := by
      show ((put τ 128 0 (Int32.ofInt 0)).1 128 0).toInt = 0
      rw [put_eq]
      decide
    have F2 : FQ FFf σ (put τ 128 (0 : Int).toNat (Int32.ofInt 0)) := hF1.tr (FQ.put rfl)
    have h552 : cI (put τ 128 (0 : Int).toNat (Int32.ofInt 0)) 55 = (n : Int) := by rw [put_c (by decide)]; exact h55
    generalize put τ 128 (0 : Int).toNat (Int32.ofInt 0) = σ2 at hB2 K2 F2 h552
    refine sg_fi34 what a b c d ha hb hc hd hB2 ⟨hw, trivial⟩ ?_
    intro τ3 y3 a3 c3 d3 ha3 hc3 hd3 hB3 hF3 _ _ _ _
    have h2 := oc_n n (by omega)
    have := fi_36 (σ0 := τ3) (n := n) (what := what) ((hF3.c 55 rfl).trans h552) hn hwr (2 ^ n - 1) 1 τ3 a3 c3 d3 ha3 hc3 hd3 (by omega) (by omega) hB3 (FQ.rf _ _) ⟨by show (τ3.1 128 _).toInt = 0; rw [hF3 128 _ rfl]; exact K2, fun t t1 t2 => absurd t2 (by omega)⟩
    refine this.mono (fun r υ q => ?_)
    exact ⟨q.1, q.2.1, (F2.tr (FQ.up (G := []) rfl hF3)).tr (q.2.2.up rfl)⟩
  refine Sp.at rfl rfl ?_
  refine sg_fi0 p what _ _ _ rfl rfl rfl hB ⟨hp, hw, trivial⟩ ?_ ?_ ?_ ?_
  · intro τ y hB1 hF1 _ _ _ _
    exact ⟨⟨_, rfl⟩, hB1, FQ.up (G := [(93, 0), (93, 55), (125, 9999)]) rfl hF1⟩
  · intro τ y hB1 hF1 _ _ _ _
    exact ⟨⟨_, rfl⟩, hB1, FQ.up (G := [(93, 0), (93, 55), (125, 9999)]) rfl hF1⟩
  · intro τ y a b c ha hb hc hB1 hF1 f _ _ c1
    exact go τ (y 3).toNat _ a b c rfl ha hb hc hB1 (FQ.up (G := [(93, 0), (93, 55), (125, 9999)]) rfl hF1) (by have := c1.1; show (τ.1 93 55).toInt = _; omega) (by omega) (Or.inl (by omega))
  · intro τ y a b c ha hb hc hB1 hF1 f r _ c1
    have F1 : FQ FFf σ τ := FQ.up (G := [(93, 0), (93, 55), (125, 9999)]) rfl hF1
    refine Ok.cv rfl rfl rfl rfl rfl rfl rfl ?_
    refine (ii_ok hB1 what 10 (y 3 + 9) hw (by omega) (by omega)).use (by decide) (fun r2 τ2 q2 => ?_)
    obtain ⟨hB2, hF2, q2⟩ := q2
    have F2 : FQ FFf σ τ2 := F1.tr (FQ.up (G := []) rfl hF2)
    rcases q2 with rfl | ⟨rfl, z1, z2⟩
    · refine sg_fi26 what 0 _ a b c rfl ha hb hc hB2 ⟨hw, by omega, trivial⟩ ?_ ?_
      · intro τ3 y3 _ _ _ _ _ _ _ _ _ _ f; exfalso; omega
      · intro τ3 y3 hB3 hF3 _ _ _ _
        exact ⟨⟨_, rfl⟩, hB3, F2.tr (FQ.up (G := []) rfl hF3)⟩
    · refine sg_fi26 what 1 _ a b c rfl ha hb hc hB2 ⟨hw, by omega, trivial⟩ ?_ ?_
      · intro τ3 y3 a3 b3 c3 d3 ha3 hb3 hc3 hd3 hB3 hF3 _ _ _ _
        have e55 : cI τ3 55 = y 3 := ((hF3.c 55 rfl).trans (hF2.c 55 rfl)).trans c1.1
        exact go τ3 (y 3).toNat a3 b3 c3 d3 ha3 hb3 hc3 hd3 hB3 (F2.tr (FQ.up (G := []) rfl hF3)) (by omega) (by omega) (Or.inr (by omega))
      · intro τ3 y3 _ _ f; exfalso; omega
