/-! the whole town: the relation of both sides across all calls -/
theorem mt_LN.fb {σ τ : pm_S} {L : Nat} (h : ∀ i, i < L → τ.1 116 i = σ.1 116 i ∧ τ.1 117 i = σ.1 117 i ∧ τ.1 118 i = σ.1 118 i) : ∀ (ls : List (List Int)) (m b : Nat), m + ls.length ≤ L → mt_LN 0 σ m b ls → mt_LN 0 τ m b ls
  | [], _, _, _, _ => trivial
  | l :: r, m, b, hm, hl => by
    have hm : m + (r.length + 1) ≤ L := hm
    have q := h (0 + m) (by omega)
    obtain ⟨h1, h2, h3, h4⟩ := hl
    exact ⟨(congrArg Int32.toInt q.1).trans h1, (congrArg Int32.toInt q.2.1).trans h2, (congrArg Int32.toInt q.2.2).trans h3, mt_LN.fb h r (m + 1) _ (by omega) h4⟩
/-- the class's rows that the town is in -/
abbrev cRw : List (Nat × Nat) := [(1, 4), (2, 4), (3, 1), (4, 10), (5, 100), (7, 1), (8, 10), (9, 10), (10, 10), (11, 10), (12, 10), (13, 1), (14, 30), (15, 30), (16, 30), (17, 30), (18, 30), (19, 30), (20, 30), (21, 1), (31, 2), (32, 400)]
abbrev CT5 : List (Nat × Nat) := cRw.flatMap (fun r => (List.range r.2).map (fun j => (r.1, j)))
theorem CT5_m {P n j : Nat} (h : (P, n) ∈ cRw) (hj : j < n) : (P, j) ∈ CT5 := List.mem_flatMap.mpr ⟨(P, n), h, List.mem_map.mpr ⟨j, List.mem_range.mpr hj, rfl⟩⟩
theorem cRw_93 : ∀ q ∈ cRw, q.1 + 33 < 93 := by decide
theorem isM_93 {P j : Nat} (h : isM P j) : 93 ≤ P := by
  rcases h with ⟨e, _⟩ | ⟨n, h, _⟩
  · omega
  · exact (show ∀ q ∈ mRw, 93 ≤ q.1 by decide) _ h
theorem D5_i {i : Nat} (h : i ∈ D5) : ∃ P j, isM P j ∧ mIx P j = i := by
  rcases List.mem_append.mp h with h | h
  · obtain ⟨j, hj, e⟩ := List.mem_map.mp h
    exact ⟨93, j, Or.inl ⟨rfl, hj⟩, e⟩
  · obtain ⟨r, hr, h⟩ := List.mem_flatMap.mp h
    obtain ⟨j, hj, e⟩ := List.mem_map.mp h
    exact ⟨r.1, j, Or.inr ⟨r.2, hr, List.mem_range.mp hj⟩, e⟩
/-- counts; all ways; the law -/
def TWc (D N S : Nat) (σ : pm_S) : Prop := sI σ 13 0 = (D : Int) ∧ sI σ 7 0 = (N : Int) ∧ sI σ 3 0 = (S : Int) ∧ cI σ 11 = (D : Int) ∧ cI σ 5 = (N : Int) ∧ cI σ 2 = (S : Int)
def TWw (σ : pm_S) : Prop := ∀ a b, a < 10 → b < 10 → a ≠ b → (σ.1 5 (a * 10 + b)).toInt = 9 + (σ.1 95 (a * 10 + b)).toInt
def TWz (N : Nat) (σ : pm_S) : Prop := ∀ p, N ≤ p → p < 10 → σ.1 100 p = 0
def TWl (ls : List (List Int)) (σ : pm_S) : Prop := ls.length ≤ 16 ∧ (∀ l ∈ ls, lnW l) ∧ (sI σ 31 0 = (ls.length : Int) ∧ cw_R σ ls.flatten) ∧ mLaw σ ls
def TW (D N S : Nat) (ls : List (List Int)) (σ : pm_S) : Prop := TWc D N S σ ∧ RX D N S σ.1 σ.1 ∧ (0 ≤ sI σ 1 1 ∧ sI σ 1 1 ≤ 9999) ∧ TWw σ ∧ TWz N σ ∧ TWl ls σ
section TWS
variable {D N S : Nat} {ls : List (List Int)} {σ τ : pm_S}
theorem TWl.cg (h : TWl ls σ) (ht : ∀ P n, (P, n) ∈ [(31, 2), (32, 400)] → ∀ j, j < n → τ.1 P j = σ.1 P j) (h36 : τ.1 93 36 = σ.1 93 36) (hu : ∀ P n, (P, n) ∈ [(116, 16), (117, 16), (118, 16), (119, 400), (120, 400)] → ∀ j, j < n → τ.1 P j = σ.1 P j) : TWl ls τ := by
  obtain ⟨l16, l, ⟨c0, c1, c2, c3⟩, m0, m1, m2, m3⟩ := h
  refine ⟨l16, l, ⟨(congrArg Int32.toInt (ht 31 2 (by decide) 0 (by decide))).trans c0, (congrArg Int32.toInt (ht 31 2 (by decide) 1 (by decide))).trans c1, c2, fun j hj => (congrArg Int32.toInt (ht 32 400 (by decide) j (by omega))).trans (c3 j hj)⟩, (congrArg Int32.toInt h36).trans m0, mt_LN.fb (L := 16) (fun i hi => ⟨hu 116 16 (by decide) i hi, hu 117 16 (by decide) i hi, hu 118 16 (by decide) i hi⟩) ls 0 0 (by omega) m1, m2, fun j hj => ?_⟩
  have e1 : sI τ 119 j = sI σ 119 j := congrArg Int32.toInt (hu 119 400 (by decide) j (by omega))
  have e2 : sI τ 120 j = sI σ 120 j := congrArg Int32.toInt (hu 120 400 (by decide) j (by omega))
  rw [e1, e2]
  exact m3 j hj
theorem TW.cg (h : TW D N S ls σ) (ht : ∀ P n, (P, n) ∈ cRw → ∀ j, j < n → τ.1 P j = σ.1 P j) (hu : ∀ P j, isM P j → τ.1 P j = σ.1 P j) : TW D N S ls τ := by
  obtain ⟨⟨a1, a2, a3, a4, a5, a6⟩, x, s, w, z, l⟩ := h
  have C : ∀ P n, (P, n) ∈ cRw → ∀ j, j < n → sI τ P j = sI σ P j := fun P n h j hj => congrArg Int32.toInt (ht P n h j hj)
  have M : ∀ j, j ∈ mCe → cI τ j = cI σ j := fun j hj => congrArg Int32.toInt (hu 93 j (Or.inl ⟨rfl, hj⟩))
  have V : ∀ P n, (P, n) ∈ mRw → ∀ j, j < n → τ.1 P j = σ.1 P j := fun P n h j hj => hu P j (Or.inr ⟨n, h, hj⟩)
  refine ⟨⟨(C 13 1 (by decide) 0 (by decide)).trans a1, (C 7 1 (by decide) 0 (by decide)).trans a2, (C 3 1 (by decide) 0 (by decide)).trans a3, (M 11 (by decide)).trans a4, (M 5 (by decide)).trans a5, (M 2 (by decide)).trans a6⟩, x.cg (fun P n h j hj => ht P n ((show ∀ q ∈ [(1, 4), (2, 4), (4, 10), (5, 100), (8, 10), (9, 10), (10, 10), (11, 10), (12, 10), (14, 30), (15, 30), (16, 30), (17, 30), (18, 30), (19, 30), (20, 30)], q ∈ cRw by decide) _ h) j hj) hu, ?_, fun a b ha hb hab => ?_, fun p h1 h2 => (V 100 10 (by decide) p h2).trans (z p h1 h2), l.cg (fun P n h j hj => ht P n ((show ∀ q ∈ [(31, 2), (32, 400)], q ∈ cRw by decide) _ h) j hj) (hu 93 36 (Or.inl ⟨rfl, by decide⟩)) (fun P n h j hj => V P n ((show ∀ q ∈ [(116, 16), (117, 16), (118, 16), (119, 400), (120, 400)], q ∈ mRw by decide) _ h) j hj)⟩
  · rw [C 1 4 (by decide) 1 (by decide)]
    exact s
  · rw [ht 5 100 (by decide) _ (by omega), V 95 100 (by decide) _ (by omega)]
    exact w a b ha hb hab
end TWS
/-- both sides in one state -/
def tu (t : Nat → Nat → Int32) (u : Nat → Int32) : pm_S := (fun P j => if P < 93 then t P j else mU u P j, fun _ _ => 0)
theorem tu_c {t : Nat → Nat → Int32} {u : Nat → Int32} {P j : Nat} (h : P < 93) : (tu t u).1 P j = t P j := if_pos h
theorem tu_m {t : Nat → Nat → Int32} {u : Nat → Int32} {P j : Nat} (h : 93 ≤ P) : (tu t u).1 P j = mU u P j := if_neg (Nat.not_lt.mpr h)
def RT : RL := fun t u => (∃ (D N S : Nat) (ls : List (List Int)), TW D N S ls (tu t u)) ∧ t 21 0 = u 461
theorem RT.d : RD RT CT5 D5 := fun t t' u u' h1 h2 h => by
  obtain ⟨⟨D, N, S, ls, h⟩, k⟩ := h
  refine ⟨⟨D, N, S, ls, h.cg (fun P n hp j hj => ?_) (fun P j hm => ?_)⟩, (h1 (21, 0) (CT5_m (n := 1) (by decide) (by decide))).trans (k.trans (h2 461 (mIx_m (P := 93) (j := 23) (Or.inl ⟨rfl, by decide⟩))).symm)⟩
  · have lt : P + 33 < 93 := cRw_93 _ hp
    rw [tu_c (by omega), tu_c (by omega)]
    exact h1 (P, j) (CT5_m hp hj)
  · have ge := isM_93 hm
    rw [tu_m ge, tu_m ge]
    exact mU_e h2 hm
theorem RT.o {σ : pm_S} (h : RT (tS σ) (uS σ)) : ∃ (D N S : Nat) (ls : List (List Int)), TW D N S ls σ := by
  obtain ⟨⟨D, N, S, ls, h⟩, _⟩ := h
  refine ⟨D, N, S, ls, h.cg (fun P n hp j hj => ?_) (fun P j hm => ?_)⟩
  · have lt : P + 33 < 93 := cRw_93 _ hp
    exact (tu_c (t := tS σ) (u := uS σ) (P := P) (j := j) (by omega)).symm
  · exact ((tu_m (t := tS σ) (isM_93 hm)).trans (mU_s hm)).symm
theorem RT.k {σ : pm_S} (h : RT (tS σ) (uS σ)) : σ.1 21 0 = σ.1 93 23 := h.2.trans (mU_s (σ := σ) (P := 93) (j := 23) (Or.inl ⟨rfl, by decide⟩))
theorem RT.m {D N S : Nat} {ls : List (List Int)} {σ : pm_S} (h : TW D N S ls σ) (k : σ.1 21 0 = σ.1 93 23) : RT (tS σ) (uS σ) := by
  refine ⟨⟨D, N, S, ls, h.cg (fun P n hp j hj => ?_) (fun P j hm => ?_)⟩, k.trans (mU_s (σ := σ) (P := 93) (j := 23) (Or.inl ⟨rfl, by decide⟩)).symm⟩
  · have lt : P + 33 < 93 := cRw_93 _ hp
    exact tu_c (t := tS σ) (u := uS σ) (P := P) (j := j) (by omega)
  · exact (tu_m (t := tS σ) (isM_93 hm)).trans (mU_s hm)
/-! calls that do not touch it -/
abbrev mKs : KY := mCe.map (fun j => (93, j, 133, mIx 93 j)) ++ mRw.flatMap (fun r => (List.range r.2).map (fun j => (r.1, j, 133, mIx r.1 j)))
abbrev K26e : KY := (0, 2, 93, 64) :: (CT5.map (fun q => (q.1, q.2, q.1 + 33, q.2)) ++ mKs)
abbrev K26 : KY := K26e ++ K11
theorem mKs_m {P j : Nat} (h : isM P j) : (P, j, 133, mIx P j) ∈ mKs := by
  rcases h with ⟨rfl, h⟩ | ⟨n, h, hj⟩
  · exact List.mem_append_left _ (List.mem_map.mpr ⟨j, h, rfl⟩)
  · exact List.mem_append_right _ (List.mem_flatMap.mpr ⟨(P, n), h, List.mem_map.mpr ⟨j, List.mem_range.mpr hj, rfl⟩⟩)
/-- of both sides, and of what is kept, where something is -/
def ERT (σ : pm_S) : Prop := σ.1 0 2 = σ.1 93 64 ∧ RT (tS σ) (uS σ) ∧ ((σ.1 0 2).toInt ≠ 0 → RT (tK σ) (uK σ))
abbrev IT : pm_S → Prop := fun σ => an_GB pm_B σ ∧ mP σ ∧ ERT σ ∧ KE K11 σ
theorem ER_x {σ τ : pm_S} (h : KX K26e σ τ) (hE : ERT σ) : ERT τ := by
  have h0 := h (0, 2, 93, 64) List.mem_cons_self
  have h1 : ∀ q ∈ CT5, τ.1 q.1 q.2 = σ.1 q.1 q.2 ∧ τ.1 (q.1 + 33) q.2 = σ.1 (q.1 + 33) q.2 := fun q hq => h (q.1, q.2, q.1 + 33, q.2) (List.mem_cons_of_mem _ (List.mem_append_left _ (List.mem_map.mpr ⟨q, hq, rfl⟩)))
  have h2 : ∀ P j, isM P j → τ.1 P j = σ.1 P j ∧ τ.1 133 (mIx P j) = σ.1 133 (mIx P j) := fun P j hm => h (P, j, 133, mIx P j) (List.mem_cons_of_mem _ (List.mem_append_right _ (mKs_m hm)))
  refine ⟨?_, ?_, ?_⟩
  · have a : τ.1 0 2 = σ.1 0 2 := h0.1
    have b : τ.1 93 64 = σ.1 93 64 := h0.2
    rw [a, b]
    exact hE.1
  · obtain ⟨D, N, S, ls, w⟩ := RT.o hE.2.1
    exact RT.m (w.cg (fun P n hp j hj => (h1 (P, j) (CT5_m hp hj)).1) (fun P j hm => (h2 P j hm).1)) (by rw [(h1 (21, 0) (CT5_m (n := 1) (by decide) (by decide))).1, (h2 93 23 (Or.inl ⟨rfl, by decide⟩)).1]; exact RT.k hE.2.1)
  · intro ne
    have a : τ.1 0 2 = σ.1 0 2 := h0.1
    rw [a] at ne
    refine RT.d _ _ _ _ (fun q hq => (h1 q hq).2) (fun i hi => ?_) (hE.2.2 ne)
    obtain ⟨P, j, hm, rfl⟩ := D5_i hi
    exact (h2 P j hm).2
theorem IT.x {σ τ : pm_S} (h : KX K26 σ τ) (hE : ERT σ ∧ KE K11 σ) : ERT τ ∧ KE K11 τ :=
  ⟨ER_x (fun q hq => h q (List.mem_append_left _ hq)) hE.1, KX.ke (K := K11) (fun q hq => h q (List.mem_append_right _ hq)) hE.2⟩
theorem two_T {t kM : Nat} {eC : an_S} (hC : an_sok pm_B eC) (hD : eC.2.1 ≤ 1200) (hc : eC.2.2.2.1 = []) (hf : eC.2.2.2.2.2.1.all (fun q => Nat.ble q.1 92) = true) (ht : (match t with
    | 1 => eC.2.2.2.2.1.1 = 1
    | _ => eC.2.2.2.2.1.1 = 4)) (hk : KC K26 eC.2.2.2.2.2.1 = true) {as : List Value} (has : an_sargs (.ref 0 :: as) eC.2.2.1) (hM : mKX K26 t kM as) : Two t false IT IT eC.1 kM as := by
  intro σ hI
  refine (hC σ _ hI.1 has (by rw [hc]; exact fun q hq => absurd hq List.not_mem_nil)).use hD (fun r τ hr => ?_)
  obtain ⟨k1, k2, k3, -⟩ := hr
  have hPτ : mP τ := mP93 σ τ (fun p j hp => k3 p j (an_foot93 hf hp)) hI.2.1
  have hE1 := IT.x (KX.of hk k3) hI.2.2
  refine ⟨?_, (hM τ k1 hPτ).mono (fun r' τ' h' => ⟨h'.1, fun z => absurd z (by decide), h'.2.1, h'.2.2.1, IT.x h'.2.2.2 hE1⟩)⟩
  unfold an_spost at k2
  unfold an_sh
  split at ht
  · rw [ht] at k2
    obtain ⟨w, e, -⟩ := k2
    exact ⟨w, e⟩
  · rename_i g
    rw [ht] at k2
    obtain ⟨w, e⟩ := k2
    split
    · exact absurd rfl g
    · exact ⟨w, e⟩
/-! what is kept: what touches neither it nor the tape -/
abbrev K26k : KY := (0, 2, 93, 64) :: (21, 0, 93, 23) :: (CT5.map (fun q => (q.1 + 33, q.2, 0, 2)) ++ (D5.map (fun i => (0, 2, 133, i)) ++ K11))
abbrev K26l : KY := (0, 2, 93, 64) :: (CT5.map (fun q => (q.1 + 33, q.2, 0, 2)) ++ (D5.map (fun i => (0, 2, 133, i)) ++ K11))
abbrev K26m : KY := (0, 2, 93, 64) :: (CT5.map (fun q => (q.1 + 33, q.2, 0, 2)) ++ D5.map (fun i => (0, 2, 133, i)))
theorem K26m_k {σ τ : pm_S} (h : KX K26m σ τ) : (τ.1 0 2 = σ.1 0 2 ∧ τ.1 93 64 = σ.1 93 64) ∧ (∀ q ∈ CT5, τ.1 (q.1 + 33) q.2 = σ.1 (q.1 + 33) q.2) ∧ ∀ i ∈ D5, τ.1 133 i = σ.1 133 i :=
  ⟨h (0, 2, 93, 64) List.mem_cons_self, fun q hq => (h (q.1 + 33, q.2, 0, 2) (List.mem_cons_of_mem _ (List.mem_append_left _ (List.mem_map.mpr ⟨q, hq, rfl⟩)))).1, fun i hi => (h (0, 2, 133, i) (List.mem_cons_of_mem _ (List.mem_append_right _ (List.mem_map.mpr ⟨i, hi, rfl⟩)))).2⟩
theorem KC_ap {K L : KY} {G : List (Nat × Nat)} (h : KC (K ++ L) G = true) : KC K G = true ∧ KC L G = true := by
  unfold KC at h ⊢
  rw [List.all_append, Bool.and_eq_true] at h
  exact h
theorem K26l_e : K26l = K26m ++ K11 := by
  show (0, 2, 93, 64) :: (CT5.map (fun q => (q.1 + 33, q.2, 0, 2)) ++ (D5.map (fun i => (0, 2, 133, i)) ++ K11)) = ((0, 2, 93, 64) :: (CT5.map (fun q => (q.1 + 33, q.2, 0, 2)) ++ D5.map (fun i => (0, 2, 133, i)))) ++ K11
  rw [List.cons_append, List.append_assoc]
/-- what the model asks of its state, out of the relation -/
theorem TW.mp {D N S : Nat} {ls : List (List Int)} {τ τ2 : pm_S} (w : TW D N S ls τ2) (hB : an_GB pm_B τ2) (h64 : cI τ2 64 = cI τ 64) (h133 : ∀ i, τ2.1 133 i = τ.1 133 i) (h : mP τ) : mP τ2 := by
  obtain ⟨⟨a1, a2, a3, a4, a5, a6⟩, ⟨hb, hh, hS, hp, hd, hl⟩, s, wy, z, l16, l, c, m⟩ := w
  refine ⟨⟨⟨lwW_L l m, fun d hd2 => ?_⟩, ?_⟩, mP_img h64 h133 h⟩
  · have dD : d < D := by omega
    obtain ⟨e1, e2, _⟩ := hd d dD
    obtain ⟨l1, l2, l3, _⟩ := hl.2 d dD
    intro q
    refine l3 ?_
    show (τ2.1 14 d).toInt.toNat = (τ2.1 15 d).toInt.toNat
    rw [e1, e2, q]
  · unfold sPP
    rcases Nat.eq_zero_or_pos N with h0 | h0
    · refine Or.inr ?_
      rw [a5, h0]
      rfl
    · have q := hl.1 0 h0
      exact Or.inl (by omega)
/-- a call that both sides do exactly -/
theorem two_TEk {kC kM : Nat} {as : List Value} {GC GM : List (Nat × Nat)} (hc : KC K26l GC = true) (hm : KC K26l GM = true) (h133 : an_inP GM 133 = false) (hf : GC.all (fun q => Nat.ble q.1 92) = true) (XC : pm_S → Int → pm_S → Prop)
    (hC : ∀ σ, IT σ → Sp kC 1200 (.ref 0 :: as) σ (fun r τ => ∃ v : Int, r = some (.int (Int32.ofInt v)) ∧ an_GB pm_B τ ∧ FQ GC σ τ ∧ XC σ v τ))
    (hM : ∀ σ τ v, IT σ → XC σ v τ → FQ GC σ τ → an_GB pm_B τ → mP τ → Sp kM 1200 (.ref 93 :: as) τ (fun r τ2 => r = some (.int (Int32.ofInt v)) ∧ an_GB pm_B τ2 ∧ FQ GM τ τ2 ∧ ∃ (D N S : Nat) (ls : List (List Int)), TW D N S ls τ2 ∧ τ2.1 21 0 = τ2.1 93 23)) : Two 1 true IT IT kC kM as := by
  intro σ hI
  rw [K26l_e] at hc hm
  obtain ⟨hc1, hc2⟩ := KC_ap hc
  obtain ⟨hm1, hm2⟩ := KC_ap hm
  refine (hC σ hI).mono (fun r τ q => ?_)
  obtain ⟨v, rfl, hB1, F1, x⟩ := q
  have hPτ : mP τ := mP93 σ τ (fun p j hp => F1 p j (an_foot93 hf hp)) hI.2.1
  refine ⟨⟨_, rfl⟩, (hM σ τ v hI x F1 hB1 hPτ).mono (fun r2 τ2 q => ?_)⟩
  obtain ⟨rfl, hB2, F2, D, N, S, ls, w, wk⟩ := q
  obtain ⟨⟨x1, x2⟩, x3, x4⟩ := K26m_k (KX.of hc1 F1)
  obtain ⟨⟨y1, y2⟩, y3, y4⟩ := K26m_k (KX.of hm1 F2)
  have hP2 : mP τ2 := w.mp hB2 (congrArg Int32.toInt y2) (fun i => F2 133 i (an_inP_ok h133 i)) hPτ
  refine ⟨⟨_, rfl⟩, fun _ => rfl, hB2, hP2, ⟨?_, RT.m w wk, fun ne => RT.d _ _ _ _ (fun q hq => (y3 q hq).trans (x3 q hq)) (fun i hi => (y4 i hi).trans (x4 i hi)) (hI.2.2.1.2.2 (by rw [y1, x1] at ne; exact ne))⟩, (KX.of hm2 F2).ke ((KX.of hc2 F1).ke hI.2.2.2)⟩
  rw [y1, x1, y2, x2]
  exact hI.2.2.1.1
theorem two_TE {kC kM : Nat} {as : List Value} {GC GM : List (Nat × Nat)} (hc : KC K26k GC = true) (hm : KC K26k GM = true) (h133 : an_inP GM 133 = false) (hf : GC.all (fun q => Nat.ble q.1 92) = true) (XC : pm_S → Int → pm_S → Prop)
    (hC : ∀ σ, IT σ → Sp kC 1200 (.ref 0 :: as) σ (fun r τ => ∃ v : Int, r = some (.int (Int32.ofInt v)) ∧ an_GB pm_B τ ∧ FQ GC σ τ ∧ XC σ v τ))
    (hM : ∀ σ τ v, IT σ → XC σ v τ → FQ GC σ τ → an_GB pm_B τ → mP τ → Sp kM 1200 (.ref 93 :: as) τ (fun r τ2 => r = some (.int (Int32.ofInt v)) ∧ an_GB pm_B τ2 ∧ FQ GM τ τ2 ∧ ∃ (D N S : Nat) (ls : List (List Int)), TW D N S ls τ2)) : Two 1 true IT IT kC kM as := by
  have up : ∀ G, KC K26k G = true → KC K26l G = true ∧ (an_inF G 21 0 = false ∧ an_inF G 93 23 = false) := fun G h => by
    unfold KC at h ⊢
    rw [List.all_cons, List.all_cons] at h
    obtain ⟨h1, h2⟩ := Bool.and_eq_true_iff.mp h
    obtain ⟨q, h3⟩ := Bool.and_eq_true_iff.mp h2
    refine ⟨?_, ?_⟩
    · rw [List.all_cons]
      exact Bool.and_eq_true_iff.mpr ⟨h1, h3⟩
    · obtain ⟨q1, q2⟩ := Bool.and_eq_true_iff.mp q
      rw [Bool.not_eq_true'] at q1 q2
      exact ⟨q1, q2⟩
  obtain ⟨c1, c2, c3⟩ := up GC hc
  obtain ⟨m1, m2, m3⟩ := up GM hm
  refine two_TEk c1 m1 h133 hf XC hC (fun σ τ v hI x F1 hB1 hP => (hM σ τ v hI x F1 hB1 hP).mono (fun r τ2 q => ?_))
  obtain ⟨q1, q2, F2, D, N, S, ls, w⟩ := q
  refine ⟨q1, q2, F2, D, N, S, ls, w, ?_⟩
  rw [F2 21 0 m2, F1 21 0 c2, F2 93 23 m3, F1 93 23 c3]
  exact RT.k hI.2.2.1.2.1
/-! the image -/
theorem kc_imageF (w : Int32) (hw : w = 0 ∨ w = 1) : ∀ σ, an_GB pm_B σ → mP σ → Sp 245 1200 [.ref 93, .int w] σ (fun r τ => an_sh 1 r ∧ an_GB pm_B τ ∧ mP τ ∧ (∀ p j, p < 93 → τ.1 p j = σ.1 p j) ∧ ((r = some (.int (Int32.ofInt 0)) ∧ w.toInt = 0 ∧ cI σ 64 = 0 ∧ cI τ 64 = 0 ∧ FQ FIm σ τ) ∨ (r = some (.int (Int32.ofInt 1)) ∧ (w.toInt = 1 ∨ cI σ 64 = 1) ∧ cI τ 64 = 1 ∧ ∃ σ1, FQ FIm σ σ1 ∧ (∀ i, i < 1431 → qsV τ i = vI σ1 w.toInt i ∧ τ.1 133 i = vI σ1 w.toInt i) ∧ ∀ p j, p ≠ 133 → ¬ (p = 93 ∧ j = 65) → psI p j = none → τ.1 p j = σ1.1 p j))) := by
  intro σ hB hp
  have ht : w.toInt = 0 ∨ w.toInt = 1 := by
    rcases hw with rfl | rfl
    · exact Or.inl rfl
    · exact Or.inr rfl
  rw [← oI w]
  refine (m_image hB hp.2.1 w.toInt ht).use (by decide) (fun r τ q => ?_)
  obtain ⟨q1, q2⟩ := q
  rcases q2 with ⟨k1, F, k3, e1, e2, e3⟩ | ⟨h64, σ1, hB1, F1, hI, e1⟩
  · refine ⟨q1, k1, ?_, fun p j hp => F p j (FIm_lo hp), Or.inl ⟨e1, by rw [oI]; exact e2, e3, by omega, F⟩⟩
    have F0 : FQ [(93, 0), (93, 63), (93, 65), (93, 64)] σ τ := F.up rfl
    refine ⟨⟨pPP.fr FIm rfl rfl rfl rfl rfl rfl rfl rfl F hp.1.1, ?_⟩, mP_img k3 (fun i => F 133 i rfl) hp⟩
    unfold sPP
    rw [F.c 2 rfl, F.c 5 rfl]
    exact hp.1.2
  · obtain ⟨hBt, i65, i63, i64, hall, hfr⟩ := hI
    refine ⟨q1, hBt, ?_, fun p j hp => (hfr p j (by omega) (by omega) (psI_lo hp)).trans (F1 p j (FIm_lo hp)), Or.inr ⟨e1, h64.imp (fun z => by rw [oI]; exact z) id, i64, σ1, F1, fun i hi => by rw [oI]; exact (hall i hi).1 hi, hfr⟩⟩
    have hv : ∀ i, i < 1431 → qsV τ i = vI σ1 w.toInt i ∧ τ.1 133 i = vI σ1 w.toInt i := fun i hi => (hall i hi).1 hi
    have same : ∀ i, i < 1431 → qsV τ i = τ.1 133 i := fun i hi => (hv i hi).1.trans (hv i hi).2.symm
    have himg := p0_img hBt same
    -- what the state is that both come from
    have p1 : p0P σ1 := by
      refine ⟨pPP.fr FIm rfl rfl rfl rfl rfl rfl rfl rfl F1 hp.1.1, ?_⟩
      unfold sPP
      rw [F1.c 2 rfl, F1.c 5 rfl]
      exact hp.1.2
    have pt : p0P τ := by
      rcases ht with e | e
      · have h1 : cI σ 64 = 1 := h64.resolve_left (by omega)
        have e1 : imgS σ1 = imgS σ := imgS_e (fun i => F1 133 i rfl)
        refine (p0_img (σ := σ1) hBt (fun i hi => ?_)).1 (by rw [e1]; exact hp.2.2 h1)
        rw [(hv i hi).1]
        exact if_neg (by omega)
      · have a : ∀ i p j, i < 1431 → qsI i = (p, j) → τ.1 p j = σ1.1 p j := fun i p j hi hq => by
          have := (hv i hi).1
          unfold qsV at this
          rw [hq] at this
          rw [this]
          have : vI σ1 w.toInt i = qsV σ1 i := if_pos e
          rw [this]
          unfold qsV
          rw [hq]
        obtain ⟨a1, a2, a3, a4, a5, a6⟩ := psR
        have g36 : 0 ≤ cI σ1 36 ∧ cI σ1 36 ≤ 16 := hB1 93 36 (by decide)
        have g11 : 0 ≤ cI σ1 11 ∧ cI σ1 11 ≤ 30 := hB1 93 11 (by decide)
        exact p0_of g36.2 g11.2 (congrArg Int32.toInt (a 582 93 36 (by decide) rfl)) (congrArg Int32.toInt (a 250 93 11 (by decide) rfl)) (congrArg Int32.toInt (a 1 93 2 (by decide) rfl)) (congrArg Int32.toInt (a 192 93 5 (by decide) rfl)) (fun j hj => ⟨a _ 101 j (a1 j hj).2 (a1 j hj).1, a _ 102 j (a2 j hj).2 (a2 j hj).1⟩) (fun j hj => ⟨a _ 117 j (a3 j hj).2 (a3 j hj).1, a _ 118 j (a4 j hj).2 (a4 j hj).1⟩) (fun j hj => ⟨a _ 119 j (a5 j hj).2 (a5 j hj).1, a _ 120 j (a6 j hj).2 (a6 j hj).1⟩) p1
    refine ⟨pt, fun _ i hi => ?_, fun _ => himg.2 pt⟩
    rw [← same i hi]
    exact hBt _ _ (qs_len i hi)
theorem tT_image (a1 : Int32) (hw : a1 = 0 ∨ a1 = 1) : Two 1 true IT IT 151 245 [.int a1] := by
  intro σ hI
  have e64 := hI.2.2.1.1
  have hR := RT.d
  have hT : ∀ q ∈ CT5, isT q.1 q.2 = true := List.all_eq_true.mp (by decide +kernel)
  have hi : ∀ i ∈ D5, i < 1431 := fun i h => Nat.le_of_ble_eq_true (List.all_eq_true.mp (show D5.all (fun i => Nat.blt i 1431) = true by decide +kernel) i h)
  have hkI : KC K11 FIm = true := by decide +kernel
  have hjI : KJ K11 = true := by decide +kernel
  have hkT : KC K11 ((0, 2) :: fpT) = true := by decide +kernel
  have hkK : KC K11 fpK = true := by decide +kernel
  have tlo : ∀ q ∈ CT5, q.1 + 33 < 93 := fun q hq => by
    obtain ⟨n, m1, -, -⟩ := isT_ok (hT q hq)
    exact (show ∀ t ∈ cpT, t.1 + 33 < 93 by decide) _ m1
  refine (xc_image a1 hw hI.1).use (by decide) (fun r τ q => ?_)
  obtain ⟨hB1, hF, q⟩ := q
  have hp : mP τ := mP93 σ τ hF hI.2.1
  have f64 : cI τ 64 = (σ.1 0 2).toInt := by
    show (τ.1 93 64).toInt = _
    rw [hF 93 64 (by decide), e64]
  rcases q with ⟨rfl, rfl, h0, rfl⟩ | ⟨rfl, h1, q⟩
  · refine ⟨⟨_, rfl⟩, (kc_imageF 0 hw τ hB1 hp).mono (fun r2 τ2 q => ?_)⟩
    obtain ⟨q1, q2, q3, q4, ⟨b1, b2, b3, b4, F⟩ | ⟨b1, b2, b3, σ1, F1, hv, hfr⟩⟩ := q
    · refine ⟨q1, fun _ => b1.symm, q2, q3, ⟨?_, hR _ _ _ _ (fun q hq => F _ _ (FIm_lo (by have := tlo q hq; omega))) (fun i h => F _ _ (qs_FIm i (hi i h))) hI.2.2.1.2.1, fun ne => absurd ((congrArg Int32.toInt (F 0 2 rfl)).trans h0) ne⟩, (KX.of hkI F).ke hI.2.2.2⟩
      refine Int32.toInt_inj.mp ?_
      rw [F 0 2 rfl]
      have b4 : (τ2.1 93 64).toInt = 0 := b4
      omega
    · exfalso
      rcases b2 with b2 | b2
      · exact absurd b2 (by decide)
      · omega
  · refine ⟨⟨_, rfl⟩, (kc_imageF a1 hw τ hB1 hp).mono (fun r2 τ2 q' => ?_)⟩
    obtain ⟨q1, q2, q3, q4, ⟨b1, b2, b3, b4, F⟩ | ⟨b1, b2, b3, σ1, F1, hv, hfr⟩⟩ := q'
    · exfalso
      rcases q with ⟨rfl, -, -⟩ | ⟨-, h2, -, -⟩
      · exact absurd b2 (by decide)
      · omega
    · have e0 : τ2.1 0 2 = τ2.1 93 64 := by
        refine Int32.toInt_inj.mp ?_
        rw [q4 0 2 (by decide), h1]
        exact b3.symm
      have g1 : ∀ i, i < 1431 → qsV σ1 i = qsV σ i := fun i h => (F1 _ _ (qs_FIm i h)).trans (hF _ _ (qsI_93 i h))
      have g2 : ∀ i, σ1.1 133 i = σ.1 133 i := fun i => (F1 133 i rfl).trans (hF 133 i (by decide))
      rcases q with ⟨rfl, C, F⟩ | ⟨rfl, h02, C, F⟩
      · have v : ∀ i, i < 1431 → qsV τ2 i = qsV σ i ∧ τ2.1 133 i = qsV σ i := fun i h => by
          have := hv i h
          rw [show vI σ1 (1 : Int32).toInt i = qsV σ1 i from if_pos rfl, g1 i h] at this
          exact this
        have c : ∀ q ∈ CT5, τ2.1 q.1 q.2 = σ.1 q.1 q.2 ∧ τ2.1 (q.1 + 33) q.2 = σ.1 q.1 q.2 := fun q hq => by
          obtain ⟨n, m1, m2, m3⟩ := isT_ok (hT q hq)
          exact ⟨(q4 _ _ (by have := tlo q hq; omega)).trans (F _ _ (isT_F (hT q hq)).1), (q4 _ _ (tlo q hq)).trans (C _ m1 _ m3)⟩
        exact ⟨q1, fun _ => b1.symm, q2, q3, ⟨e0, hR _ _ _ _ (fun q hq => (c q hq).1) (fun i h => (v i (hi i h)).1) hI.2.2.1.2.1, fun _ => hR _ _ _ _ (fun q hq => (c q hq).2) (fun i h => (v i (hi i h)).2) hI.2.2.1.2.1⟩, (KX.im2 hkI hjI F1 hfr).ke ((KX.of hkT F).ke hI.2.2.2)⟩
      · have v : ∀ i, i < 1431 → qsV τ2 i = σ.1 133 i ∧ τ2.1 133 i = σ.1 133 i := fun i h => by
          have := hv i h
          rw [show vI σ1 (0 : Int32).toInt i = σ1.1 133 i from if_neg (by decide), g2 i] at this
          exact this
        have c : ∀ q ∈ CT5, τ2.1 q.1 q.2 = σ.1 (q.1 + 33) q.2 ∧ τ2.1 (q.1 + 33) q.2 = σ.1 (q.1 + 33) q.2 := fun q hq => by
          obtain ⟨n, m1, m2, m3⟩ := isT_ok (hT q hq)
          exact ⟨(q4 _ _ (by have := tlo q hq; omega)).trans (C _ m2 _ m3), (q4 _ _ (tlo q hq)).trans (F _ _ (isT_F (hT q hq)).2)⟩
        exact ⟨q1, fun _ => b1.symm, q2, q3, ⟨e0, hR _ _ _ _ (fun q hq => (c q hq).1) (fun i h => (v i (hi i h)).1) (hI.2.2.1.2.2 (by rw [h02]; decide)), fun _ => hR _ _ _ _ (fun q hq => (c q hq).2) (fun i h => (v i (hi i h)).2) (hI.2.2.1.2.2 (by rw [h02]; decide))⟩, (KX.im2 hkI hjI F1 hfr).ke ((KX.of hkK F).ke hI.2.2.2)⟩
