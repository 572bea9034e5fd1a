/-! text and fault on both sides -/
/-- a code's type, by the run -/
theorem ev_w {q : Bool} {f : Nat → Int32} {m : Nat} {z : Int} {s s' : evS} {o a : Int32} (h : ev_s q f m z s = some s') (ho : o.toInt = mo z) (ha : a.toInt = ma z) : wS o a (s.1.length, s.2) = some (s'.1.length, s'.2) := by
  obtain ⟨l, b⟩ := s
  unfold ev_s at h
  unfold wS
  rw [ho, ha]
  by_cases c1 : 0 ≤ z ∧ z ≤ 9999
  · rw [if_pos c1] at h
    have m0 : mo z = 0 := if_pos c1.1
    have m1 : ma z = z := if_pos c1.1
    rw [m0, m1, if_pos rfl]
    split at h
    · injection h with h
      rw [← h]
      rfl
    · cases h
  rw [if_neg c1] at h
  by_cases c2 : (-15) ≤ z ∧ z ≤ -7
  · rw [if_pos c2] at h
    have m0 : mo z = 1 := by
      unfold mo
      rw [if_neg (by omega), if_pos c2]
    have m1 : ma z = -7 - z := by
      unfold ma
      rw [if_neg (by omega), if_pos c2]
    rw [m0, m1, if_neg (by decide), if_pos rfl, if_pos (by omega)]
    split at h
    · injection h with h
      rw [← h]
      rfl
    · cases h
  rw [if_neg c2] at h
  by_cases c3 : z = -6
  · rw [if_pos c3] at h
    have m0 : mo z = 9 := by
      rw [c3]
      rfl
    rw [m0, if_neg (by decide), if_neg (by decide), if_pos rfl]
    match l, h with
    | [], h => cases (show (none : Option evS) = some s' from h)
    | r :: t, h =>
      have h : some ((if q = true then 1 - r else if r = 0 then 1 else 0) :: t, false) = some s' := h
      injection h with h
      rw [← h]
      exact if_pos (show 1 ≤ t.length + 1 by omega)
  rw [if_neg c3] at h
  by_cases c4 : z = -4 ∨ z = -5 ∨ ((-20) ≤ z ∧ z ≤ -17) ∨ ((-25) ≤ z ∧ z ≤ -23)
  · rw [if_pos c4] at h
    have mm : mo z = 10 ∨ mo z = 11 ∨ (mo z = -15 - z ∧ (-20) ≤ z ∧ z ≤ -17) ∨ (mo z = -17 - z ∧ (-25) ≤ z ∧ z ≤ -23) := by
      unfold mo
      rw [if_neg (by omega), if_neg (by omega), if_neg (by omega)]
      by_cases d1 : z = -5
      · rw [if_pos d1]
        exact Or.inl rfl
      · rw [if_neg d1]
        by_cases d2 : z = -4
        · rw [if_pos d2]
          exact Or.inr (Or.inl rfl)
        · rw [if_neg d2]
          by_cases d3 : (-20) ≤ z
          · rw [if_pos d3]
            omega
          · rw [if_neg d3]
            omega
    rw [if_neg (by omega), if_neg (by omega), if_neg (by omega)]
    match l, h with
    | [], h => cases (show (none : Option evS) = some s' from h)
    | [_], h => cases (show (none : Option evS) = some s' from h)
    | r :: l2 :: t, h =>
      have h : (if z = -20 ∧ (b = false ∨ r = 0) then none else some (jn q z l2 r :: t, false)) = some s' := h
      split at h
      · cases h
      · rename_i g
        injection h with h
        rw [← h]
        by_cases c5 : mo z = 5
        · have hb : b = true := by
            cases b with
            | false => exact absurd ⟨by omega, Or.inl rfl⟩ g
            | true => rfl
          rw [if_pos c5]
          exact if_pos ⟨show 2 ≤ t.length + 1 + 1 by omega, hb⟩
        · rw [if_neg c5]
          exact if_pos (show 2 ≤ t.length + 1 + 1 by omega)
  · rw [if_neg c4] at h
    cases h
theorem wR_ev {q : Bool} {f : Nat → Int32} {m : Nat} {o a : Nat → Int32} {k : Nat} {s' : evS} : ∀ (d : List Int) (n : Nat) (s : evS), wR o a k n = some (s.1.length, s.2) → ev_r q f m d s = some s' → (∀ j, j < d.length → (o (k + (n + j))).toInt = mo (d.getD j 0) ∧ (a (k + (n + j))).toInt = ma (d.getD j 0)) → ∃ t, wR o a k (n + d.length) = some t
  | [], n, s, h, _, _ => ⟨_, h⟩
  | z :: d, n, s, h, he, hr => by
    have he : (ev_s q f m z s).bind (ev_r q f m d) = some s' := he
    cases hu : ev_s q f m z s with
    | none =>
      rw [hu] at he
      cases he
    | some u =>
      rw [hu] at he
      have r0 := hr 0 (Nat.zero_lt_succ _)
      have w := ev_w (o := o (k + n)) (a := a (k + n)) hu r0.1 r0.2
      have h1 : wR o a k (n + 1) = some (u.1.length, u.2) := by
        show (wR o a k n).bind (wS (o (k + n)) (a (k + n))) = _
        rw [h]
        exact w
      have ih := wR_ev d (n + 1) u h1 he (fun j hj => by
        have q := hr (j + 1) (Nat.succ_lt_succ hj)
        rw [show n + 1 + j = n + (j + 1) by omega]
        exact q)
      show ∃ t, wR o a k (n + (d.length + 1)) = some t
      rw [show n + (d.length + 1) = n + 1 + d.length by omega]
      exact ih
theorem lwL {τ : pm_S} : ∀ (ls : List (List Int)) (m b : Nat), (∀ l ∈ ls, lnW l) → mt_LN 0 τ m b ls → b + (ls.map m_ln).flatten.length ≤ 400 → (∀ j, j < (ls.map m_ln).flatten.length → sI τ 119 (b + j) = mo ((ls.map m_ln).flatten.getD j 0) ∧ sI τ 120 (b + j) = ma ((ls.map m_ln).flatten.getD j 0)) → ∀ i, m ≤ i → i < m + ls.length → ∃ f n : Nat, (τ.1 117 i).toInt = f ∧ (τ.1 118 i).toInt = (f : Int) + n ∧ f + n ≤ 400 ∧ ∃ s, wR (τ.1 119) (τ.1 120) f n = some s
  | [], m, b, _, _, _, _, i, h1, h2 => absurd h1 (by have : i < m + 0 := h2; omega)
  | l :: r, m, b, hl, h, hb, hc, i, h1, h2 => by
    have fl : ((l :: r).map m_ln).flatten = m_ln l ++ (r.map m_ln).flatten := rfl
    rw [fl] at hb hc
    have ll : (m_ln l ++ (r.map m_ln).flatten).length = (m_ln l).length + (r.map m_ln).flatten.length := List.length_append
    have h2 : i < m + (r.length + 1) := h2
    obtain ⟨g1, g2, g3, g4⟩ := h
    rw [Nat.zero_add] at g2 g3
    by_cases e : i = m
    · rw [e]
      refine ⟨b, (m_ln l).length, g2, by rw [show (τ.1 118 m).toInt = ((b + (m_ln l).length : Nat) : Int) from g3]; omega, by omega, ?_⟩
      rcases hl l List.mem_cons_self with (q | q) | ⟨d, z, q, _, dl, w⟩
      · rw [q]
        exact ⟨_, rfl⟩
      · rw [q]
        exact ⟨_, rfl⟩
      · rw [q, m_ln_c z dl] at hc ⊢
        obtain ⟨v, _, hv⟩ := w (fun _ => 0)
        obtain ⟨b', hw⟩ := hv true 22 [] false (Nat.le_refl _)
        have := wR_ev (o := τ.1 119) (a := τ.1 120) (k := b) d 0 ([], false) rfl hw (fun j hj => by
          have p := hc j (by rw [List.length_append]; omega)
          rw [gd_l hj] at p
          rw [Nat.zero_add]
          exact p)
        rw [Nat.zero_add] at this
        exact this
    · refine lwL r (m + 1) (b + (m_ln l).length) (fun x hx => hl x (List.mem_cons_of_mem _ hx)) g4 (by omega) (fun j hj => ?_) i (by omega) (by omega)
      have p := hc ((m_ln l).length + j) (by omega)
      rw [gd_e] at p
      rw [Nat.add_assoc]
      exact p
theorem lwW_L {τ : pm_S} {ls : List (List Int)} (hl : ∀ l ∈ ls, lnW l) (h : mLaw τ ls) : lwW τ := fun i hi => by
  have h1 := h.1
  exact lwL ls 0 0 hl h.2.1 (by have := h.2.2.1; omega) (fun j hj => by rw [Nat.zero_add]; exact h.2.2.2 j hj) i (Nat.zero_le _) (by omega)
/-- the tape, its length, the fault -/
abbrev K11 : KY := (67, 2, 93, 30) :: (67, 0, 93, 48) :: (67, 1, 93, 49) :: (List.range 400).map (fun j => (68, j, 114, j))
theorem K11.e {σ : pm_S} (h : KE K11 σ) : sI σ 67 2 = cI σ 30 ∧ sI σ 67 0 = cI σ 48 ∧ sI σ 67 1 = cI σ 49 ∧ ∀ j, j < 400 → σ.1 68 j = σ.1 114 j :=
  ⟨congrArg Int32.toInt (h (67, 2, 93, 30) List.mem_cons_self), congrArg Int32.toInt (h (67, 0, 93, 48) (List.mem_cons_of_mem _ List.mem_cons_self)), congrArg Int32.toInt (h (67, 1, 93, 49) (List.mem_cons_of_mem _ (List.mem_cons_of_mem _ List.mem_cons_self))), fun j hj => h (68, j, 114, j) (List.mem_cons_of_mem _ (List.mem_cons_of_mem _ (List.mem_cons_of_mem _ (List.mem_map.mpr ⟨j, List.mem_range.mpr hj, rfl⟩))))⟩
theorem K11.i {σ : pm_S} (h : sI σ 67 2 = cI σ 30) (h0 : sI σ 67 0 = cI σ 48) (h1 : sI σ 67 1 = cI σ 49) (ht : ∀ j, j < 400 → σ.1 68 j = σ.1 114 j) : KE K11 σ := fun q hq => by
  rcases List.mem_cons.mp hq with rfl | hq
  · exact Int32.toInt_inj.mp h
  rcases List.mem_cons.mp hq with rfl | hq
  · exact Int32.toInt_inj.mp h0
  rcases List.mem_cons.mp hq with rfl | hq
  · exact Int32.toInt_inj.mp h1
  obtain ⟨j, hj, rfl⟩ := List.mem_map.mp hq
  exact ht j (List.mem_range.mp hj)
set_option maxRecDepth 20000 in
theorem x_txc {tp : Nat → Int} {n : Nat} {σ : pm_S} (hB : an_GB pm_B σ) (hb : pt_B tp n σ) : Sp 137 136 [.ref 0] σ (fun r τ => an_GB pm_B τ ∧ sI τ 67 2 = 0 ∧ FQ FTr σ τ ∧ (((tX tp n).1 = 0 ∧ r = some (.int (Int32.ofInt ((tX tp n).2.1 : Int))) ∧ sI τ 67 0 = 0 ∧ sI τ 67 1 = -1 ∧ sI τ 31 0 = ((tX tp n).2.1 : Int) ∧ sI τ 31 1 = ((tX tp n).2.2.flatten.length : Int) ∧ (tX tp n).2.2.flatten.length ≤ 400 ∧ ∀ j, j < (tX tp n).2.2.flatten.length → sI τ 32 j = (tX tp n).2.2.flatten.getD j 0) ∨ ((tX tp n).1 ≠ 0 ∧ r = some (.int (Int32.ofInt (-1))) ∧ FQ FTn σ τ ∧ sI τ 67 0 = ((tX tp n).1 : Int) ∧ sI τ 67 1 = ((ts_P tp n (tX tp n).2.1 : Nat) : Int)))) := by
  refine Sp.at rfl rfl ?_
  refine pv_t0 hB ?_
  intro τ1 y1 hB1 F1 _ _ _ _
  refine Ok.cv rfl rfl rfl rfl rfl rfl rfl ?_
  refine (x_rdi hB1 (hb.fq (G := []) rfl F1)).use (by decide) (fun r τ2 q => ?_)
  obtain ⟨hB2, z2, q⟩ := q
  rcases q with ⟨q1, rfl, q3, F2, q5, q6, q7, q8, q9, q10⟩ | ⟨q1, q2, rfl, F2, q5, q6⟩
  · refine pv_t6 (tX tp n).2.1 hB2 ⟨by omega, trivial⟩ ?_
    intro τ3 y3 hB3 F3 _ _ _ _
    exact ⟨hB3, (congrArg Int32.toInt (F3 67 2 rfl)).trans z2, FQ.tr (FQ.up (G := []) rfl F1) (FQ.tr F2 (FQ.up (G := []) rfl F3)), Or.inl ⟨q1, rfl, (congrArg Int32.toInt (F3 67 0 rfl)).trans q5, (congrArg Int32.toInt (F3 67 1 rfl)).trans q6, (congrArg Int32.toInt (F3 31 0 rfl)).trans q7, (congrArg Int32.toInt (F3 31 1 rfl)).trans q8, q9, fun j hj => (congrArg Int32.toInt (F3 32 j rfl)).trans (q10 j hj)⟩⟩
  · refine pv_t6 (-1) hB2 ⟨by decide, trivial⟩ ?_
    intro τ3 y3 hB3 F3 _ _ _ _
    have G3 : FQ FTn σ τ3 := FQ.tr (FQ.up (G := []) rfl F1) (FQ.tr F2 (FQ.up (G := []) rfl F3))
    exact ⟨hB3, (congrArg Int32.toInt (F3 67 2 rfl)).trans z2, FQ.up (G := FTn) rfl G3, Or.inr ⟨q1, rfl, G3, (congrArg Int32.toInt (F3 67 0 rfl)).trans q5, (congrArg Int32.toInt (F3 67 1 rfl)).trans q6⟩⟩
/-- the tape, as both sides have it -/
theorem K11.b {σ : pm_S} (hB : an_GB pm_B σ) (h : KE K11 σ) : pt_B (fun j => sI σ 68 j) (cI σ 30).toNat σ ∧ mt_B (fun j => sI σ 68 j) (cI σ 30).toNat σ := by
  obtain ⟨k2, _, _, kt⟩ := K11.e h
  have g30 : 0 ≤ cI σ 30 ∧ cI σ 30 ≤ 400 := hB 93 30 (by decide)
  have r : ∀ j, j < (cI σ 30).toNat → 0 ≤ sI σ 68 j ∧ sI σ 68 j ≤ 255 := fun j hj => by
    have b : 0 ≤ sI σ 114 j ∧ sI σ 114 j ≤ 255 := hB 114 j (show j < 400 by omega)
    have e : sI σ 68 j = sI σ 114 j := congrArg Int32.toInt (kt j (by omega))
    omega
  refine ⟨⟨by omega, by rw [k2]; omega, fun j _ => rfl, r⟩, ⟨by omega, by omega, fun j hj => (congrArg Int32.toInt (kt j (by omega))).symm, r⟩⟩
theorem t11_text : Two 1 true (IK K11) (IK K11) 137 195 [] := by
  intro σ hI
  obtain ⟨pb, mb⟩ := K11.b hI.1 hI.2.2
  obtain ⟨_, _, _, kt⟩ := K11.e hI.2.2
  generalize (fun j => sI σ 68 j) = tp at pb mb
  generalize (cI σ 30).toNat = n at pb mb
  refine (x_txc hI.1 pb).use (by decide) (fun r τ q => ?_)
  obtain ⟨hB1, z2, F1, q⟩ := q
  have hPτ : mP τ := mP93 σ τ (fun p j hp => F1 p j (an_foot93 rfl hp)) hI.2.1
  refine ⟨?_, (x_mtx hB1 (mb.fq (G := FTr) rfl F1)).use (by decide) (fun r2 τ2 q2 => ?_)⟩
  · rcases q with ⟨_, rfl, _⟩ | ⟨_, rfl, _⟩
    · exact ⟨_, rfl⟩
    · exact ⟨_, rfl⟩
  · obtain ⟨hB2, z3, F2, q2⟩ := q2
    have tape : ∀ j, j < 400 → τ2.1 68 j = τ2.1 114 j := fun j hj => by
      rw [F2 68 j rfl, F2 114 j rfl, F1 68 j rfl, F1 114 j rfl]
      exact kt j hj
    have len : sI τ2 67 2 = cI τ2 30 := ((congrArg Int32.toInt (F2 67 2 rfl)).trans z2).trans z3.symm
    have done : lwW τ2 → mP τ2 := fun w => by
      refine ⟨⟨⟨w, unl.fr FTX rfl rfl rfl F2 hPτ.1.1.2⟩, ?_⟩, mP_img (F2.c 64 rfl) (fun i => F2 133 i rfl) hPτ⟩
      unfold sPP
      rw [F2.c 2 rfl, F2.c 5 rfl]
      exact hPτ.1.2
    rcases q with ⟨x1, rfl, a0, a1, _⟩ | ⟨x1, rfl, _, a0, a1⟩
    · rcases q2 with ⟨_, rfl, _, _, b0, b1, w⟩ | ⟨x2, _⟩
      · exact ⟨⟨_, rfl⟩, fun _ => rfl, hB2, done (lwW_L (psX_w (fun j => ts_T_r j) 17 0 0 x1) w), K11.i len (((congrArg Int32.toInt (F2 67 0 rfl)).trans a0).trans b0.symm) (((congrArg Int32.toInt (F2 67 1 rfl)).trans a1).trans b1.symm) tape⟩
      · exact absurd x1 x2
    · rcases q2 with ⟨x2, _⟩ | ⟨_, rfl, b0, b1, w, e36⟩
      · exact absurd x2 x1
      · exact ⟨⟨_, rfl⟩, fun _ => rfl, hB2, done (lwW_of hB1 e36 w hPτ.1.1.1), K11.i len (((congrArg Int32.toInt (F2 67 0 rfl)).trans a0).trans b0.symm) (((congrArg Int32.toInt (F2 67 1 rfl)).trans a1).trans b1.symm) tape⟩
theorem t11_fault (a1 : Int32) : Two 1 true (IK K11) (IK K11) 138 196 [.int a1] := by
  intro σ hI
  obtain ⟨k2, k0, k1, kt⟩ := K11.e hI.2.2
  have g0 : 0 ≤ sI σ 67 0 ∧ sI σ 67 0 ≤ 3 := hI.1 67 0 (by decide)
  have model : ∀ (τ : pm_S) (v : Int), an_GB pm_B τ → FQ [] σ τ → (a1.toInt = 0 → v = sI σ 67 0) → (a1.toInt = 1 → v = sI σ 67 1) → (a1.toInt ≠ 0 → a1.toInt ≠ 1 → v = -1) → Sp 196 1200 [.ref 93, .int (Int32.ofInt a1.toInt)] τ (fun r' τ' => an_sh 1 r' ∧ (true = true → some (.int (Int32.ofInt v)) = r') ∧ IK K11 τ') := by
    intro τ v hB F v0 v1 vn
    have hPτ : mP τ := mP93 σ τ (fun p j hp => F p j rfl) hI.2.1
    have fin : ∀ τ2 : pm_S, an_GB pm_B τ2 → FQ [(93, 0)] τ τ2 → IK K11 τ2 := fun τ2 hB2 F2 =>
      ⟨hB2, mP.fr [(93, 0)] rfl rfl rfl rfl rfl rfl rfl rfl rfl rfl rfl rfl F2 hPτ, K11.i (by rw [show sI τ2 67 2 = sI σ 67 2 from congrArg Int32.toInt ((F2 67 2 rfl).trans (F 67 2 rfl)), show cI τ2 30 = cI σ 30 from congrArg Int32.toInt ((F2 93 30 rfl).trans (F 93 30 rfl))]; exact k2) (by rw [show sI τ2 67 0 = sI σ 67 0 from congrArg Int32.toInt ((F2 67 0 rfl).trans (F 67 0 rfl)), show cI τ2 48 = cI σ 48 from congrArg Int32.toInt ((F2 93 48 rfl).trans (F 93 48 rfl))]; exact k0) (by rw [show sI τ2 67 1 = sI σ 67 1 from congrArg Int32.toInt ((F2 67 1 rfl).trans (F 67 1 rfl)), show cI τ2 49 = cI σ 49 from congrArg Int32.toInt ((F2 93 49 rfl).trans (F 93 49 rfl))]; exact k1) (fun j hj => by rw [F2 68 j rfl, F2 114 j rfl, F 68 j rfl, F 114 j rfl]; exact kt j hj)⟩
    refine Sp.up (D := 5) ?_ (by decide)
    refine Sp.at rfl rfl ?_
    refine qv_w a1.toInt (sI σ 67 0) (sI σ 67 1) hB ⟨ai_rng a1, by omega, ai_rng _, trivial⟩ ⟨(congrArg Int32.toInt (F 93 48 rfl)).trans k0.symm, (congrArg Int32.toInt (F 93 49 rfl)).trans k1.symm, trivial⟩ ?_ ?_ ?_
    · intro τ2 y2 hB2 F2 _ rl _ _
      have e := vn rl.2.1 rl.1
      rw [e]
      exact ⟨⟨_, rfl⟩, fun _ => rfl, fin τ2 hB2 F2⟩
    · intro τ2 y2 hB2 F2 f _ _ _
      have f1 := f.1
      have e := v1 (by omega)
      rw [e]
      exact ⟨⟨_, rfl⟩, fun _ => rfl, fin τ2 hB2 F2⟩
    · intro τ2 y2 hB2 F2 f _ _ _
      have f1 := f.1
      have e := v0 (by omega)
      rw [e]
      exact ⟨⟨_, rfl⟩, fun _ => rfl, fin τ2 hB2 F2⟩
  rw [← oI a1]
  refine Sp.up (D := 5) ?_ (by decide)
  refine Sp.at rfl rfl ?_
  refine pv_w a1.toInt (sI σ 67 0) (sI σ 67 1) hI.1 ⟨ai_rng a1, g0, ai_rng _, trivial⟩ ⟨rfl, rfl, trivial⟩ ?_ ?_ ?_
  · intro τ y hB F _ rl _ _
    have r1 := rl.1
    have r2 := rl.2.1
    exact ⟨⟨_, rfl⟩, model τ (-1) hB F (fun z => absurd z r2) (fun z => absurd z r1) (fun _ _ => rfl)⟩
  · intro τ y hB F f _ _ _
    have f1 := f.1
    exact ⟨⟨_, rfl⟩, model τ (sI σ 67 1) hB F (fun z => by omega) (fun _ => rfl) (fun _ z => by omega)⟩
  · intro τ y hB F f _ _ _
    have f1 := f.1
    exact ⟨⟨_, rfl⟩, model τ (sI σ 67 0) hB F (fun _ => rfl) (fun z => by omega) (fun z => by omega)⟩
theorem t11_feed (a1 a2 a3 a4 a5 : Int32) : Two 1 true (IK K11) (IK K11) 135 175 [.int a1, .int a2, .int a3, .int a4, .int a5] := by
  intro σ hI
  obtain ⟨k2, k0, k1, kt⟩ := K11.e hI.2.2
  have g30 : 0 ≤ cI σ 30 ∧ cI σ 30 ≤ 400 := hI.1 93 30 (by decide)
  have n30 : (((cI σ 30).toNat : Nat) : Int) = cI σ 30 := by omega
  rw [← oI a1, ← oI a2, ← oI a3, ← oI a4, ← oI a5]
  refine (x_fdc a1.toInt a2.toInt a3.toInt a4.toInt a5.toInt (ai_rng _) (ai_rng _) (ai_rng _) (ai_rng _) (ai_rng _) (cI σ 30).toNat (by omega) hI.1 (by rw [k2]; exact n30.symm)).use (by decide) (fun r τ q => ?_)
  obtain ⟨hB1, F1, q⟩ := q
  have hPτ : mP τ := mP93 σ τ (fun p j hp => F1 p j (an_foot93 rfl hp)) hI.2.1
  refine ⟨?_, (x_anm a1.toInt a2.toInt a3.toInt a4.toInt a5.toInt (ai_rng _) (ai_rng _) (ai_rng _) (ai_rng _) (ai_rng _) (cI σ 30).toNat (by omega) hB1 ((congrArg Int32.toInt (F1 93 30 rfl)).trans n30.symm)).use (by decide) (fun r2 τ2 q2 => ?_)⟩
  · rcases q with ⟨_, rfl, _⟩ | ⟨_, rfl, _⟩
    · exact ⟨_, rfl⟩
    · exact ⟨_, rfl⟩
  · obtain ⟨hB2, F2, q2⟩ := q2
    have hP2 : mP τ2 := mP.fr [(93, 0), (93, 30), (114, 9999)] rfl rfl rfl rfl rfl rfl rfl rfl rfl rfl rfl rfl F2 hPτ
    have f0 : sI τ2 67 0 = cI τ2 48 := by
      rw [show sI τ2 67 0 = sI σ 67 0 from congrArg Int32.toInt ((F2 67 0 rfl).trans (F1 67 0 rfl)), show cI τ2 48 = cI σ 48 from congrArg Int32.toInt ((F2 93 48 rfl).trans (F1 93 48 rfl))]
      exact k0
    have f1 : sI τ2 67 1 = cI τ2 49 := by
      rw [show sI τ2 67 1 = sI σ 67 1 from congrArg Int32.toInt ((F2 67 1 rfl).trans (F1 67 1 rfl)), show cI τ2 49 = cI σ 49 from congrArg Int32.toInt ((F2 93 49 rfl).trans (F1 93 49 rfl))]
      exact k1
    have m114 : τ.1 114 = σ.1 114 := funext (fun j => F1 114 j rfl)
    rcases q with ⟨x1, rfl, a2, a3⟩ | ⟨x1, rfl, a2, a3⟩
    · rcases q2 with ⟨_, rfl, b2, b3⟩ | ⟨x2, _⟩
      · refine ⟨⟨_, rfl⟩, fun _ => rfl, hB2, hP2, K11.i (((congrArg Int32.toInt (F2 67 2 rfl)).trans a2).trans b2.symm) f0 f1 (fun j hj => ?_)⟩
        rw [F2 68 j rfl, a3, b3, m114]
        exact tw20_e kt _ _ _ _ _ _ j hj
      · exfalso
        omega
    · rcases q2 with ⟨x2, _⟩ | ⟨_, rfl, b2, b3⟩
      · exfalso
        omega
      · refine ⟨⟨_, rfl⟩, fun _ => rfl, hB2, hP2, K11.i (((congrArg Int32.toInt (F2 67 2 rfl)).trans a2).trans b2.symm) f0 f1 (fun j hj => ?_)⟩
        rw [F2 68 j rfl, a3, b3, m114]
        exact kt j hj
theorem t11_end (a1 : Int32) : Two 1 true (IK K11) (IK K11) 136 176 [.int a1] := by
  intro σ hI
  obtain ⟨e, k0, k1, kt⟩ := K11.e hI.2.2
  have fin : ∀ τ2 : pm_S, FQ [(67, 2), (93, 0), (93, 30)] σ τ2 → sI τ2 67 2 = cI τ2 30 → KE K11 τ2 := fun τ2 F h => K11.i h (by rw [show sI τ2 67 0 = sI σ 67 0 from congrArg Int32.toInt (F 67 0 rfl), show cI τ2 48 = cI σ 48 from congrArg Int32.toInt (F 93 48 rfl)]; exact k0) (by rw [show sI τ2 67 1 = sI σ 67 1 from congrArg Int32.toInt (F 67 1 rfl), show cI τ2 49 = cI σ 49 from congrArg Int32.toInt (F 93 49 rfl)]; exact k1) (fun j hj => by rw [F 68 j rfl, F 114 j rfl]; exact kt j hj)
  have g : 0 ≤ cI σ 30 ∧ cI σ 30 ≤ 400 := hI.1 93 30 (by decide)
  have e : (σ.1 67 2).toInt = cI σ 30 := e
  rw [← oI a1]
  have ea : (Int32.ofInt a1.toInt).toInt = a1.toInt := by rw [oI]
  refine (x_endC (ai_rng a1)).use (by decide) (fun r τ q => ?_)
  rcases q with ⟨q, rfl, rfl⟩ | ⟨q, rfl, rfl⟩
  · refine ⟨⟨_, rfl⟩, (x_endM (ai_rng a1)).use (by decide) (fun r2 τ2 q2 => ?_)⟩
    rcases q2 with ⟨q2, rfl, rfl⟩ | ⟨q2, rfl, rfl⟩
    · have F : FQ [(93, 0)] τ (put τ 93 0 (pm_iv 0 0)) := fq_put1 rfl
      exact ⟨⟨_, rfl⟩, fun _ => rfl, put_GB hI.1 (by decide), mP.fr _ rfl rfl rfl rfl rfl rfl rfl rfl rfl rfl rfl rfl F hI.2.1, fin _ (FQ.up (G := [(93, 0)]) rfl F) (by show ((put τ 93 0 (pm_iv 0 0)).1 67 2).toInt = _; rw [F 67 2 rfl, F.c 30 rfl]; exact e)⟩
    · exfalso
      omega
  · have B1 : an_GB pm_B (put σ 67 2 (Int32.ofInt a1.toInt)) := put_GB hI.1 (by
      show (0 : Int) ≤ (Int32.ofInt a1.toInt).toInt ∧ (Int32.ofInt a1.toInt).toInt ≤ 400
      omega)
    have F0 : FQ [(67, 2)] σ (put σ 67 2 (Int32.ofInt a1.toInt)) := fq_put1 rfl
    have P1 : mP (put σ 67 2 (Int32.ofInt a1.toInt)) := mP93 σ _ (fun p j hp => F0 p j (an_foot93 rfl hp)) hI.2.1
    have e1 : ((put σ 67 2 (Int32.ofInt a1.toInt)).1 67 2).toInt = a1.toInt := by rw [put_eq, oI]
    have e2 : cI (put σ 67 2 (Int32.ofInt a1.toInt)) 30 = cI σ 30 := F0.c 30 rfl
    generalize put σ 67 2 (Int32.ofInt a1.toInt) = τ at B1 P1 e1 e2 F0 ⊢
    refine ⟨⟨_, rfl⟩, (x_endM (ai_rng a1)).use (by decide) (fun r2 τ2 q2 => ?_)⟩
    rcases q2 with ⟨q2, rfl, rfl⟩ | ⟨q2, rfl, rfl⟩
    · exfalso
      omega
    · have F : FQ [(93, 0), (93, 30)] τ (put (put τ 93 0 (pm_iv 0 0)) 93 30 (Int32.ofInt a1.toInt)) := FQ.tr (fq_put1 rfl) (fq_put1 rfl)
      refine ⟨⟨_, rfl⟩, fun _ => rfl, put_GB (put_GB B1 (by decide)) ?_, mP.fr _ rfl rfl rfl rfl rfl rfl rfl rfl rfl rfl rfl rfl F P1, fin _ (FQ.tr (FQ.up (G := [(67, 2)]) rfl F0) (FQ.up (G := [(93, 0), (93, 30)]) rfl F)) ?_⟩
      · show (0 : Int) ≤ (Int32.ofInt a1.toInt).toInt ∧ (Int32.ofInt a1.toInt).toInt ≤ 400
        omega
      · show ((put (put τ 93 0 (pm_iv 0 0)) 93 30 (Int32.ofInt a1.toInt)).1 67 2).toInt = _
        rw [F 67 2 rfl, e1]
        show _ = ((put _ 93 30 _).1 93 30).toInt
        rw [put_eq, oI]
/-! keys that no image holds -/
def KJ (K : KY) : Bool := K.all (fun q => match psI q.1 q.2.1, psI q.2.2.1 q.2.2.2 with
  | none, none => Nat.ble q.1 92 && (Nat.ble (q.2.2.2 + 1) 65 && Nat.beq q.2.2.1 93 || Nat.ble 94 q.2.2.1 && Nat.ble q.2.2.1 132)
  | _, _ => false)
theorem KX.im2 {K : KY} (hk : KC K FIm = true) (hi : KJ K = true) {σ σ1 τ : pm_S} (F1 : FQ FIm σ σ1) (hfr : ∀ p j, p ≠ 133 → ¬ (p = 93 ∧ j = 65) → psI p j = none → τ.1 p j = σ1.1 p j) : KX K σ τ := fun q hq => by
  have a := KX.of hk F1 q hq
  have b := List.all_eq_true.mp hi q hq
  split at b
  · rename_i e1 e2
    rw [Bool.and_eq_true, Bool.or_eq_true, Bool.and_eq_true, Bool.and_eq_true] at b
    have b1 := Nat.le_of_ble_eq_true b.1
    refine ⟨(hfr _ _ (by omega) (by omega) e1).trans a.1, (hfr _ _ ?_ ?_ e2).trans a.2⟩
    · rcases b.2 with b2 | b2
      · have := Nat.eq_of_beq_eq_true b2.2
        omega
      · have := Nat.le_of_ble_eq_true b2.2
        omega
    · rcases b.2 with b2 | b2
      · have := Nat.le_of_ble_eq_true b2.1
        omega
      · have := Nat.le_of_ble_eq_true b2.1
        omega
  · cases b
theorem kx_image2 {K : KY} (hk : KC K FIm = true) (hi : KJ K = true) (w : Int32) (hw : w = 0 ∨ w = 1) : mKX K 1 245 [.int w] := by
  intro σ hB hp
  have ht : w.toInt = 0 ∨ w.toInt = 1 := by
    rcases hw with rfl | rfl
    · exact Or.inl rfl
    · exact Or.inr rfl
  rw [← oI w]
  refine (m_image hB hp.2.1 w.toInt ht).use (by decide) (fun r τ q => ?_)
  obtain ⟨q1, q2⟩ := q
  rcases q2 with ⟨k1, F, k3, -⟩ | ⟨h64, σ1, hB1, F1, hI, -⟩
  · refine ⟨q1, k1, ?_, KX.of hk F⟩
    have F0 : FQ [(93, 0), (93, 63), (93, 65), (93, 64)] σ τ := F.up rfl
    refine ⟨⟨pPP.fr FIm rfl rfl rfl rfl rfl rfl rfl rfl F hp.1.1, ?_⟩, mP_img k3 (fun i => F 133 i rfl) hp⟩
    unfold sPP
    rw [F.c 2 rfl, F.c 5 rfl]
    exact hp.1.2
  · obtain ⟨hBt, i65, i63, i64, hall, hfr⟩ := hI
    refine ⟨q1, hBt, ?_, KX.im2 hk hi F1 hfr⟩
    have hv : ∀ i, i < 1431 → qsV τ i = vI σ1 w.toInt i ∧ τ.1 133 i = vI σ1 w.toInt i := fun i hi => (hall i hi).1 hi
    have same : ∀ i, i < 1431 → qsV τ i = τ.1 133 i := fun i hi => (hv i hi).1.trans (hv i hi).2.symm
    have himg := p0_img hBt same
    -- what the state is that both come from
    have p1 : p0P σ1 := by
      refine ⟨pPP.fr FIm rfl rfl rfl rfl rfl rfl rfl rfl F1 hp.1.1, ?_⟩
      unfold sPP
      rw [F1.c 2 rfl, F1.c 5 rfl]
      exact hp.1.2
    have pt : p0P τ := by
      rcases ht with e | e
      · have h1 : cI σ 64 = 1 := h64.resolve_left (by omega)
        have e1 : imgS σ1 = imgS σ := imgS_e (fun i => F1 133 i rfl)
        refine (p0_img (σ := σ1) hBt (fun i hi => ?_)).1 (by rw [e1]; exact hp.2.2 h1)
        rw [(hv i hi).1]
        exact if_neg (by omega)
      · have a : ∀ i p j, i < 1431 → qsI i = (p, j) → τ.1 p j = σ1.1 p j := fun i p j hi hq => by
          have := (hv i hi).1
          unfold qsV at this
          rw [hq] at this
          rw [this]
          have : vI σ1 w.toInt i = qsV σ1 i := if_pos e
          rw [this]
          unfold qsV
          rw [hq]
        obtain ⟨a1, a2, a3, a4, a5, a6⟩ := psR
        have g36 : 0 ≤ cI σ1 36 ∧ cI σ1 36 ≤ 16 := hB1 93 36 (by decide)
        have g11 : 0 ≤ cI σ1 11 ∧ cI σ1 11 ≤ 30 := hB1 93 11 (by decide)
        exact p0_of g36.2 g11.2 (congrArg Int32.toInt (a 582 93 36 (by decide) rfl)) (congrArg Int32.toInt (a 250 93 11 (by decide) rfl)) (congrArg Int32.toInt (a 1 93 2 (by decide) rfl)) (congrArg Int32.toInt (a 192 93 5 (by decide) rfl)) (fun j hj => ⟨a _ 101 j (a1 j hj).2 (a1 j hj).1, a _ 102 j (a2 j hj).2 (a2 j hj).1⟩) (fun j hj => ⟨a _ 117 j (a3 j hj).2 (a3 j hj).1, a _ 118 j (a4 j hj).2 (a4 j hj).1⟩) (fun j hj => ⟨a _ 119 j (a5 j hj).2 (a5 j hj).1, a _ 120 j (a6 j hj).2 (a6 j hj).1⟩) p1
    refine ⟨pt, fun _ i hi => ?_, fun _ => himg.2 pt⟩
    rw [← same i hi]
    exact hBt _ _ (qs_len i hi)
