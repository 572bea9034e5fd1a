/-! the beginning -/
abbrev I7 : pm_S → Prop := fun σ => an_GB pm_B σ ∧ mP σ
def RTb0 (t : Nat → Nat → Int32) (u : Nat → Int32) : Bool := (([t 13 0, t 7 0, t 3 0, u 250, u 192, u 1, t 1 1, t 31 0, t 31 1, u 582] : List Int32).all (fun w => decide (w = 0)) && (([(t 1 0, u 0), (t 1 1, u 243), (t 1 2, u 244), (t 1 3, u 245)] : List (Int32 × Int32)).all (fun w => decide (w.1 = w.2)) && (List.range 4).all (fun j => decide (t 2 j = u (246 + j))))) && ((List.range 10).all (fun p => decide (u (197 + 5 * p) = 0)) && (List.range 10).all (fun a => (List.range 10).all (fun b => Nat.beq a b || decide ((t 5 (a * 10 + b)).toInt = 9 + (u (12 + (a * 10 + b))).toInt))))
theorem RTb0_ok {t : Nat → Nat → Int32} {u : Nat → Int32} (h : RTb0 t u = true) : ∃ (D N S : Nat) (ls : List (List Int)), TW D N S ls (tu t u) := by
  unfold RTb0 at h
  rw [Bool.and_eq_true, Bool.and_eq_true, Bool.and_eq_true, Bool.and_eq_true] at h
  obtain ⟨⟨h0, h1, h2⟩, h3, h4⟩ := h
  have z : ∀ w : Int32, w ∈ [t 13 0, t 7 0, t 3 0, u 250, u 192, u 1, t 1 1, t 31 0, t 31 1, u 582] → w.toInt = 0 := fun w hw => by
    rw [of_decide_eq_true (List.all_eq_true.mp h0 w hw)]
    rfl
  have e : ∀ w : Int32 × Int32, w ∈ [(t 1 0, u 0), (t 1 1, u 243), (t 1 2, u 244), (t 1 3, u 245)] → w.1 = w.2 := fun w hw => of_decide_eq_true (List.all_eq_true.mp h1 w hw)
  have m0 : ∀ {a b c d e f g h i j : Int32}, a ∈ [a, b, c, d, e, f, g, h, i, j] ∧ b ∈ [a, b, c, d, e, f, g, h, i, j] ∧ c ∈ [a, b, c, d, e, f, g, h, i, j] ∧ d ∈ [a, b, c, d, e, f, g, h, i, j] ∧ e ∈ [a, b, c, d, e, f, g, h, i, j] ∧ f ∈ [a, b, c, d, e, f, g, h, i, j] ∧ g ∈ [a, b, c, d, e, f, g, h, i, j] ∧ h ∈ [a, b, c, d, e, f, g, h, i, j] ∧ i ∈ [a, b, c, d, e, f, g, h, i, j] ∧ j ∈ [a, b, c, d, e, f, g, h, i, j] := by simp
  have m1 : ∀ {a b c d : Int32 × Int32}, a ∈ [a, b, c, d] ∧ b ∈ [a, b, c, d] ∧ c ∈ [a, b, c, d] ∧ d ∈ [a, b, c, d] := by simp
  obtain ⟨k0, k1, k2, k3, k4, k5, k6, k7, k8, k9⟩ := m0 (a := t 13 0) (b := t 7 0) (c := t 3 0) (d := u 250) (e := u 192) (f := u 1) (g := t 1 1) (h := t 31 0) (i := t 31 1) (j := u 582)
  obtain ⟨l0, l1, l2, l3⟩ := m1 (a := (t 1 0, u 0)) (b := (t 1 1, u 243)) (c := (t 1 2, u 244)) (d := (t 1 3, u 245))
  have z6 := z _ k6
  have no : ∀ {P : Prop} {x : Nat}, x < 0 → P := fun h => absurd h (Nat.not_lt_zero _)
  refine ⟨0, 0, 0, [], ⟨z _ k0, z _ k1, z _ k2, z _ k3, z _ k4, z _ k5⟩, ⟨⟨by decide, by decide, by decide⟩, ⟨e _ l0, e _ l1, e _ l2, e _ l3, fun j hj => of_decide_eq_true (List.all_eq_true.mp h2 j (List.mem_range.mpr hj))⟩, ⟨fun a ha => no ha, fun a b ha => no ha⟩, fun p hp => no hp, fun d hd => no hd, fun p hp => no hp, fun d hd => no hd⟩, ?_, fun a b ha hb hab => ?_, fun p _ hp => of_decide_eq_true (List.all_eq_true.mp h3 p (List.mem_range.mpr hp)), by decide, fun l hl => absurd hl List.not_mem_nil, ⟨z _ k7, z _ k8, by decide, fun j hj => no hj⟩, z _ k9, trivial, by decide, fun j hj => no hj⟩
  · show 0 ≤ (t 1 1).toInt ∧ (t 1 1).toInt ≤ 9999
    omega
  · have q := List.all_eq_true.mp (List.all_eq_true.mp h4 a (List.mem_range.mpr ha)) b (List.mem_range.mpr hb)
    rw [Bool.or_eq_true] at q
    rcases q with q | q
    · exact absurd (Nat.eq_of_beq_eq_true q) hab
    · exact of_decide_eq_true q
def RTb (t : Nat → Nat → Int32) (u : Nat → Int32) : Bool := RTb0 t u && decide (t 21 0 = u 461)
theorem RTb_ok {t : Nat → Nat → Int32} {u : Nat → Int32} (h : RTb t u = true) : RT t u := by
  unfold RTb at h
  rw [Bool.and_eq_true] at h
  exact ⟨RTb0_ok h.1, of_decide_eq_true h.2⟩
def gbF (p : Nat) : Bool := match pm_nth pm_B p with
  | some (true, q :: _) => an_le q.1 (-2147483648) && an_le 2147483647 q.2
  | some (false, _) => false
  | _ => true
theorem gbF_ok {p j : Nat} (h : gbF p = true) {x : Int32} : (an_bd pm_B p j).1 ≤ x.toInt ∧ x.toInt ≤ (an_bd pm_B p j).2 := by
  have g := ai_rng x
  unfold gbF at h
  unfold an_bd
  split at h
  · rename_i q _ e
    rw [e]
    rw [Bool.and_eq_true, an_le_iff, an_le_iff] at h
    dsimp only
    omega
  · cases h
  · rename_i e1 e2
    split
    · rename_i e
      exact absurd e (e1 _ _)
    · rename_i e
      exact absurd e (e2 _)
    · exact g
set_option maxRecDepth 100000 in
theorem gb_all : ((List.range 134).all (fun p => gbF p || (List.range (an_len p)).all (fun j => an_le (an_bd pm_B p j).1 (pm_s0.1 p j).toInt && an_le (pm_s0.1 p j).toInt (an_bd pm_B p j).2)) && decide (pm_s0.1 93 5 = 0) && decide (pm_s0.1 93 36 = 0) && decide (pm_s0.1 93 11 = 0) && decide (pm_s0.1 93 64 = 0) && (K11).all (fun q => decide (pm_s0.1 q.1 q.2.1 = pm_s0.1 q.2.2.1 q.2.2.2)) && decide (pm_s0.1 0 2 = pm_s0.1 93 64) && RTb (tS pm_s0) (uS pm_s0)) = true := by decide +kernel
theorem gb_s : (List.range 134).all (fun p => gbF p || (List.range (an_len p)).all (fun j => an_le (an_bd pm_B p j).1 (pm_s0.1 p j).toInt && an_le (pm_s0.1 p j).toInt (an_bd pm_B p j).2)) = true ∧ pm_s0.1 93 5 = 0 ∧ pm_s0.1 93 36 = 0 ∧ pm_s0.1 93 11 = 0 ∧ pm_s0.1 93 64 = 0 ∧ (∀ q ∈ K11, pm_s0.1 q.1 q.2.1 = pm_s0.1 q.2.2.1 q.2.2.2) ∧ pm_s0.1 0 2 = pm_s0.1 93 64 ∧ RTb (tS pm_s0) (uS pm_s0) = true := by
  have h := gb_all
  rw [Bool.and_eq_true, Bool.and_eq_true, Bool.and_eq_true, Bool.and_eq_true, Bool.and_eq_true, Bool.and_eq_true, Bool.and_eq_true] at h
  exact ⟨h.1.1.1.1.1.1.1, of_decide_eq_true h.1.1.1.1.1.1.2, of_decide_eq_true h.1.1.1.1.1.2, of_decide_eq_true h.1.1.1.1.2, of_decide_eq_true h.1.1.1.2, fun q hq => of_decide_eq_true (List.all_eq_true.mp h.1.1.2 q hq), of_decide_eq_true h.1.2, h.2⟩
set_option maxRecDepth 100000 in
theorem len_134 {p : Nat} (h : 134 ≤ p) : an_len p = 0 := by
  unfold an_len
  have : pm_nth pm_lay p = none := by
    rw [pm_nth_eq]
    exact List.getElem?_eq_none (by show 134 ≤ p; exact h)
  rw [this]
theorem I7_0 : I7 pm_s0 := by
  have e5 : cI pm_s0 5 = 0 := by
      show (pm_s0.1 93 5).toInt = 0
      rw [gb_s.2.1]
      rfl
  refine ⟨fun p j hj => ?_, ⟨⟨fun i hi => ?_, fun d hd => ?_⟩, Or.inr e5⟩, fun z => ?_, fun z => ?_⟩
  · by_cases h : 134 ≤ p
    · rw [len_134 h] at hj
      exact absurd hj (Nat.not_lt_zero _)
    · have h1 := List.all_eq_true.mp gb_s.1 p (List.mem_range.mpr (by omega))
      rw [Bool.or_eq_true] at h1
      rcases h1 with h1 | h1
      · exact gbF_ok h1
      · have h2 := List.all_eq_true.mp h1 j (List.mem_range.mpr hj)
        rw [Bool.and_eq_true, an_le_iff, an_le_iff] at h2
        exact h2
  · have e : cI pm_s0 36 = 0 := by
      show (pm_s0.1 93 36).toInt = 0
      rw [gb_s.2.2.1]
      rfl
    omega
  · have e : cI pm_s0 11 = 0 := by
      show (pm_s0.1 93 11).toInt = 0
      rw [gb_s.2.2.2.1]
      rfl
    omega
  · have e : cI pm_s0 64 = 0 := by
      show (pm_s0.1 93 64).toInt = 0
      rw [gb_s.2.2.2.2.1]
      rfl
    omega
  · have e : cI pm_s0 64 = 0 := by
      show (pm_s0.1 93 64).toInt = 0
      rw [gb_s.2.2.2.2.1]
      rfl
    omega
