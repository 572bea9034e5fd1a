/-! steps of a law: depth, and whether the last is a number that is not 0 -/
def wS (o a : Int32) (s : Nat × Bool) : Option (Nat × Bool) :=
  if o.toInt = 0 then some (s.1 + 1, decide (a.toInt ≠ 0))
  else if o.toInt = 1 then (if 0 ≤ a.toInt ∧ a.toInt ≤ 8 then some (s.1 + 1, false) else none)
  else if o.toInt = 9 then (if 1 ≤ s.1 then some (s.1, false) else none)
  else if o.toInt = 5 then (if 2 ≤ s.1 ∧ s.2 = true then some (s.1 - 1, false) else none)
  else (if 2 ≤ s.1 then some (s.1 - 1, false) else none)
def wR (o a : Nat → Int32) (k : Nat) : Nat → Option (Nat × Bool)
  | 0 => some (0, false)
  | n + 1 => (wR o a k n).bind (wS (o (k + n)) (a (k + n)))
theorem wR_congr {o a o' a' : Nat → Int32} {k : Nat} : ∀ (n : Nat), (∀ j, k ≤ j → j < k + n → o' j = o j ∧ a' j = a j) → wR o' a' k n = wR o a k n := by
  intro n
  induction n with
  | zero => intro _; rfl
  | succ n ih =>
    intro h
    show (wR o' a' k n).bind _ = (wR o a k n).bind _
    rw [ih (fun j h1 h2 => h j h1 (by omega)), (h (k + n) (by omega) (by omega)).1, (h (k + n) (by omega) (by omega)).2]
theorem ti_of {z : Int} (h1 : -2147483648 ≤ z) (h2 : z ≤ 2147483647) : (Int32.ofInt z).toInt = z := ai_of h1 h2
abbrev FEm : List (Nat × Nat) := [(93, 42), (119, 9999), (120, 9999)]
abbrev QE (σ : pm_S) (w v : Int) : Option Value → pm_S → Prop := fun r τ => r = none ∧ an_GB pm_B τ ∧ FQ FEm σ τ ∧ cI τ 42 = cI σ 42 + 1 ∧ (∀ j : Nat, j ≠ (cI σ 42 + 400).toNat → τ.1 119 j = σ.1 119 j ∧ τ.1 120 j = σ.1 120 j) ∧ τ.1 119 (cI σ 42 + 400).toNat = Int32.ofInt w ∧ τ.1 120 (cI σ 42 + 400).toNat = Int32.ofInt v
theorem m_emits {σ : pm_S} (hB : an_GB pm_B σ) (w v : Int) (hw : 0 ≤ w ∧ w ≤ 11) (hv : (-2147483648) ≤ v ∧ v ≤ 2147483647) (hc : cI σ 42 ≤ 399) : Sp 186 11 [.ref 93, .int (Int32.ofInt w), .int (Int32.ofInt v)] σ (QE σ w v) := by
  have g := (gB hB).2.2.2.2.1
  have hw2 : (-2147483648) ≤ w ∧ w ≤ 2147483647 := by omega
  refine Sp.at rfl rfl ?_
  refine sg_em0 w v (cI σ 42) hB ⟨hw2, hv, ⟨g.1, hc⟩, trivial⟩ ⟨rfl, trivial⟩ ?_
  intro τ y hB1 hF1 f r dd c
  refine Ok.ast (n := 800) rfl rfl rfl (by decide) (by omega) (by omega) ?_
  have hB2 : an_GB pm_B (put τ 119 (cI σ 42 + 400).toNat (Int32.ofInt w)) := put_GB hB1 (by
    show (0 : Int) ≤ (Int32.ofInt w).toInt ∧ (Int32.ofInt w).toInt ≤ 11
    rw [ti_of hw2.1 hw2.2]
    exact hw)
  refine sg_em1 w v (cI σ 42) hB2 ⟨hw2, hv, ⟨g.1, hc⟩, trivial⟩ ⟨by rw [put_nr (by decide)]; exact c.1, trivial⟩ ?_
  intro τ2 y hB3 hF3 f r dd c2
  refine Ok.ast (n := 800) rfl rfl rfl (by decide) (by omega) (by omega) ?_
  have hB4 : an_GB pm_B (put τ2 120 (cI σ 42 + 400).toNat (Int32.ofInt v)) := put_GB hB3 (ai_rng _)
  refine sg_em2 w v (cI σ 42) hB4 ⟨hw2, hv, ⟨g.1, hc⟩, trivial⟩ ⟨by rw [put_nr (by decide)]; exact c2.1, trivial⟩ ?_
  intro τ3 y hB5 hF5 f r dd c3
  refine ⟨rfl, hB5, ?_, c3.1, ?_, ?_, ?_⟩
  · refine FQ.tr (FQ.tr (FQ.tr (FQ.tr (FQ.up (G := []) rfl hF1) (FQ.put rfl)) (FQ.up (G := []) rfl hF3)) (FQ.put rfl)) (FQ.up (G := [(93, 42)]) rfl hF5)
  · intro j hj
    constructor
    · rw [hF5 119 j rfl, put_nr (by decide), hF3 119 j rfl, put_nj hj, hF1 119 j rfl]
    · rw [hF5 120 j rfl, put_nj hj, hF3 120 j rfl, put_nr (by decide), hF1 120 j rfl]
  · rw [hF5 119 _ rfl, put_nr (by decide), hF3 119 _ rfl, put_eq]
  · rw [hF5 120 _ rfl, put_eq]
/-! what reading does to the rest -/
def PX (F : List (Nat × Nat)) (σ τ : pm_S) : Prop := an_GB pm_B τ ∧ FQ F σ τ ∧ (∀ j : Nat, (j : Int) < 400 + cI σ 42 → τ.1 119 j = σ.1 119 j ∧ τ.1 120 j = σ.1 120 j) ∧ cI σ 42 ≤ cI τ 42
theorem PX.tr {F : List (Nat × Nat)} {σ τ υ : pm_S} (h : PX F σ τ) (h' : PX F τ υ) : PX F σ υ := by
  refine ⟨h'.1, h.2.1.tr h'.2.1, fun j hj => ?_, Int.le_trans h.2.2.2 h'.2.2.2⟩
  have h1 := h.2.2.1 j hj
  have h2 := h'.2.2.1 j (by have := h.2.2.2; omega)
  exact ⟨h2.1.trans h1.1, h2.2.trans h1.2⟩
theorem PX.fr {F : List (Nat × Nat)} {σ τ : pm_S} (G : List (Nat × Nat)) (hs : an_subF G F = true) (h42 : an_inF G 93 42 = false) (h1 : an_inP G 119 = false) (h2 : an_inP G 120 = false) (hB : an_GB pm_B τ) (h : FQ G σ τ) : PX F σ τ :=
  ⟨hB, h.up hs, fun j _ => ⟨h 119 j (an_inP_ok h1 j), h 120 j (an_inP_ok h2 j)⟩, by show (σ.1 93 42).toInt ≤ (τ.1 93 42).toInt; rw [h 93 42 h42]; exact Int.le_refl _⟩
theorem PX.em {F : List (Nat × Nat)} {σ τ : pm_S} {w v : Int} {r : Option Value} (hs : an_subF FEm F = true) (hB : an_GB pm_B σ) (h : QE σ w v r τ) : PX F σ τ := by
  have g := (gB hB).2.2.2.2.1
  refine ⟨h.2.1, h.2.2.1.up hs, fun j hj => h.2.2.2.2.1 j (by omega), ?_⟩
  rw [h.2.2.2.1]
  omega
def Wd (σ : pm_S) (b d : Nat) (fl : Bool) : Prop := ∃ n : Nat, cI σ 42 = (b : Int) + n ∧ wR (σ.1 119) (σ.1 120) (400 + b) n = some (d, fl)
theorem Wd.fr {σ τ : pm_S} {b d : Nat} {fl : Bool} (G : List (Nat × Nat)) (h42 : an_inF G 93 42 = false) (h1 : an_inP G 119 = false) (h2 : an_inP G 120 = false) (hF : FQ G σ τ) (h : Wd σ b d fl) : Wd τ b d fl := by
  obtain ⟨n, e1, e2⟩ := h
  refine ⟨n, ?_, ?_⟩
  · show (τ.1 93 42).toInt = _
    rw [hF 93 42 h42]
    exact e1
  · rw [wR_congr n (fun j _ _ => ⟨hF 119 j (an_inP_ok h1 j), hF 120 j (an_inP_ok h2 j)⟩)]
    exact e2
theorem Wd.em {σ τ : pm_S} {b d : Nat} {fl : Bool} {w v : Int} {r : Option Value} {s : Nat × Bool} (h : Wd σ b d fl) (he : QE σ w v r τ) (hs : wS (Int32.ofInt w) (Int32.ofInt v) (d, fl) = some s) : Wd τ b s.1 s.2 := by
  obtain ⟨n, e1, e2⟩ := h
  have ix : (cI σ 42 + 400).toNat = 400 + b + n := by omega
  refine ⟨n + 1, ?_, ?_⟩
  · rw [he.2.2.2.1]; omega
  · show (wR (τ.1 119) (τ.1 120) (400 + b) n).bind (wS (τ.1 119 (400 + b + n)) (τ.1 120 (400 + b + n))) = _
    rw [wR_congr n (fun j h1 h2 => he.2.2.2.2.1 j (by omega)), e2, ← ix, he.2.2.2.2.2.1, he.2.2.2.2.2.2]
    exact hs
abbrev FU : List (Nat × Nat) := [(93, 31), (93, 32), (93, 33), (93, 34), (93, 42), (93, 46), (93, 47), (119, 9999), (120, 9999)]
theorem FQ.e1 {σ τ : pm_S} (h : FQ [] σ τ) : τ.1 = σ.1 := funext fun p => funext fun j => h p j rfl
theorem Rd.fr {σ τ : pm_S} (G : List (Nat × Nat)) (h1 : an_inF G 93 31 = false) (h2 : an_inF G 93 32 = false) (h3 : an_inF G 93 33 = false) (h4 : an_inF G 93 34 = false) (hF : FQ G σ τ) (h : Rd σ) : Rd τ := by
  unfold Rd cI at *
  rw [hF 93 31 h1, hF 93 32 h2, hF 93 33 h3, hF 93 34 h4]
  exact h
abbrev QU (σ : pm_S) : Option Value → pm_S → Prop := fun r τ => PX FU σ τ ∧ (r = some (.int (Int32.ofInt (-1))) ∨ (r = some (.int (Int32.ofInt 0)) ∧ Rd τ ∧ cI σ 32 - cI σ 42 ≤ cI τ 32 - cI τ 42 ∧ cI σ 32 < cI τ 32 ∧ ∀ b d fl, Wd σ b d fl → Wd τ b (d + 1) (decide (cI σ 33 = 3 ∧ cI σ 34 ≠ 0))))
theorem r_unit {σ0 σ : pm_S} (hB : an_GB pm_B σ) (hF : FQ [(93, 46), (93, 47)] σ0 σ) (hR : Rd σ0) (hc : cI σ0 42 ≤ cI σ0 32) (w v : Int) (lv : Value) (hl : lv.category = 1) (ht : cI σ0 33 ≠ 0) (hw : w = 0 ∨ w = 1) (hv : (-2147483648) ≤ v ∧ v ≤ 2147483647) (hs : ∀ d fl, wS (Int32.ofInt w) (Int32.ofInt v) (d, fl) = some (d + 1, decide (cI σ0 33 = 3 ∧ cI σ0 34 ≠ 0))) : Ok 187 51 37 [.ref 93, lv] [.int (Int32.ofInt v), .int (Int32.ofInt w), .ref 93] σ (QU σ0) := by
  have g0 := gB hB
  have e42 : cI σ 42 = cI σ0 42 := by show (σ.1 93 42).toInt = _; rw [hF 93 42 rfl]
  have e31 : cI σ 31 = cI σ0 31 := by show (σ.1 93 31).toInt = _; rw [hF 93 31 rfl]
  have e32 : cI σ 32 = cI σ0 32 := by show (σ.1 93 32).toInt = _; rw [hF 93 32 rfl]
  have h1 := hR.2.1 ht
  refine Ok.cv rfl rfl rfl rfl rfl rfl rfl ?_
  refine (m_emits hB w v (by omega) hv (by omega)).use (by decide) (fun r1 τ1 q1 => ?_)
  have q0 := q1
  obtain ⟨rfl, hB1, hF1, c1, -, -, -⟩ := q1
  refine sg_rU2 lv hl hB1 ?_
  intro τ2 y v1 hv1 hB2 hF2 _ _ _ _
  refine Ok.cv rfl rfl rfl rfl rfl rfl rfl ?_
  refine (m_reads hB2).use (by decide) (fun r3 τ3 q3 => ?_)
  obtain ⟨rfl, hB3, hR3, c3, hF3⟩ := q3
  refine sg_rU3 v1 hv1 hB3 ?_
  intro τ4 y hB4 hF4 _ _ _ _
  have E : τ4.1 = τ3.1 := FQ.e1 hF4
  have E2 : τ2.1 = τ1.1 := FQ.e1 hF2
  have k42 : cI τ4 42 = cI σ0 42 + 1 := by
    show (τ4.1 93 42).toInt = _
    rw [E, hF3 93 42 rfl, E2]
    rw [← e42]
    exact c1
  have k31 : cI τ2 31 = cI σ0 31 := by
    show (τ2.1 93 31).toInt = _
    rw [E2, hF1 93 31 rfl]
    exact e31
  have k32 : cI τ4 32 = cI τ3 32 := by show (τ4.1 93 32).toInt = _; rw [E]
  refine ⟨?_, Or.inr ⟨rfl, Rd.fr [] rfl rfl rfl rfl hF4 hR3, ?_, ?_, ?_⟩⟩
  · refine PX.tr (PX.tr (PX.tr (PX.tr (PX.fr _ rfl rfl rfl rfl hB hF) (PX.em rfl hB q0)) (PX.fr [] rfl rfl rfl rfl hB2 hF2)) (PX.fr FR rfl rfl rfl rfl hB3 hF3)) (PX.fr [] rfl rfl rfl rfl hB4 hF4)
  · omega
  · omega
  · intro b d fl hW
    have a1 := Wd.fr _ rfl rfl rfl hF hW
    have a2 := Wd.em a1 q0 (hs d fl)
    exact Wd.fr [] rfl rfl rfl hF4 (Wd.fr FR rfl rfl rfl hF3 (Wd.fr [] rfl rfl rfl hF2 a2))
theorem m_readUnit {σ : pm_S} (hB : an_GB pm_B σ) (hR : Rd σ) (hc : cI σ 42 ≤ cI σ 32) : Sp 187 51 [.ref 93] σ (QU σ) := by
  have g := gB hB
  refine Sp.at rfl rfl ?_
  refine sg_rU (cI σ 33) (cI σ 34) _ rfl hB ⟨g.2.2.2.1, ai_rng _, trivial⟩ ⟨rfl, rfl, trivial⟩ ?_ ?_ ?_
  · intro τ y hB1 hF1 f r dd c
    refine r_unit hB1 hF1 hR hc 0 (cI σ 34) _ rfl (by omega) (Or.inl rfl) (ai_rng _) ?_
    intro d fl
    unfold wS
    rw [if_pos (by decide)]
    have e : (Int32.ofInt (cI σ 34)).toInt = cI σ 34 := ti_of (ai_rng _).1 (ai_rng _).2
    rw [e]
    have e3 : cI σ 33 = 3 := by omega
    simp [e3]
  · intro τ y hB1 hF1 f r dd c
    exact ⟨PX.fr _ rfl rfl rfl rfl hB1 hF1, Or.inl rfl⟩
  · intro τ y hB1 hF1 f r dd c
    have hv := hR.2.2 (by omega)
    refine r_unit hB1 hF1 hR hc 1 (cI σ 34 + (-6)) _ rfl (by omega) (Or.inr rfl) (by omega) ?_
    intro d fl
    unfold wS
    rw [if_neg (by decide), if_pos (by decide)]
    have e : (Int32.ofInt (cI σ 34 + (-6))).toInt = cI σ 34 + (-6) := ti_of (by omega) (by omega)
    rw [e, if_pos (by omega)]
    have e3 : ¬ cI σ 33 = 3 := by omega
    simp [e3]
