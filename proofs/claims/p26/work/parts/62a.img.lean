/-! the image: which cells are kept, and where -/
def qsI (i : Nat) : Nat × Nat :=
  if i = 0 then (93, 1) else if i = 1 then (93, 2) else if i < 12 then (94, i - 2) else if i < 112 then (95, i - 12) else if i < 192 then (113, i - 112)
  else if i = 192 then (93, 5) else if i < 243 then (96 + (i - 193) % 5, (i - 193) / 5) else if i = 243 then (93, 19) else if i = 244 then (93, 20) else if i = 245 then (93, 21)
  else if i < 250 then (108, i - 246) else if i = 250 then (93, 11) else if i < 461 then (101 + (i - 251) % 7, (i - 251) / 7) else if i = 461 then (93, 23)
  else if i < 582 then (109 + (i - 462) % 4, (i - 462) / 4) else if i = 582 then (93, 36) else if i < 631 then (116 + (i - 583) % 3, (i - 583) / 3) else (119 + (i - 631) % 2, (i - 631) / 2)
def psI (p j : Nat) : Option Nat := match p with
  | 93 => match j with
    | 1 => some 0
    | 2 => some 1
    | 5 => some 192
    | 19 => some 243
    | 20 => some 244
    | 21 => some 245
    | 11 => some 250
    | 23 => some 461
    | 36 => some 582
    | _ => none
  | 94 => some (2 + j)
  | 95 => some (12 + j)
  | 113 => some (112 + j)
  | 96 => some (193 + 5 * j)
  | 97 => some (194 + 5 * j)
  | 98 => some (195 + 5 * j)
  | 99 => some (196 + 5 * j)
  | 100 => some (197 + 5 * j)
  | 108 => some (246 + j)
  | 101 => some (251 + 7 * j)
  | 102 => some (252 + 7 * j)
  | 103 => some (253 + 7 * j)
  | 104 => some (254 + 7 * j)
  | 105 => some (255 + 7 * j)
  | 106 => some (256 + 7 * j)
  | 107 => some (257 + 7 * j)
  | 109 => some (462 + 4 * j)
  | 110 => some (463 + 4 * j)
  | 111 => some (464 + 4 * j)
  | 112 => some (465 + 4 * j)
  | 116 => some (583 + 3 * j)
  | 117 => some (584 + 3 * j)
  | 118 => some (585 + 3 * j)
  | 119 => some (631 + 2 * j)
  | 120 => some (632 + 2 * j)
  | _ => none
set_option maxRecDepth 100000 in
theorem psqs : ∀ i, i < 1431 → psI (qsI i).1 (qsI i).2 = some i := by decide +kernel
set_option maxRecDepth 100000 in
theorem qs_len : ∀ i, i < 1431 → (qsI i).2 < an_len (qsI i).1 := by decide +kernel
set_option maxRecDepth 100000 in
theorem qs_133 : ∀ i, i < 1431 → (qsI i).1 ≠ 133 ∧ ¬ (qsI i = (93, 65)) ∧ ¬ (qsI i = (93, 63)) ∧ ¬ (qsI i = (93, 64)) := by decide +kernel
theorem qs_inj {i m : Nat} (hi : i < 1431) (hm : m < 1431) (h : qsI i = qsI m) : i = m := by
  have h1 := psqs i hi
  rw [h, psqs m hm] at h1
  exact (Option.some.inj h1).symm
abbrev qsV (σ : pm_S) (i : Nat) : Int32 := σ.1 (qsI i).1 (qsI i).2
/-- t = 1: taken; 0: gone back to -/
def vI (σ0 : pm_S) (t : Int) (i : Nat) : Int32 := if t = 1 then qsV σ0 i else σ0.1 133 i
def bdI (σ0 : pm_S) (t : Int) : Prop := ∀ i, i < 1431 → (an_bd pm_B (qsI i).1 (qsI i).2).1 ≤ (vI σ0 t i).toInt ∧ (vI σ0 t i).toInt ≤ (an_bd pm_B (qsI i).1 (qsI i).2).2
def imI (σ0 : pm_S) (t : Int) (σ : pm_S) (m : Nat) : Prop :=
  an_GB pm_B σ ∧ cI σ 65 = (m : Int) ∧ cI σ 63 = t ∧ cI σ 64 = 1 ∧ (∀ i, i < 1431 → (i < m → qsV σ i = vI σ0 t i ∧ σ.1 133 i = vI σ0 t i) ∧ (m ≤ i → qsV σ i = qsV σ0 i ∧ σ.1 133 i = σ0.1 133 i)) ∧ (∀ p j, p ≠ 133 → ¬ (p = 93 ∧ j = 65) → psI p j = none → σ.1 p j = σ0.1 p j)
theorem imI.fr {σ0 σ τ : pm_S} {t : Int} {m : Nat} (hB : an_GB pm_B τ) (hF : FQ [] σ τ) (h : imI σ0 t σ m) : imI σ0 t τ m := by
  have E := FQ.e1 hF
  obtain ⟨-, h2, h3, h4, h5, h6⟩ := h
  refine ⟨hB, by rw [hF.c 65 rfl]; exact h2, by rw [hF.c 63 rfl]; exact h3, by rw [hF.c 64 rfl]; exact h4, ?_, ?_⟩
  · unfold qsV at *
    rw [E]
    exact h5
  · rw [E]
    exact h6
/-- what kept does -/
theorem m_kept {σ0 σ : pm_S} {t : Int} {m : Nat} (ht : t = 0 ∨ t = 1) (hb : bdI σ0 t) (hm : m < 1431) (h : imI σ0 t σ m) : Sp 242 6 [.ref 93, .int (qsV σ m)] σ (fun r τ => r = some (.int (vI σ0 t m)) ∧ imI σ0 t (put τ (qsI m).1 (qsI m).2 (vI σ0 t m)) (m + 1)) := by
  obtain ⟨hB, h65, h63, h64, hI, hN⟩ := h
  have hq := qs_133 m hm
  -- where both ways come to
  have fin : ∀ τ : pm_S, an_GB pm_B τ → cI τ 65 = (m : Int) + 1 → (∀ p j, ¬ (p = 93 ∧ j = 65) → ¬ (p = 133 ∧ j = m) → τ.1 p j = σ.1 p j) → τ.1 133 m = vI σ0 t m → imI σ0 t (put τ (qsI m).1 (qsI m).2 (vI σ0 t m)) (m + 1) := by
    intro τ hBt k65 hfr k133
    have n65 : ¬ (93 = (qsI m).1 ∧ 65 = (qsI m).2) := fun z => hq.2.1 (Prod.ext z.1.symm z.2.symm)
    have n63 : ¬ (93 = (qsI m).1 ∧ 63 = (qsI m).2) := fun z => hq.2.2.1 (Prod.ext z.1.symm z.2.symm)
    have n64 : ¬ (93 = (qsI m).1 ∧ 64 = (qsI m).2) := fun z => hq.2.2.2 (Prod.ext z.1.symm z.2.symm)
    refine ⟨put_GB hBt (hb m hm), ?_, ?_, ?_, fun i hi => ?_, fun p j n1 n2 n3 => ?_⟩
    · show ((put τ _ _ _).1 93 65).toInt = _
      rw [put_ne n65]
      exact k65
    · show ((put τ _ _ _).1 93 63).toInt = _
      rw [put_ne n63, hfr 93 63 (by omega) (by omega)]
      exact h63
    · show ((put τ _ _ _).1 93 64).toInt = _
      rw [put_ne n64, hfr 93 64 (by omega) (by omega)]
      exact h64
    · have hi133 := qs_133 i hi
      have c65 : ¬ ((qsI i).1 = 93 ∧ (qsI i).2 = 65) := fun z => hi133.2.1 (Prod.ext z.1 z.2)
      have hIi := hI i hi
      have row : i ≠ m → (put τ (qsI m).1 (qsI m).2 (vI σ0 t m)).1 133 i = σ.1 133 i := fun e => by
        rw [put_nr (fun z => hq.1 z.symm), hfr 133 i (by omega) (by omega)]
      have cel : i ≠ m → (put τ (qsI m).1 (qsI m).2 (vI σ0 t m)).1 (qsI i).1 (qsI i).2 = σ.1 (qsI i).1 (qsI i).2 := fun e => by
        rw [put_ne (fun z => e (qs_inj hi hm (Prod.ext z.1 z.2))), hfr _ _ c65 (fun z => hi133.1 z.1)]
      constructor
      · intro hlt
        by_cases e : i = m
        · subst e
          refine ⟨put_eq, ?_⟩
          rw [put_nr (fun z => hq.1 z.symm)]
          exact k133
        · have := hIi.1 (by omega)
          exact ⟨(cel e).trans this.1, (row e).trans this.2⟩
      · intro hge
        have := hIi.2 (by omega)
        exact ⟨(cel (by omega)).trans this.1, (row (by omega)).trans this.2⟩
    · rw [put_ne (fun z => ?_), hfr p j n2 (fun z => n1 z.1)]
      · exact hN p j n1 n2 n3
      · rw [z.1, z.2, psqs m hm] at n3
        cases n3
  have hme := (hI m hm).2 (Nat.le_refl _)
  refine Sp.at rfl rfl ?_
  rcases ht with rfl | rfl
  · rw [← oI (qsV σ m)]
    refine sg_ke0 (qsV σ m).toInt (m : Int) hB ⟨ai_rng _, by omega, trivial⟩ ⟨h65, h63, trivial⟩ ?_
    intro τ y hB1 hF1 _ _ _ c1
    have e0 : (m : Int).toNat = m := by omega
    have e : y 2 = (σ0.1 133 m).toInt := by
      have := c1.2.2.1
      rw [e0, hF1 133 _ rfl, hme.2] at this
      exact this.symm
    have ev : vI σ0 0 m = σ0.1 133 m := if_neg (by decide)
    refine ⟨by rw [e, oI, ev], fin τ hB1 c1.2.1 (fun p j n1 n2 => ?_) ?_⟩
    · refine hF1 p j ?_
      rcases hh : an_inF [(93, 65)] p j with _ | _
      · rfl
      · exfalso
        obtain ⟨q, q1, q2, q3⟩ := an_inF_mem.mp hh
        rcases List.mem_cons.mp q1 with q1 | q1
        · subst q1
          dsimp only at q2 q3
          omega
        · exact absurd q1 List.not_mem_nil
    · rw [ev, hF1 133 _ rfl]
      exact hme.2
  · rw [← oI (qsV σ m)]
    refine sg_ke1 (qsV σ m).toInt (m : Int) hB ⟨ai_rng _, by omega, trivial⟩ ⟨h65, h63, trivial⟩ ?_
    intro τ y hB1 hF1 _ _ _ c1
    have ev : vI σ0 1 m = qsV σ m := (if_pos rfl).trans hme.1.symm
    refine Ok.ast (n := 1700) rfl rfl rfl (by decide) (by omega) (by omega) ?_
    have hB2 : an_GB pm_B (put τ 133 (m : Int).toNat (Int32.ofInt (qsV σ m).toInt)) := put_GB hB1 (ai_rng _)
    have e0 : (m : Int).toNat = m := by omega
    rw [e0] at hB2 ⊢
    refine sg_ke25 (qsV σ m).toInt hB2 ⟨ai_rng _, trivial⟩ ?_
    intro τ3 y3 hB3 hF3 _ _ _ _
    refine ⟨by rw [oI, ev], fin τ3 hB3 ?_ (fun p j n1 n2 => ?_) ?_⟩
    · rw [hF3.c 65 rfl]
      show ((put τ 133 m _).1 93 65).toInt = _
      rw [put_nr (by decide)]
      exact c1.2.1
    · rw [hF3 p j rfl, put_ne (fun z => n2 z)]
      refine hF1 p j ?_
      rcases hh : an_inF [(93, 65)] p j with _ | _
      · rfl
      · exfalso
        obtain ⟨q, q1, q2, q3⟩ := an_inF_mem.mp hh
        rcases List.mem_cons.mp q1 with q1 | q1
        · subst q1
          dsimp only at q2 q3
          omega
        · exact absurd q1 List.not_mem_nil
    · rw [hF3 133 m rfl, put_eq, oI, ev]
