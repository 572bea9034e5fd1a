/-! readAny: what waits is well-formed -/
def no : List Int → Nat
  | [] => 0
  | y :: r => (if y = 10 ∨ y = 11 then 1 else 0) + no r
def KK : Nat → List Int → Prop
  | _, [] => True
  | m, x :: r => (x = 12 ∧ KK 0 r) ∨ (x = 9 ∧ m = 0 ∧ KK 0 r) ∨ (x = 10 ∧ m ≤ 1 ∧ KK 2 r) ∨ (x = 11 ∧ m ≤ 2 ∧ KK 3 r)
theorem ct_c (x y : Int) (r : List Int) : ct x (y :: r) = (if y = x then 1 else 0) + ct x r := rfl
theorem no_c (y : Int) (r : List Int) : no (y :: r) = (if y = 10 ∨ y = 11 then 1 else 0) + no r := rfl
theorem KK_len : ∀ (l : List Int) (m : Nat), KK m l → (l.length : Int) ≤ 3 * (ct 9 l + ct 12 l) + (if m ≤ 1 then 2 else if m = 2 then 1 else 0)
  | [], m, _ => by
    show ((0 : Nat) : Int) ≤ 3 * (0 + 0) + _
    split
    · omega
    · split <;> omega
  | x :: r, m, h => by
    rw [List.length_cons, ct_c, ct_c]
    rcases h with ⟨rfl, h⟩ | ⟨rfl, hm, h⟩ | ⟨rfl, hm, h⟩ | ⟨rfl, hm, h⟩
    · have := KK_len r 0 h
      rw [if_pos (by omega)] at this
      rw [if_neg (by decide), if_pos rfl]
      split
      · omega
      · split <;> omega
    · have := KK_len r 0 h
      rw [if_pos (by omega)] at this
      rw [if_pos rfl, if_neg (by decide)]
      split
      · omega
      · split <;> omega
    · have := KK_len r 2 h
      rw [if_neg (by omega), if_pos rfl] at this
      rw [if_neg (by decide), if_neg (by decide), if_pos hm]
      omega
    · have := KK_len r 3 h
      rw [if_neg (by omega), if_neg (by omega)] at this
      rw [if_neg (by decide), if_neg (by decide)]
      split
      · omega
      · rw [if_pos (by omega)]
        omega
theorem ct_rep (x y : Int) (l : List Int) : ∀ m : Nat, ct y (List.replicate m x ++ l) = (if x = y then (m : Int) else 0) + ct y l
  | 0 => by
    show ct y l = _
    split <;> simp
  | m + 1 => by
    rw [List.replicate_succ, List.cons_append, ct_c, ct_rep x y l m]
    split <;> omega
theorem no_rep (x : Int) (l : List Int) : ∀ m : Nat, no (List.replicate m x ++ l) = (if x = 10 ∨ x = 11 then m else 0) + no l
  | 0 => by
    show no l = _
    split <;> omega
  | m + 1 => by
    rw [List.replicate_succ, List.cons_append, no_c, no_rep x l m]
    split <;> omega
theorem KK_9 : ∀ (m : Nat) (l : List Int), KK 0 (List.replicate m 9 ++ l) → l.head? ≠ some 9 → KK 1 l
  | 0, [], _, _ => trivial
  | 0, x :: r, h, hh => by
    rcases h with h | ⟨rfl, -, -⟩ | ⟨h1, -, h2⟩ | ⟨h1, -, h2⟩
    · exact Or.inl h
    · exact absurd rfl hh
    · exact Or.inr (Or.inr (Or.inl ⟨h1, by omega, h2⟩))
    · exact Or.inr (Or.inr (Or.inr ⟨h1, by omega, h2⟩))
  | m + 1, l, h, hh => by
    rw [List.replicate_succ, List.cons_append] at h
    rcases h with ⟨h, -⟩ | ⟨-, -, h⟩ | ⟨h, -, -⟩ | ⟨h, -, -⟩
    · exact absurd h (by decide)
    · exact KK_9 m l h hh
    · exact absurd h (by decide)
    · exact absurd h (by decide)
theorem KK_10 : ∀ (m : Nat) (l : List Int), KK 1 (List.replicate m 10 ++ l) → l.head? ≠ some 10 → KK 2 l
  | 0, [], _, _ => trivial
  | 0, x :: r, h, hh => by
    rcases h with h | ⟨-, h, -⟩ | ⟨rfl, -, h2⟩ | ⟨h1, -, h2⟩
    · exact Or.inl h
    · omega
    · exact absurd rfl hh
    · exact Or.inr (Or.inr (Or.inr ⟨h1, by omega, h2⟩))
  | 1, l, h, hh => by
    rcases h with ⟨h, -⟩ | ⟨h, -, -⟩ | ⟨-, -, h⟩ | ⟨h, -, -⟩
    · exact absurd h (by decide)
    · exact absurd h (by decide)
    · exact h
    · exact absurd h (by decide)
  | m + 2, l, h, hh => by
    exfalso
    rw [List.replicate_succ, List.replicate_succ, List.cons_append, List.cons_append] at h
    rcases h with ⟨h, -⟩ | ⟨h, -, -⟩ | ⟨-, -, h⟩ | ⟨h, -, -⟩
    · exact absurd h (by decide)
    · exact absurd h (by decide)
    · rcases h with ⟨h, -⟩ | ⟨h, -, -⟩ | ⟨-, h, -⟩ | ⟨h, -, -⟩
      · exact absurd h (by decide)
      · exact absurd h (by decide)
      · omega
      · exact absurd h (by decide)
    · exact absurd h (by decide)
theorem KK_11 : ∀ (m : Nat) (l : List Int), KK 2 (List.replicate m 11 ++ l) → l.head? ≠ some 11 → KK 3 l
  | 0, [], _, _ => trivial
  | 0, x :: r, h, hh => by
    rcases h with h | ⟨-, h, -⟩ | ⟨-, h, -⟩ | ⟨rfl, -, h2⟩
    · exact Or.inl h
    · omega
    · omega
    · exact absurd rfl hh
  | 1, l, h, hh => by
    rcases h with ⟨h, -⟩ | ⟨h, -, -⟩ | ⟨h, -, -⟩ | ⟨-, -, h⟩
    · exact absurd h (by decide)
    · exact absurd h (by decide)
    · exact absurd h (by decide)
    · exact h
  | m + 2, l, h, hh => by
    exfalso
    rw [List.replicate_succ, List.replicate_succ, List.cons_append, List.cons_append] at h
    rcases h with ⟨h, -⟩ | ⟨h, -, -⟩ | ⟨h, -, -⟩ | ⟨-, -, h⟩
    · exact absurd h (by decide)
    · exact absurd h (by decide)
    · exact absurd h (by decide)
    · rcases h with ⟨h, -⟩ | ⟨h, -, -⟩ | ⟨h, -, -⟩ | ⟨-, h, -⟩
      · exact absurd h (by decide)
      · exact absurd h (by decide)
      · exact absurd h (by decide)
      · omega
abbrev FA : List (Nat × Nat) := [(93, 31), (93, 32), (93, 33), (93, 34), (93, 42), (93, 46), (93, 47), (119, 9999), (120, 9999), (93, 43), (93, 45), (121, 9999)]
/-- m = 0: an operand is due; 1: one has been read -/
def JA (σ0 σ : pm_S) (m : Nat) (br : Int) (l : List Int) : Prop :=
  PX FA σ0 σ ∧ Rd σ ∧ PD σ l ∧ KK m l ∧ br = ct 12 l ∧ cI σ 43 = ct 9 l + ct 12 l ∧ (cI σ 42 + l.length ≤ cI σ 32 ∧ cI σ0 32 ≤ cI σ 32) ∧ ∃ fl, Wd σ (cI σ0 42).toNat (no l + m) fl
abbrev QA (σ0 : pm_S) : Option Value → pm_S → Prop := fun r τ => PX FA σ0 τ ∧ (r = some (.int (Int32.ofInt (-1))) ∨ (r = some (.int (Int32.ofInt 0)) ∧ Rd τ ∧ (cI τ 42 ≤ cI τ 32 ∧ cI σ0 32 ≤ cI τ 32) ∧ cI τ 43 = 0 ∧ ∃ fl, Wd τ (cI σ0 42).toNat 1 fl))
theorem PX.up {G F : List (Nat × Nat)} {σ τ : pm_S} (hs : an_subF G F = true) (h : PX G σ τ) : PX F σ τ := ⟨h.1, h.2.1.up hs, h.2.2⟩
theorem JA.br {σ0 σ : pm_S} {m : Nat} {br : Int} {l : List Int} (h : JA σ0 σ m br l) : 0 ≤ br ∧ br ≤ 8 := by
  obtain ⟨p, -, -, -, e1, e2, -, -⟩ := h
  have := gB p.1
  have := ct_nn 9 l
  have := ct_nn 12 l
  omega
/-- where the loop goes on -/
def HA (σ0 σ : pm_S) : Prop := (∀ (τ : pm_S) (br : Int) (l : List Int) (v : Value), v.category = 1 → cI σ 32 < cI τ 32 → JA σ0 τ 0 br l → Ok 193 91 7 [.ref 93, .int (Int32.ofInt br), .int (Int32.ofInt 1), v] [] τ (QA σ0)) ∧ (∀ (τ : pm_S) (br : Int) (l : List Int) (v : Value), v.category = 1 → cI σ 32 < cI τ 32 → JA σ0 τ 1 br l → Ok 193 91 7 [.ref 93, .int (Int32.ofInt br), .int (Int32.ofInt 0), v] [] τ (QA σ0))
/-- a bracket or a not -/
theorem a_push {σ0 σ τ : pm_S} {br br' w : Int} {l : List Int} (hJ : JA σ0 σ 0 br l) (H : HA σ0 σ) (hB1 : an_GB pm_B τ) (hF1 : FQ [(93, 46), (93, 47), (93, 43)] σ τ) (h33 : cI σ 33 ≠ 0) (h43 : cI τ 43 = cI σ 43 + 1) (hw : (w = 12 ∧ br' = br + 1) ∨ (w = 9 ∧ br' = br)) (v : Value) (hv : v.category = 1) : Ok 193 91 45 [.ref 93, .int (Int32.ofInt br'), .int (Int32.ofInt 1), v] [.int (Int32.ofInt w), .ref 93] τ (QA σ0) := by
  obtain ⟨hP, hR, hD, hK, e1, e2, e3, fl, hW⟩ := hJ
  have g1 := gB hB1
  have hlen := KK_len l 0 hK
  rw [if_pos (by omega)] at hlen
  have n9 := ct_nn 9 l
  have n12 := ct_nn 12 l
  have hD1 : PD τ l := PD.fr _ rfl rfl hF1 hD
  have d1 := hD1.1
  have z42 := hF1.c 42 rfl
  have z31 := hF1.c 31 rfl
  have z32 := hF1.c 32 rfl
  refine Ok.cv rfl rfl rfl rfl rfl rfl rfl ?_
  refine (m_waits hB1 w (by omega) (by omega)).use (by decide) (fun r2 τ2 q2 => ?_)
  obtain ⟨rfl, hB2, hF2, hD2⟩ := q2
  refine sg_ra46 br' v hv hB2 ⟨by omega, trivial⟩ ?_
  intro τ3 y v3 hv3 hB3 hF3 _ _ _ _
  refine Ok.cv rfl rfl rfl rfl rfl rfl rfl ?_
  refine (m_reads hB3).use (by decide) (fun r4 τ4 q4 => ?_)
  obtain ⟨rfl, hB4, hR4, c4, hF4⟩ := q4
  refine sg_ra48 br' v3 hv3 hB4 ⟨by omega, trivial⟩ ?_
  intro τ5 y v5 hv5 hB5 hF5 _ _ _ _
  have hr := hR.2.1 h33
  have y31 : cI τ3 31 = cI σ 31 := ((FQ.c hF3 31 rfl).trans (hF2.c 31 rfl)).trans z31
  have y42 : cI τ5 42 = cI σ 42 := ((((FQ.c hF5 42 rfl).trans (hF4.c 42 rfl)).trans (FQ.c hF3 42 rfl)).trans (hF2.c 42 rfl)).trans z42
  have y43 : cI τ5 43 = cI σ 43 + 1 := ((((FQ.c hF5 43 rfl).trans (hF4.c 43 rfl)).trans (FQ.c hF3 43 rfl)).trans (hF2.c 43 rfl)).trans h43
  have y32 : cI τ5 32 = cI τ4 32 := FQ.c hF5 32 rfl
  have hP5 : PX FA σ0 τ5 := ((((hP.tr (PX.fr _ rfl rfl rfl rfl hB1 hF1)).tr (PX.fr _ rfl rfl rfl rfl hB2 hF2)).tr (PX.fr [] rfl rfl rfl rfl hB3 hF3)).tr (PX.fr FR rfl rfl rfl rfl hB4 hF4)).tr (PX.fr [] rfl rfl rfl rfl hB5 hF5)
  have hD5 : PD τ5 (w :: l) := PD.fr [] rfl rfl hF5 (PD.fr FR rfl rfl hF4 (PD.fr [] rfl rfl hF3 (hD2 l hD1)))
  have hW5 : Wd τ5 (cI σ0 42).toNat (no l + 0) fl := Wd.fr [] rfl rfl rfl hF5 (Wd.fr FR rfl rfl rfl hF4 (Wd.fr [] rfl rfl rfl hF3 (Wd.fr _ rfl rfl rfl hF2 (Wd.fr _ rfl rfl rfl hF1 hW))))
  refine H.1 τ5 br' (w :: l) v5 hv5 (by omega) ⟨hP5, Rd.fr [] rfl rfl rfl rfl hF5 hR4, hD5, ?_, ?_, ?_, ?_, fl, ?_⟩
  · rcases hw with h | h
    · exact Or.inl ⟨h.1, hK⟩
    · exact Or.inr (Or.inl ⟨h.1, rfl, hK⟩)
  · rw [ct_c]; rcases hw with h | h
    · rw [if_pos h.1]; omega
    · rw [if_neg (by omega)]; omega
  · rw [ct_c, ct_c, y43]; rcases hw with h | h
    · rw [if_neg (by omega), if_pos h.1]; omega
    · rw [if_pos h.1, if_neg (by omega)]; omega
  · rw [List.length_cons]; omega
  · rw [no_c, if_neg (by omega)]
    simpa using hW5
