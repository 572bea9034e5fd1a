/-! the grammar: what its answers can be -/
section PSL
variable {T : Nat → Int} {L : Nat}
theorem psU_c (i : Nat) : (ps_U T i = (0, i + 1, [T i]) ∧ (0 ≤ T i ∨ ((-15) ≤ T i ∧ T i ≤ -7))) ∨ (ps_U T i = (1, i, []) ∧ ¬ (0 ≤ T i ∨ ((-15) ≤ T i ∧ T i ≤ -7))) := by
  unfold ps_U
  by_cases c : 0 ≤ T i ∨ ((-15) ≤ T i ∧ T i ≤ -7)
  · rw [if_pos c]
    exact Or.inl ⟨rfl, c⟩
  · rw [if_neg c]
    exact Or.inr ⟨rfl, c⟩
/-- how much waits -/
abbrev ps_n (h : Int) : Nat := if h = -27 then 0 else 1
theorem ps_h_len (h : Int) : (ps_h h).length = ps_n h := by
  unfold ps_h ps_n
  split <;> rfl
theorem psS_ok (hT : ∀ j, T j = -26 ↔ L ≤ j) : ∀ k h i, i ≤ L → L - i < k → (ps_S T k h i).1 ≤ 2 ∧ (ps_S T k h i).2.1 ≤ L ∧ ((ps_S T k h i).1 = 0 → i ≤ (ps_S T k h i).2.1 ∧ i + (ps_S T k h i).2.2.length ≤ (ps_S T k h i).2.1 + ps_n h)
  | 0, _, _, _, h => absurd h (Nat.not_lt_zero _)
  | k + 1, h, i, hi, hk => by
    unfold ps_S
    have e26 := hT i
    have e27 := hT (i + 1)
    split
    · rename_i c
      have iL : i < L := by
        rcases Nat.lt_or_ge i L with x | x
        · exact x
        · have := e26.mpr x
          omega
      have fin : ∀ h' : Int, (ps_U T (i + 1)).1 = 0 → (ps_U T (i + 1)).2.1 = i + 2 ∧ (ps_U T (i + 1)).2.2.length = 1 ∧ i + 2 ≤ L := fun h' z => by
        rcases psU_c (T := T) (i + 1) with ⟨e, q⟩ | ⟨e, q⟩
        · rw [e]
          refine ⟨rfl, rfl, ?_⟩
          rcases Nat.lt_or_ge (i + 1) L with x | x
          · exact x
          · have := e27.mpr x
            omega
        · rw [e] at z
          cases z
      have bad : (ps_U T (i + 1)).1 ≠ 0 → (ps_U T (i + 1)).1 = 1 ∧ (ps_U T (i + 1)).2.1 = i + 1 := fun z => by
        rcases psU_c (T := T) (i + 1) with ⟨e, q⟩ | ⟨e, q⟩
        · rw [e] at z
          exact absurd rfl z
        · rw [e]
          exact ⟨rfl, rfl⟩
      split
      · rename_i c2
        split
        · rename_i u
          obtain ⟨u1, u2, u3⟩ := fin h u
          have ih := psS_ok hT k (T i) (ps_U T (i + 1)).2.1 (by omega) (by omega)
          refine ⟨ih.1, ih.2.1, fun z => ?_⟩
          have q := ih.2.2 z
          have n1 : ps_n (T i) = 1 := if_neg (by omega)
          show i ≤ (ps_S T k (T i) (ps_U T (i + 1)).2.1).2.1 ∧ i + (ps_h h ++ ((ps_U T (i + 1)).2.2 ++ (ps_S T k (T i) (ps_U T (i + 1)).2.1).2.2)).length ≤ (ps_S T k (T i) (ps_U T (i + 1)).2.1).2.1 + ps_n h
          rw [List.length_append, List.length_append, ps_h_len, u2]
          omega
        · rename_i u
          obtain ⟨b1, b2⟩ := bad u
          rw [b1, b2]
          exact ⟨by decide, by omega, fun z => absurd z (by decide)⟩
      · split
        · exact ⟨by show 1 ≤ 2; decide, by show i + 1 ≤ L; omega, fun z => absurd (show (1 : Nat) = 0 from z) (by decide)⟩
        · split
          · exact ⟨by show 2 ≤ 2; decide, by show i + 1 ≤ L; omega, fun z => absurd (show (2 : Nat) = 0 from z) (by decide)⟩
          · split
            · rename_i u
              obtain ⟨u1, u2, u3⟩ := fin h u
              have ih := psS_ok hT k h (ps_U T (i + 1)).2.1 (by omega) (by omega)
              refine ⟨ih.1, ih.2.1, fun z => ?_⟩
              have q := ih.2.2 z
              show i ≤ (ps_S T k h (ps_U T (i + 1)).2.1).2.1 ∧ i + ((ps_U T (i + 1)).2.2 ++ (T i :: (ps_S T k h (ps_U T (i + 1)).2.1).2.2)).length ≤ (ps_S T k h (ps_U T (i + 1)).2.1).2.1 + ps_n h
              rw [List.length_append, List.length_cons, u2]
              omega
            · rename_i u
              obtain ⟨b1, b2⟩ := bad u
              rw [b1, b2]
              exact ⟨by decide, by omega, fun z => absurd z (by decide)⟩
    · refine ⟨by show 0 ≤ 2; decide, hi, fun _ => ⟨Nat.le_refl i, ?_⟩⟩
      show i + (ps_h h).length ≤ i + ps_n h
      rw [ps_h_len]
      exact Nat.le_refl _
theorem psE_ok (hT : ∀ j, T j = -26 ↔ L ≤ j) {k i : Nat} (hi : i ≤ L) (hk : L < k) : (ps_E T k i).1 ≤ 2 ∧ (ps_E T k i).2.1 ≤ L ∧ ((ps_E T k i).1 = 0 → i < (ps_E T k i).2.1 ∧ i + (ps_E T k i).2.2.length ≤ (ps_E T k i).2.1) := by
  unfold ps_E
  rcases psU_c (T := T) i with ⟨e, q⟩ | ⟨e, q⟩
  · have iL : i < L := by
      rcases Nat.lt_or_ge i L with x | x
      · exact x
      · have := (hT i).mpr x
        omega
    rw [e, if_pos rfl]
    have s := psS_ok hT k (-27) (i + 1) (by omega) (by omega)
    refine ⟨s.1, s.2.1, fun z => ?_⟩
    have q := s.2.2 z
    have n0 : ps_n (-27) = 0 := if_pos rfl
    show i < (ps_S T k (-27) (i + 1)).2.1 ∧ i + ([T i] ++ (ps_S T k (-27) (i + 1)).2.2).length ≤ (ps_S T k (-27) (i + 1)).2.1
    rw [List.length_append, List.length_singleton]
    show i < (ps_S T k (-27) (i + 1)).2.1 ∧ i + (1 + (ps_S T k (-27) (i + 1)).2.2.length) ≤ (ps_S T k (-27) (i + 1)).2.1
    omega
  · rw [e, if_neg (show ¬ (1 : Nat) = 0 by decide)]
    exact ⟨show (1 : Nat) ≤ 2 by decide, hi, fun z => absurd (show (1 : Nat) = 0 from z) (by decide)⟩
theorem psM_ok (hT : ∀ j, T j = -26 ↔ L ≤ j) {k i : Nat} (hi : i ≤ L) (hk : L < k) : (ps_M T k i).1 ≤ 3 ∧ (ps_M T k i).2.1 ≤ L ∧ ((ps_M T k i).1 = 0 → i < (ps_M T k i).2.1 ∧ i + (ps_M T k i).2.2.length ≤ (ps_M T k i).2.1) := by
  have a := psE_ok hT hi hk
  unfold ps_M
  split
  · rename_i z
    have a2 := a.2.2 z
    split
    · rename_i c
      have iL : (ps_E T k i).2.1 < L := by
        rcases Nat.lt_or_ge (ps_E T k i).2.1 L with x | x
        · exact x
        · have := (hT _).mpr x
          omega
      have b := psE_ok hT (k := k) (i := (ps_E T k i).2.1 + 1) (by omega) hk
      split
      · rename_i z2
        have b2 := b.2.2 z2
        refine ⟨by show 0 ≤ 3; decide, b.2.1, fun _ => ?_⟩
        show i < (ps_E T k ((ps_E T k i).2.1 + 1)).2.1 ∧ i + ((ps_E T k i).2.2 ++ ((ps_E T k ((ps_E T k i).2.1 + 1)).2.2 ++ [T (ps_E T k i).2.1])).length ≤ (ps_E T k ((ps_E T k i).2.1 + 1)).2.1
        rw [List.length_append, List.length_append, List.length_singleton]
        omega
      · rename_i z2
        exact ⟨by show (ps_E T k ((ps_E T k i).2.1 + 1)).1 ≤ 3; omega, b.2.1, fun z3 => absurd z3 z2⟩
    · exact ⟨by show 1 ≤ 3; decide, a.2.1, fun z => absurd (show (1 : Nat) = 0 from z) (by decide)⟩
  · rename_i z
    exact ⟨by omega, a.2.1, fun z2 => absurd z2 z⟩
theorem psG_ok (hT : ∀ j, T j = -26 ↔ L ≤ j) {k : Nat} (hk : L < k) : ∀ f o w i, i ≤ L → (2 * (L - i) + 2 < f → (ps_G T k f 0 o w i).1 ≤ 3 ∧ (ps_G T k f 0 o w i).2.1 ≤ L ∧ ((ps_G T k f 0 o w i).1 = 0 → i < (ps_G T k f 0 o w i).2.1 ∧ i + (ps_G T k f 0 o w i).2.2.length ≤ (ps_G T k f 0 o w i).2.1)) ∧ (2 * (L - i) + 3 < f → (ps_G T k f 1 o w i).1 ≤ 3 ∧ (ps_G T k f 1 o w i).2.1 ≤ L ∧ ((ps_G T k f 1 o w i).1 = 0 → i ≤ (ps_G T k f 1 o w i).2.1 ∧ i + (ps_G T k f 1 o w i).2.2.length ≤ (ps_G T k f 1 o w i).2.1 + (if w = 1 then 1 else 0) ∧ T (ps_G T k f 1 o w i).2.1 ≠ -4 ∧ T (ps_G T k f 1 o w i).2.1 ≠ -5)) := by
  intro f
  induction f with
  | zero => intro o w i hi; exact ⟨fun h => absurd h (Nat.not_lt_zero _), fun h => absurd h (Nat.not_lt_zero _)⟩
  | succ f ih =>
    intro o w i hi
    have ilt : ∀ v : Int, T i = v → v ≠ -26 → i < L := fun v e ne => by
      rcases Nat.lt_or_ge i L with x | x
      · exact x
      · have := (hT i).mpr x
        omega
    refine ⟨fun hf => ?_, fun hf => ?_⟩
    · unfold ps_G
      split
      · rename_i c
        have iL := ilt _ c (by decide)
        split
        · exact ⟨by show 3 ≤ 3; decide, hi, fun z => absurd (show (3 : Nat) = 0 from z) (by decide)⟩
        · have a := (ih (o + 1) 0 (i + 1) (by omega)).1 (by omega)
          split
          · rename_i z
            have a2 := a.2.2 z
            refine ⟨by show 0 ≤ 3; decide, a.2.1, fun _ => ?_⟩
            show i < (ps_G T k f 0 (o + 1) 0 (i + 1)).2.1 ∧ i + ((ps_G T k f 0 (o + 1) 0 (i + 1)).2.2 ++ [-6]).length ≤ (ps_G T k f 0 (o + 1) 0 (i + 1)).2.1
            rw [List.length_append, List.length_singleton]
            omega
          · rename_i z
            exact ⟨a.1, a.2.1, fun z2 => absurd z2 z⟩
      · split
        · rename_i c
          have iL := ilt _ c (by decide)
          split
          · exact ⟨by show 3 ≤ 3; decide, hi, fun z => absurd (show (3 : Nat) = 0 from z) (by decide)⟩
          · have a := (ih (o + 1) 0 (i + 1) (by omega)).1 (by omega)
            split
            · rename_i z
              have a2 := a.2.2 z
              have b := (ih (o + 1) 0 (ps_G T k f 0 (o + 1) 0 (i + 1)).2.1 a.2.1).2 (by omega)
              split
              · rename_i z2
                have b2 := b.2.2 z2
                split
                · rename_i c2
                  have jL : (ps_G T k f 1 (o + 1) 0 (ps_G T k f 0 (o + 1) 0 (i + 1)).2.1).2.1 < L := by
                    rcases Nat.lt_or_ge (ps_G T k f 1 (o + 1) 0 (ps_G T k f 0 (o + 1) 0 (i + 1)).2.1).2.1 L with x | x
                    · exact x
                    · have := (hT _).mpr x
                      omega
                  have b3 := b2.2.1
                  rw [if_neg (by decide)] at b3
                  refine ⟨by show 0 ≤ 3; decide, jL, fun _ => ?_⟩
                  show i < (ps_G T k f 1 (o + 1) 0 (ps_G T k f 0 (o + 1) 0 (i + 1)).2.1).2.1 + 1 ∧ i + ((ps_G T k f 0 (o + 1) 0 (i + 1)).2.2 ++ (ps_G T k f 1 (o + 1) 0 (ps_G T k f 0 (o + 1) 0 (i + 1)).2.1).2.2).length ≤ (ps_G T k f 1 (o + 1) 0 (ps_G T k f 0 (o + 1) 0 (i + 1)).2.1).2.1 + 1
                  rw [List.length_append]
                  omega
                · exact ⟨by show 1 ≤ 3; decide, b.2.1, fun z => absurd (show (1 : Nat) = 0 from z) (by decide)⟩
              · rename_i z2
                exact ⟨b.1, b.2.1, fun z3 => absurd z3 z2⟩
            · rename_i z
              exact ⟨a.1, a.2.1, fun z2 => absurd z2 z⟩
        · exact psM_ok hT hi hk
    · unfold ps_G
      split
      · rename_i c
        have iL := ilt _ c (by decide)
        have a := (ih o 0 (i + 1) (by omega)).1 (by omega)
        split
        · rename_i z
          have a2 := a.2.2 z
          have b := (ih o 1 (ps_G T k f 0 o 0 (i + 1)).2.1 a.2.1).2 (by omega)
          refine ⟨b.1, b.2.1, fun z2 => ?_⟩
          have b2 := b.2.2 z2
          have b3 := b2.2.1
          rw [if_pos rfl] at b3
          have lw : (if w = 1 then [(-4 : Int)] else []).length = (if w = 1 then 1 else 0) := by split <;> rfl
          show i ≤ (ps_G T k f 1 o 1 (ps_G T k f 0 o 0 (i + 1)).2.1).2.1 ∧ i + ((if w = 1 then [-4] else []) ++ ((ps_G T k f 0 o 0 (i + 1)).2.2 ++ (ps_G T k f 1 o 1 (ps_G T k f 0 o 0 (i + 1)).2.1).2.2)).length ≤ (ps_G T k f 1 o 1 (ps_G T k f 0 o 0 (i + 1)).2.1).2.1 + (if w = 1 then 1 else 0) ∧ _
          rw [List.length_append, List.length_append, lw]
          exact ⟨by omega, by omega, b2.2.2⟩
        · rename_i z
          exact ⟨a.1, a.2.1, fun z2 => absurd z2 z⟩
      · split
        · rename_i c
          have iL := ilt _ c (by decide)
          have a := (ih o 0 (i + 1) (by omega)).1 (by omega)
          split
          · rename_i z
            have a2 := a.2.2 z
            have b := (ih o w (ps_G T k f 0 o 0 (i + 1)).2.1 a.2.1).2 (by omega)
            refine ⟨b.1, b.2.1, fun z2 => ?_⟩
            have b2 := b.2.2 z2
            have b3 := b2.2.1
            show i ≤ (ps_G T k f 1 o w (ps_G T k f 0 o 0 (i + 1)).2.1).2.1 ∧ i + ((ps_G T k f 0 o 0 (i + 1)).2.2 ++ (-5 :: (ps_G T k f 1 o w (ps_G T k f 0 o 0 (i + 1)).2.1).2.2)).length ≤ (ps_G T k f 1 o w (ps_G T k f 0 o 0 (i + 1)).2.1).2.1 + (if w = 1 then 1 else 0) ∧ _
            rw [List.length_append, List.length_cons]
            exact ⟨by omega, by omega, b2.2.2⟩
          · rename_i z
            exact ⟨a.1, a.2.1, fun z2 => absurd z2 z⟩
        · rename_i c1 c2
          refine ⟨by show 0 ≤ 3; decide, hi, fun _ => ⟨Nat.le_refl i, ?_, c1, c2⟩⟩
          show i + (if w = 1 then [(-4 : Int)] else []).length ≤ i + (if w = 1 then 1 else 0)
          split <;> exact Nat.le_refl _
end PSL
