/-! SOUNDNESS, 1: what the abstract things are on the machine -/
/-- the launch, the address of place 0, the classes' numbers and slots, the arrays' classes, the texts' addresses, a static, the script -/
abbrev pm_E : Type := Launch × Nat × (Nat → ClassId) × (Nat → Nat → Nat) × (Nat → ClassId) × (Nat → Nat) × (Nat → Nat) × Value × Nat × Nat × (Nat → Int32)
abbrev pe_D (E : pm_E) : va_G := (E.2.2.1, E.2.2.2.1)
abbrev pe_K (E : pm_E) : Nat → ClassId := E.2.2.2.2.1
abbrev pe_aK (E : pm_E) : Nat → Nat := E.2.2.2.2.2.1
abbrev pe_aV (E : pm_E) : Nat → Nat := E.2.2.2.2.2.2.1
abbrev pe_z (E : pm_E) : Value := E.2.2.2.2.2.2.2.1
abbrev pe_b (E : pm_E) : Nat := E.2.2.2.2.2.2.2.2.1
abbrev pe_n (E : pm_E) : Nat := E.2.2.2.2.2.2.2.2.2.1
abbrev pe_x (E : pm_E) : Nat → Int32 := E.2.2.2.2.2.2.2.2.2.2
abbrev pe_A (E : pm_E) : Nat → Prop := fun q => E.2.1 ≤ q
abbrev pe_ty (E : pm_E) : List (ClassId × FieldType) := [(pe_K E 0, .int), (pe_K E 1, .boolean), (pe_K E 2, .long)]
def pe_v (E : pm_E) (v : Value) : Value := match v with
  | .ref p => .ref (E.2.1 + p)
  | .retAddr k => if k < 10 then .ref (pe_aK E k) else if k < 20 then .ref (pe_aV E (k - 10)) else if k = 30 then .ref (pe_b E) else pe_z E
  | v => v
def pe_c (E : pm_E) (c : va_E) : va_E := match c with
  | .inl (k, a) => .inl (pe_K E k, a)
  | .inr (ci, fs) => .inr (ci, fs.map (pe_v E))
def pe_w (E : pm_E) (h : pm_H) : va_W := h.mapIdx (fun p c => (E.2.1 + p, pe_c E c))
theorem pe_w_get {E : pm_E} {h : pm_H} {p : Nat} {c : va_E} (hp : h[p]? = some c) : (pe_w E h)[p]? = some (E.2.1 + p, pe_c E c) := by
  simp [pe_w, List.getElem?_mapIdx, hp]
theorem pe_w_len {E : pm_E} {h : pm_H} : (pe_w E h).length = h.length := by simp [pe_w]
theorem pe_w_at {E : pm_E} {h : pm_H} {p : Nat} {q : Nat × va_E} (hp : (pe_w E h)[p]? = some q) : ∃ c, h[p]? = some c ∧ q = (E.2.1 + p, pe_c E c) := by
  simp only [pe_w, List.getElem?_mapIdx] at hp
  cases hc : h[p]? with
  | none => rw [hc] at hp; cases hp
  | some c => rw [hc] at hp; exact ⟨c, rfl, (Option.some.inj hp).symm⟩
theorem pe_w_set {E : pm_E} {h : pm_H} {p : Nat} {c : va_E} : pe_w E (h.set p c) = (pe_w E h).set p (E.2.1 + p, pe_c E c) := by
  apply List.ext_getElem?
  intro j
  simp only [pe_w, List.getElem?_mapIdx, List.getElem?_set, List.length_mapIdx]
  by_cases hj : p = j
  · subst hj
    by_cases hl : p < h.length <;> simp [hl]
  · simp [hj]
theorem pe_w_push {E : pm_E} {h : pm_H} {c : va_E} : pe_w E (h ++ [c]) = pe_w E h ++ [(E.2.1 + h.length, pe_c E c)] := by
  simp [pe_w, List.mapIdx_append]
theorem pe_w_D {E : pm_E} {h : pm_H} : va_D (pe_A E) (pe_w E h) := by
  refine ⟨fun i j p q hi hj e => ?_, fun k q hk => ?_⟩
  · obtain ⟨c, -, rfl⟩ := pe_w_at hi
    obtain ⟨c', -, rfl⟩ := pe_w_at hj
    have e2 : E.2.1 + i = E.2.1 + j := e
    omega
  · obtain ⟨c, -, rfl⟩ := pe_w_at hk
    exact Nat.le_add_right _ _
theorem pe_v_cat {E : pm_E} (hz : (pe_z E).category = 1) (v : Value) : (pe_v E v).category = v.category := by
  unfold pe_v
  split
  · rfl
  · split
    · rfl
    · split
      · rfl
      · split
        · rfl
        · exact hz
  · rfl
def pe_ls (E : pm_E) (L : List Value) : List (Nat × Value) := L.zipIdx.filterMap (fun q => if q.1 = pm_un then none else some (q.2, pe_v E q.1))
theorem pm_nth_eq {α : Type} (l : List α) (n : Nat) : pm_nth l n = l[n]? := by
  induction l generalizing n with
  | nil => cases n <;> rfl
  | cons a l ih => cases n with
    | zero => rfl
    | succ n => simp [pm_nth, ih]
theorem pe_ls_mem {E : pm_E} {L : List Value} {q : Nat × Value} : q ∈ pe_ls E L ↔ ∃ v, L[q.1]? = some v ∧ v ≠ pm_un ∧ q.2 = pe_v E v := by
  obtain ⟨i, w⟩ := q
  simp only [pe_ls, List.mem_filterMap, Prod.exists]
  constructor
  · rintro ⟨v, j, hm, h⟩
    rw [List.mem_zipIdx_iff_getElem?] at hm
    by_cases hu : v = pm_un
    · rw [if_pos hu] at h; cases h
    · rw [if_neg hu] at h
      cases h
      exact ⟨v, hm, hu, rfl⟩
  · rintro ⟨v, h1, h2, h3⟩
    refine ⟨v, i, ?_, ?_⟩
    · rw [List.mem_zipIdx_iff_getElem?]; exact h1
    · rw [if_neg h2]; simp [h3]
theorem pe_load {E : pm_E} {L : List Value} {ls : Array Slot} {n i : Nat} {v : Value} (hl : lv_has ls n (pe_ls E L)) (h : pm_nth L i = some v) (hu : v ≠ pm_un) : ls[i]? = some (.val (pe_v E v)) := by
  rw [pm_nth_eq] at h
  exact hl.2.2 (i, pe_v E v) (pe_ls_mem.mpr ⟨v, h, hu, rfl⟩)
theorem pm_has_of {ls : Array Slot} {n : Nat} {l l' : List (Nat × Value)} (h : lv_has ls n l) (hs : ∀ q ∈ l', q ∈ l) : lv_has ls n l' := ⟨h.1, h.2.1, fun q hq => h.2.2 q (hs q hq)⟩
theorem pm_s1_spec {L L1 : List Value} {i : Nat} {v : Value} (h : pm_s1 L i v = some L1) : i < L.length ∧ L1 = L.set i v ∧ ∀ j w, i = j + 1 → L[j]? = some w → w.category = 1 := by
  unfold pm_s1 at h
  split at h
  · cases h
  · rename_i hn
    rw [pm_nth_eq] at hn
    have hlt := (List.getElem?_eq_some_iff.mp hn).1
    split at h
    · cases h
      exact ⟨hlt, rfl, fun j w e => by cases e⟩
    · rename_i j
      split at h
      · rename_i w hw
        split at h
        · rename_i hb
          cases h
          refine ⟨hlt, rfl, fun j' w' e hw' => ?_⟩
          cases e
          rw [pm_nth_eq] at hw
          rw [hw] at hw'
          cases hw'
          exact Nat.eq_of_beq_eq_true hb
        · cases h
      · cases h
theorem pe_store1 {E : pm_E} (hz : (pe_z E).category = 1) {L L1 : List Value} {ls : Array Slot} {n i : Nat} {v w : Value} (h : pm_s1 L i v = some L1) (hw : w = pe_v E v) (hl : lv_has ls n ((i, w) :: (pe_ls E L).filter (fun q => !(q.1 == i) && !(q.1 + 1 == i && q.2.category == 2)))) : lv_has ls n (pe_ls E L1) := by
  obtain ⟨h1, rfl, h3⟩ := pm_s1_spec h
  subst hw
  refine pm_has_of hl (fun q hq => ?_)
  obtain ⟨u, hu1, hu2, hu3⟩ := pe_ls_mem.mp hq
  by_cases hj : q.1 = i
  · rw [hj, List.getElem?_set_self h1] at hu1
    cases hu1
    obtain ⟨q1, q2⟩ := q
    simp only at hj hu3
    subst hj; subst hu3
    exact List.mem_cons_self
  · rw [List.getElem?_set_ne (fun e => hj e.symm)] at hu1
    refine List.mem_cons_of_mem _ (List.mem_filter.mpr ⟨pe_ls_mem.mpr ⟨u, hu1, hu2, hu3⟩, ?_⟩)
    have hc : q.1 + 1 = i → q.2.category = 1 := fun e => by rw [hu3, pe_v_cat hz]; exact h3 q.1 u e.symm hu1
    by_cases he : q.1 + 1 = i
    · simp [hj, hc he]
    · simp [hj, he]
theorem pe_store2 {E : pm_E} (hz : (pe_z E).category = 1) {L L1 : List Value} {ls : Array Slot} {n i : Nat} {v : Int64} (h : pm_s2 L i v = some L1) (hl : lv_has ls n ((i, Value.long v) :: (pe_ls E L).filter (fun q => !(q.1 == i) && (!(q.1 == i + 1) && !(q.1 + 1 == i && q.2.category == 2))))) : lv_has ls n (pe_ls E L1) := by
  unfold pm_s2 at h
  split at h
  · cases h
  · rename_i hn
    split at h
    · cases h
    · rename_i L2 h2
      cases h
      obtain ⟨h1, rfl, h3⟩ := pm_s1_spec h2
      rw [pm_nth_eq] at hn
      have hlt := (List.getElem?_eq_some_iff.mp hn).1
      refine pm_has_of hl (fun q hq => ?_)
      obtain ⟨u, hu1, hu2, hu3⟩ := pe_ls_mem.mp hq
      have hj1 : q.1 ≠ i + 1 := fun e => by
        rw [e, List.getElem?_set_self (by simpa using hlt)] at hu1
        cases hu1
        exact hu2 rfl
      rw [List.getElem?_set_ne (fun e => hj1 e.symm)] at hu1
      by_cases hj : q.1 = i
      · rw [hj, List.getElem?_set_self h1] at hu1
        cases hu1
        obtain ⟨q1, q2⟩ := q
        simp only at hj hu3
        subst hj; subst hu3
        exact List.mem_cons_self
      · rw [List.getElem?_set_ne (fun e => hj e.symm)] at hu1
        refine List.mem_cons_of_mem _ (List.mem_filter.mpr ⟨pe_ls_mem.mpr ⟨u, hu1, hu2, hu3⟩, ?_⟩)
        have hc : q.1 + 1 = i → q.2.category = 1 := fun e => by rw [hu3, pe_v_cat hz]; exact h3 q.1 u e.symm hu1
        by_cases he : q.1 + 1 = i
        · simp [hj, hj1, hc he]
        · simp [hj, hj1, he]
theorem pm_s1_len {L L1 : List Value} {i : Nat} {v : Value} (h : pm_s1 L i v = some L1) : L1.length = L.length := by
  obtain ⟨-, rfl, -⟩ := pm_s1_spec h
  simp
theorem pm_s2_len {L L1 : List Value} {i : Nat} {v : Int64} (h : pm_s2 L i v = some L1) : L1.length = L.length ∧ i + 1 < L.length := by
  unfold pm_s2 at h
  split at h
  · cases h
  · rename_i hn
    split at h
    · cases h
    · rename_i L2 h2
      cases h
      rw [pm_nth_eq] at hn
      exact ⟨by simp [pm_s1_len h2], (List.getElem?_eq_some_iff.mp hn).1⟩
