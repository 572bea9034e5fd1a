/-! THE BEGINNING: both constructors, run by the kernel -/
def pm_h0 : pm_H := [.inr (11, pm_dfl 11)]
def pm_x1 : Option pm_R := pm_exc 2000 6 127 [.ref 0] pm_h0
def pm_h1 : pm_H := match pm_x1 with
  | some q => q.2 ++ [.inr (12, pm_dfl 12)]
  | none => []
theorem pm_x1_ok : (match pm_x1 with
  | some (none, h) => Nat.beq h.length 93
  | _ => false) = true := by decide +kernel
def pm_x2 : Option pm_R := pm_exc 2000 6 158 [.ref 93] pm_h1
def pm_h2 : pm_H := match pm_x2 with
  | some q => q.2
  | none => []
def pm_shc (c : va_E) (y : pm_LY) : Bool := match c, y with
  | .inl (k, n, .inl _), .inl (k', n') => Nat.beq k k' && Nat.beq n n' && Nat.ble k 1
  | .inl (k, n, .inr (.inl _)), .inl (k', n') => Nat.beq k 2 && Nat.beq k' 2 && Nat.beq n n'
  | .inr (ci, fs), .inr (cj, os) => Nat.beq ci cj && Nat.beq fs.length os.length && (fs.zip os).all (fun q => match q with
    | (.ref a, some b) => Nat.beq a b
    | (.int _, none) => true
    | _ => false)
  | _, _ => false
def pm_shp (h : pm_H) : Bool := Nat.beq h.length pm_lay.length && (h.zip pm_lay).all (fun q => pm_shc q.1 q.2)
theorem pm_x2_ok : (match pm_x2 with
  | some (none, h) => pm_shp h
  | _ => false) = true := by decide +kernel
/-- the ints of a heap -/
def pm_sig (h : pm_H) : pm_S :=
  (fun p j => match pm_nth h p with
    | some (.inl (_, _, .inl f)) => f j
    | some (.inr (_, fs)) => match pm_nth fs j with
      | some (.int v) => v
      | _ => 0
    | _ => 0,
   fun p j => match pm_nth h p with
    | some (.inl (_, _, .inr (.inl f))) => f j
    | _ => 0)
theorem pm_shp_ok {h : pm_H} (hs : pm_shp h = true) : h = pm_wl (pm_sig h) := by
  unfold pm_shp at hs
  simp only [Bool.and_eq_true] at hs
  have hl := Nat.eq_of_beq_eq_true hs.1
  apply List.ext_getElem?
  intro p
  rw [pm_wl_get, pm_nth_eq]
  cases hp : h[p]? with
  | none =>
    have h1 : h.length ≤ p := List.getElem?_eq_none_iff.mp hp
    have h2 : pm_lay[p]? = none := List.getElem?_eq_none_iff.mpr (by omega)
    rw [h2]
    rfl
  | some c =>
    have h1 : p < h.length := (List.getElem?_eq_some_iff.mp hp).1
    have h2 : ∃ y, pm_lay[p]? = some y := ⟨_, List.getElem?_eq_getElem (by omega)⟩
    obtain ⟨y, hy⟩ := h2
    rw [hy]
    have h3 := List.all_eq_true.mp hs.2 (c, y) (List.mem_of_getElem? (i := p) (by rw [List.getElem?_zip_eq_some]; exact ⟨hp, hy⟩))
    show some c = some _
    refine congrArg some ?_
    have hn : pm_nth h p = some c := by rw [pm_nth_eq]; exact hp
    dsimp only at h3
    unfold pm_shc at h3
    split at h3
    · rename_i k n f k' n'
      simp only [Bool.and_eq_true] at h3
      have e1 := Nat.eq_of_beq_eq_true h3.1.1
      have e2 := Nat.eq_of_beq_eq_true h3.1.2
      subst e1; subst e2
      rw [pm_wc_ar h3.2]
      simp only [pm_sig, hn]
    · rename_i k n f k' n'
      simp only [Bool.and_eq_true] at h3
      have e1 := Nat.eq_of_beq_eq_true h3.1.1
      have e2 := Nat.eq_of_beq_eq_true h3.1.2
      have e3 := Nat.eq_of_beq_eq_true h3.2
      subst e1; subst e2; subst e3
      simp only [pm_wc, pm_sig, hn]
    · rename_i ci fs cj os
      simp only [Bool.and_eq_true] at h3
      have e1 := Nat.eq_of_beq_eq_true h3.1.1
      have e2 := Nat.eq_of_beq_eq_true h3.1.2
      subst e1
      unfold pm_wc
      dsimp only
      refine congrArg (fun z => (Sum.inr (ci, z) : va_E)) ?_
      apply List.ext_getElem?
      intro j
      rw [List.getElem?_mapIdx]
      cases hj : fs[j]? with
      | none =>
        have g1 : fs.length ≤ j := List.getElem?_eq_none_iff.mp hj
        have g2 : os[j]? = none := List.getElem?_eq_none_iff.mpr (by omega)
        rw [g2]
        rfl
      | some v =>
        have g1 : j < fs.length := (List.getElem?_eq_some_iff.mp hj).1
        have g2 : ∃ o, os[j]? = some o := ⟨_, List.getElem?_eq_getElem (by omega)⟩
        obtain ⟨o, ho⟩ := g2
        rw [ho]
        have g3 := List.all_eq_true.mp h3.2 (v, o) (List.mem_of_getElem? (i := j) (by rw [List.getElem?_zip_eq_some]; exact ⟨hj, ho⟩))
        show some v = some _
        refine congrArg some ?_
        try dsimp only at g3
        split at g3
        · rename_i a b e5
          cases e5
          have e6 := Nat.eq_of_beq_eq_true g3
          subst e6
          rfl
        · rename_i w e5
          cases e5
          simp only [pm_sig, hn, pm_nth_eq fs j, hj]
        · cases g3
    · cases h3
def pm_s0 : pm_S := pm_sig pm_h2
theorem pm_init1 : pm_x1 = some (none, (match pm_x1 with | some q => q.2 | none => [])) := by
  have h := pm_x1_ok
  split at h
  · rename_i h5 e5; rw [e5]
  · cases h
theorem pm_init2 : pm_x2 = some (none, pm_wl pm_s0) := by
  have h := pm_x2_ok
  split at h
  · rename_i h5 e5
    have e6 : pm_h2 = h5 := by unfold pm_h2; rw [e5]
    rw [pm_s0, e6, ← pm_shp_ok h, e5]
  · cases h
theorem pm_h1_len : pm_h1.length = 94 := by
  have h := pm_x1_ok
  unfold pm_h1
  split at h
  · rename_i h5 e5
    rw [e5]
    have e6 := Nat.eq_of_beq_eq_true h
    simp [e6]
  · cases h
