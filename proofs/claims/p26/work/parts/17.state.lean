/-! THE STATE OF INTS: behind the constructors the graph of objects never changes -/
abbrev pm_S : Type := (Nat → Nat → Int32) × (Nat → Nat → Int64)
abbrev pm_LY : Type := (Nat × Nat) ⊕ (Nat × List (Option Nat))
def pm_lay : List pm_LY := [
  .inr (11, [some 1, some 34, none, some 67, some 74, some 79, some 85, some 90]),
  .inr (9, [none, none, none, none, some 2, some 3, some 7, some 13, some 21, some 31]),
  .inl (0, 4),
  .inr (6, [none, some 4, some 5, some 6]),
  .inl (0, 10),
  .inl (0, 100),
  .inl (0, 80),
  .inr (4, [none, some 8, some 9, some 10, some 11, some 12]),
  .inl (0, 10),
  .inl (0, 10),
  .inl (0, 10),
  .inl (0, 10),
  .inl (0, 10),
  .inr (0, [none, some 14, some 15, some 16, some 17, some 18, some 19, some 20]),
  .inl (0, 30),
  .inl (0, 30),
  .inl (0, 30),
  .inl (0, 30),
  .inl (0, 30),
  .inl (0, 30),
  .inl (0, 30),
  .inr (3, [none, some 22, some 23, some 24, some 25, some 26, some 27, some 28, some 29, some 30]),
  .inl (0, 30),
  .inl (0, 30),
  .inl (0, 30),
  .inl (0, 30),
  .inl (0, 30),
  .inl (0, 10),
  .inl (0, 10),
  .inl (0, 32),
  .inl (0, 32),
  .inr (1, [none, none, none, some 32, some 33]),
  .inl (0, 400),
  .inl (0, 40),
  .inr (9, [none, none, none, none, some 35, some 36, some 40, some 46, some 54, some 64]),
  .inl (0, 4),
  .inr (6, [none, some 37, some 38, some 39]),
  .inl (0, 10),
  .inl (0, 100),
  .inl (0, 80),
  .inr (4, [none, some 41, some 42, some 43, some 44, some 45]),
  .inl (0, 10),
  .inl (0, 10),
  .inl (0, 10),
  .inl (0, 10),
  .inl (0, 10),
  .inr (0, [none, some 47, some 48, some 49, some 50, some 51, some 52, some 53]),
  .inl (0, 30),
  .inl (0, 30),
  .inl (0, 30),
  .inl (0, 30),
  .inl (0, 30),
  .inl (0, 30),
  .inl (0, 30),
  .inr (3, [none, some 55, some 56, some 57, some 58, some 59, some 60, some 61, some 62, some 63]),
  .inl (0, 30),
  .inl (0, 30),
  .inl (0, 30),
  .inl (0, 30),
  .inl (0, 30),
  .inl (0, 10),
  .inl (0, 10),
  .inl (0, 32),
  .inl (0, 32),
  .inr (1, [none, none, none, some 65, some 66]),
  .inl (0, 400),
  .inl (0, 40),
  .inr (2, [none, none, none, some 68, some 69, some 72, some 73, none, none, none]),
  .inl (0, 400),
  .inr (1, [none, none, none, some 70, some 71]),
  .inl (0, 400),
  .inl (0, 40),
  .inl (0, 401),
  .inl (0, 401),
  .inr (7, [some 1, some 75, some 76, some 77, some 78, none]),
  .inl (0, 9),
  .inl (1, 30),
  .inl (0, 10),
  .inl (0, 10),
  .inr (5, [some 1, some 80, none, some 81, some 82, some 83, some 84]),
  .inl (0, 10),
  .inl (0, 10),
  .inl (1, 1024),
  .inl (0, 1024),
  .inl (0, 64),
  .inr (8, [some 1, none, some 86, some 87, some 88, some 89]),
  .inl (0, 9),
  .inl (0, 81),
  .inl (0, 9),
  .inl (0, 4608),
  .inr (10, [some 3, none, some 91, some 92]),
  .inl (2, 90),
  .inl (2, 90),
  .inr (12, [none, none, none, some 94, some 95, none, some 96, some 97, some 98, some 99, some 100, none, some 101, some 102, some 103, some 104, some 105, some 106, some 107, none, none, none, some 108, none, some 109, some 110, some 111, some 112, some 113, some 114, none, none, none, none, none, some 115, none, some 116, some 117, some 118, some 119, some 120, none, none, some 121, none, none, none, none, none, some 122, some 123, some 124, none, some 125, none, some 126, some 127, some 128, some 129, some 130, some 131, some 132, none, none, none, some 133]),
  .inl (0, 10),
  .inl (0, 100),
  .inl (0, 10),
  .inl (0, 10),
  .inl (0, 10),
  .inl (0, 10),
  .inl (0, 10),
  .inl (0, 30),
  .inl (0, 30),
  .inl (0, 30),
  .inl (0, 30),
  .inl (0, 30),
  .inl (0, 30),
  .inl (0, 30),
  .inl (0, 4),
  .inl (0, 30),
  .inl (0, 30),
  .inl (0, 30),
  .inl (0, 30),
  .inl (0, 80),
  .inl (0, 400),
  .inl (0, 80),
  .inl (0, 32),
  .inl (0, 32),
  .inl (0, 32),
  .inl (0, 800),
  .inl (0, 800),
  .inl (0, 40),
  .inl (0, 9),
  .inl (0, 420),
  .inl (0, 10),
  .inl (0, 30),
  .inl (0, 1024),
  .inl (1, 1024),
  .inl (0, 256),
  .inl (0, 10240),
  .inl (2, 160),
  .inl (0, 16),
  .inl (0, 10),
  .inl (0, 1700)]
def pm_wc (σ : pm_S) (p : Nat) (c : pm_LY) : va_E := match c with
  | .inl (k, n) => match k with
    | 2 => .inl (2, n, .inr (.inl (σ.2 p)))
    | k => .inl (k, n, .inl (σ.1 p))
  | .inr (ci, fs) => .inr (ci, fs.mapIdx (fun j o => match o with
    | some q => .ref q
    | none => .int (σ.1 p j)))
def pm_wl (σ : pm_S) : pm_H := pm_lay.mapIdx (pm_wc σ)
def pm_OS (scr : Option (Nat × (Nat → Int32))) : pm_O pm_S :=
  (fun σ p x y => match pm_nth pm_lay p with
    | some (.inr (ci, fs)) => match Nat.beq ci x with
      | true => match pm_nth fs y with
        | some (some q) => some (.ref q)
        | some none => some (.int (σ.1 p y))
        | none => none
      | false => none
    | _ => none,
   fun σ p x y v => match v with
    | .int w => match pm_nth pm_lay p with
      | some (.inr (ci, fs)) => match Nat.beq ci x with
        | true => match pm_nth fs y with
          | some none => some (va_up σ.1 p (upd (σ.1 p) y w), σ.2)
          | _ => none
        | false => none
      | _ => none
    | _ => none,
   fun σ p => match pm_nth pm_lay p with
    | some (.inl (k, n)) => match Nat.ble k 1 with
      | true => some (k, n, σ.1 p)
      | false => none
    | _ => none,
   fun σ p f => (va_up σ.1 p f, σ.2),
   fun σ p => match pm_nth pm_lay p with
    | some (.inl (2, n)) => some (n, σ.2 p)
    | _ => none,
   fun σ p f => (σ.1, va_up σ.2 p f),
   fun _ _ => none,
   fun _ p => match pm_nth pm_lay p with
    | some (.inr (ci, _)) => some ci
    | _ => none,
   scr)
theorem pm_wl_get (σ : pm_S) (p : Nat) : (pm_wl σ)[p]? = (pm_nth pm_lay p).map (pm_wc σ p) := by
  rw [pm_nth_eq]
  simp [pm_wl, List.getElem?_mapIdx]
theorem pm_wl_len (σ : pm_S) : (pm_wl σ).length = pm_lay.length := by simp [pm_wl]
theorem pm_wc_ar {σ : pm_S} {p k n : Nat} (hk : Nat.ble k 1 = true) : pm_wc σ p (.inl (k, n)) = .inl (k, n, .inl (σ.1 p)) := by
  have h1 : k ≤ 1 := Nat.le_of_ble_eq_true hk
  rcases (show k = 0 ∨ k = 1 by omega) with rfl | rfl <;> rfl
/-- where two states agree at a place, their cells do -/
theorem pm_wc_eq {σ τ : pm_S} {p : Nat} (h1 : σ.1 p = τ.1 p) (h2 : σ.2 p = τ.2 p) (c : pm_LY) : pm_wc σ p c = pm_wc τ p c := by
  unfold pm_wc
  split
  · split
    · rw [h2]
    · rw [h1]
  · rw [h1]
theorem pm_wl_set {σ τ : pm_S} {p : Nat} {c : pm_LY} (hc : pm_nth pm_lay p = some c) (h1 : ∀ q, q ≠ p → σ.1 q = τ.1 q) (h2 : ∀ q, q ≠ p → σ.2 q = τ.2 q) : pm_wl τ = (pm_wl σ).set p (pm_wc τ p c) := by
  apply List.ext_getElem?
  intro q
  rw [List.getElem?_set, pm_wl_get, pm_wl_get, pm_wl_len]
  by_cases hq : p = q
  · subst hq
    have hl : p < pm_lay.length := by
      rw [pm_nth_eq] at hc
      exact (List.getElem?_eq_some_iff.mp hc).1
    rw [hc]
    simp [hl]
  · rw [if_neg hq]
    cases hn : pm_nth pm_lay q with
    | none => rfl
    | some c' =>
      show some _ = some _
      rw [pm_wc_eq (h1 q (fun e => hq e.symm)) (h2 q (fun e => hq e.symm))]
theorem pm_Rel_S (scr0 scr : Option (Nat × (Nat → Int32))) (hs : ∀ z, scr0 = some z → scr = some z) : pm_Rel (α := Prop) (pm_OS scr0) False pm_br (fun a => a) pm_wl scr := by
  refine ⟨fun h => h, fun c D a b h => h, ?_, ?_, ?_, ?_, ?_, ?_, ?_, ?_, fun z h => hs z h⟩
  · intro σ p x y v h
    dsimp only [pm_OS, pm_OH] at h ⊢
    rw [pm_wl_get]
    split at h
    · rename_i ci fs hl
      split at h
      · rename_i hx
        rw [hl]
        dsimp only [Option.map, pm_wc]
        rw [hx]
        dsimp only
        rw [List.getElem?_mapIdx, ← pm_nth_eq]
        split at h
        · rename_i hf; cases h; rw [hf]; rfl
        · rename_i hf; cases h; rw [hf]; rfl
        · cases h
      · cases h
    · cases h
  · intro σ p x y v s' h
    dsimp only [pm_OS, pm_OH] at h ⊢
    rw [pm_wl_get]
    split at h
    · rename_i w
      split at h
      · rename_i ci fs hl
        split at h
        · rename_i hx
          rw [hl]
          dsimp only [Option.map, pm_wc]
          rw [hx]
          dsimp only
          rw [List.getElem?_mapIdx, ← pm_nth_eq]
          split at h
          · rename_i hf
            cases h
            rw [hf]
            dsimp only [Option.map]
            refine congrArg some ?_
            rw [pm_wl_set (σ := σ) (τ := (va_up σ.1 p (upd (σ.1 p) y w), σ.2)) hl (fun q hq => by simp [va_up, hq]) (fun _ _ => rfl)]
            refine congrArg (fun z => (pm_wl σ).set p z) ?_
            dsimp only [pm_wc]
            refine congrArg (fun z => (Sum.inr (ci, z) : va_E)) ?_
            apply List.ext_getElem?
            intro j
            rw [List.getElem?_set, List.getElem?_mapIdx, List.getElem?_mapIdx, List.length_mapIdx]
            by_cases hj : y = j
            · subst hj
              rw [pm_nth_eq] at hf
              have hl2 := (List.getElem?_eq_some_iff.mp hf).1
              rw [hf]
              simp [hl2, va_up, upd]
            · rw [if_neg hj]
              cases fs[j]? with
              | none => rfl
              | some o =>
                show some _ = some _
                cases o with
                | none => simp [va_up, upd, show ¬ j = y from fun e5 => hj e5.symm]
                | some q => rfl
          · cases h
        · cases h
      · cases h
    · cases h
  · intro σ p q h
    dsimp only [pm_OS, pm_OH] at h ⊢
    rw [pm_wl_get]
    split at h
    · rename_i k n hl
      split at h
      · rename_i hk
        cases h
        rw [hl]
        dsimp only [Option.map]
        rw [pm_wc_ar hk]
      · cases h
    · cases h
  · intro σ p q f h
    dsimp only [pm_OS, pm_OH] at h ⊢
    rw [pm_wl_get]
    split at h
    · rename_i k n hl
      split at h
      · rename_i hk
        cases h
        rw [hl]
        dsimp only [Option.map]
        rw [pm_wc_ar hk]
        dsimp only
        rw [pm_wl_set (σ := σ) (τ := (va_up σ.1 p f, σ.2)) hl (fun q hq => by simp [va_up, hq]) (fun _ _ => rfl), pm_wc_ar hk]
        simp [va_up]
      · cases h
    · cases h
  · intro σ p q h
    dsimp only [pm_OS, pm_OH] at h ⊢
    rw [pm_wl_get]
    split at h
    · rename_i n hl
      cases h
      rw [hl]
      rfl
    · cases h
  · intro σ p q f h
    dsimp only [pm_OS, pm_OH] at h ⊢
    rw [pm_wl_get]
    split at h
    · rename_i n hl
      cases h
      rw [hl]
      dsimp only [Option.map, pm_wc]
      rw [pm_wl_set (σ := σ) (τ := (σ.1, va_up σ.2 p f)) hl (fun _ _ => rfl) (fun q hq => by simp [va_up, hq])]
      simp [pm_wc, va_up]
    · cases h
  · intro σ c q s' h
    cases h
  · intro σ p c h
    dsimp only [pm_OS, pm_OH] at h ⊢
    rw [pm_wl_get]
    split at h
    · rename_i hl
      cases h
      rw [hl]
      rfl
    · cases h
/-! RUNS AND CALLS over the state of ints -/
def pm_OkS (E : pm_E) (d k idx : Nat) (L st : List Value) (σ : pm_S) (Q : Option Value → pm_S → Prop) : Prop := pm_Ok E d k 0 idx L st (pm_wl σ) (fun r h => ∃ τ, h = pm_wl τ ∧ Q r τ)
def pm_CallS (E : pm_E) (d k : Nat) (av : List Value) (σ : pm_S) (Q : Option Value → pm_S → Prop) : Prop := pm_Call E d k 0 av (pm_wl σ) (fun r h => ∃ τ, h = pm_wl τ ∧ Q r τ)
/-- the script is not looked at by methods -/
def Ok (k D idx : Nat) (L st : List Value) (σ : pm_S) (Q : Option Value → pm_S → Prop) : Prop := ∀ (E : pm_E) (d : Nat), D ≤ d → pm_OkS E d k idx L st σ Q
def Sp (k D : Nat) (av : List Value) (σ : pm_S) (Q : Option Value → pm_S → Prop) : Prop := ∀ (E : pm_E) (d : Nat), D ≤ d → pm_CallS E d k av σ Q
theorem Sp.mono {k D : Nat} {av : List Value} {σ : pm_S} {Q Q' : Option Value → pm_S → Prop} (h : Sp k D av σ Q) (hQ : ∀ r τ, Q r τ → Q' r τ) : Sp k D av σ Q' := fun E d hd => pm_Call.mono (h E d hd) (fun r h' ⟨τ, e, q⟩ => ⟨τ, e, hQ r τ q⟩)
theorem Sp.up {k D D' : Nat} {av : List Value} {σ : pm_S} {Q : Option Value → pm_S → Prop} (h : Sp k D av σ Q) (hD : D ≤ D') : Sp k D' av σ Q := fun E d hd => h E d (Nat.le_trans hD hd)
theorem Sp.use {k D D' : Nat} {av : List Value} {σ : pm_S} {Q Q' : Option Value → pm_S → Prop} (h : Sp k D av σ Q) (hD : D ≤ D') (hQ : ∀ r τ, Q r τ → Q' r τ) : Sp k D' av σ Q' := (h.up hD).mono hQ
theorem Ok.mono {k D idx : Nat} {L st : List Value} {σ : pm_S} {Q Q' : Option Value → pm_S → Prop} (h : Ok k D idx L st σ Q) (hQ : ∀ r τ, Q r τ → Q' r τ) : Ok k D idx L st σ Q' := fun E d hd => (h E d hd).mono (fun r h' ⟨τ, e, q⟩ => ⟨τ, e, hQ r τ q⟩)
def pm_wp (C : List pm_I) (rty : Option FieldType) (R : Nat → List Value → List Value → pm_S → Prop) (cl : Nat → List Value → pm_S → (Option Value → pm_S → Prop) → Prop) (Q : Option Value → pm_S → Prop) (cuts : List Nat) : Nat → Nat → List Value → List Value → pm_S → Prop
  | 0, idx, L, st, σ => R idx L st σ
  | f + 1, idx, L, st, σ => match pm_nth C idx with
    | none => False
    | some i => pm_go (pm_OS none) False pm_br rty idx i L st σ (fun idx' L' st' σ' => match cuts.elem idx' with
      | true => R idx' L' st' σ'
      | false => pm_wp C rty R cl Q cuts f idx' L' st' σ') cl Q
theorem Ok.wp {k D : Nat} {M : pm_M} (hM : pm_tab[k]? = some M) (cuts : List Nat) {Q : Option Value → pm_S → Prop} : ∀ (f idx : Nat) (L st : List Value) (σ : pm_S), pm_wp M.2.2.2.2.2 M.2.2.2.1 (fun idx L st σ => Ok k (D + 1) idx L st σ Q) (fun k' As σ kont => Sp k' D As σ kont) Q cuts f idx L st σ → Ok k (D + 1) idx L st σ Q := by
  intro f
  induction f with
  | zero => intro idx L st σ h; exact h
  | succ f ih =>
    intro idx L st σ h E d hd
    unfold pm_wp at h
    split at h
    · exact h.elim
    · rename_i i hi
      have hgo2 := pm_go_r (pm_Rel_S none (some (pe_n E, pe_x E)) (fun z hz => by cases hz)) h
      have key := pm_go_ok (E := E) (d := d) (N := pm_lay.length) (Q := fun r h => ∃ τ, h = pm_wl τ ∧ Q r τ) (by omega) hM hi hgo2 (by rw [pm_wl_len]; exact Nat.le_refl _) (fun idx' L' st' h' q _ => ?_) (fun k' As h' kont hk q => ?_) (fun r h' q => ?_)
      · rw [pm_wl_len, Nat.sub_self] at key
        exact key
      · obtain ⟨τ, e5, q⟩ := q
        rw [e5, pm_wl_len, Nat.sub_self]
        refine ⟨Nat.le_refl _, ?_⟩
        dsimp only at q
        split at q
        · exact q E d hd
        · exact ih _ _ _ _ q E d hd
      · obtain ⟨τ, kont1, e5, q, hk1⟩ := q
        rw [e5]
        refine ⟨0, d - 1, by omega, by rw [pm_wl_len]; exact Nat.le_refl _, ?_⟩
        exact pm_Call.mono (q E (d - 1) (by omega)) (fun r h1 ⟨τ', e3, q3⟩ => by rw [e3]; exact hk1 _ _ q3)
      · exact q
theorem Sp.of {k D : Nat} {M : pm_M} (hM : pm_tab[k]? = some M) {av : List Value} (hac : pm_ac M.2.2.1 av = true) {σ : pm_S} {Q : Option Value → pm_S → Prop} (h : Ok k D 0 (pm_L0 M.2.2.1 av) [] σ Q) : Sp k D av σ Q := by
  intro E d hd
  refine pm_call_of hM hac ((h E d hd).mono (fun r h' ⟨τ, e, q⟩ => ⟨⟨τ, e, q⟩, ?_⟩))
  rw [e, pm_wl_len, pm_wl_len]
  rfl
/-- a method out of its weakest precondition -/
theorem Sp.wp {k D : Nat} {M : pm_M} (hM : pm_tab[k]? = some M) {av : List Value} (hac : pm_ac M.2.2.1 av = true) {σ : pm_S} {Q : Option Value → pm_S → Prop} (cuts : List Nat) (f : Nat) (h : pm_wp M.2.2.2.2.2 M.2.2.2.1 (fun idx L st σ => Ok k (D + 1) idx L st σ Q) (fun k' As σ kont => Sp k' D As σ kont) Q cuts f 0 (pm_L0 M.2.2.1 av) [] σ) : Sp k (D + 1) av σ Q := Sp.of hM hac (Ok.wp hM cuts f _ _ _ _ h)
