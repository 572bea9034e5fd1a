/-! THE LAW, over any invariant of the state of ints that both sides keep, call by call -/
def pm_wpL (scr : Nat × (Nat → Int32)) (R : Nat → List Value → List Value → pm_S → Prop) (cl : Nat → List Value → pm_S → (Option Value → pm_S → Prop) → Prop) (Q : Option Value → pm_S → Prop) (cuts : List Nat) : Nat → Nat → List Value → List Value → pm_S → Prop
  | 0, idx, L, st, σ => R idx L st σ
  | f + 1, idx, L, st, σ => match pm_nth pc_law idx with
    | none => False
    | some i => pm_go (pm_OS (some scr)) False pm_br (some .boolean) idx i L st σ (fun idx' L' st' σ' => match cuts.elem idx' with
      | true => R idx' L' st' σ'
      | false => pm_wpL scr R cl Q cuts f idx' L' st' σ') cl Q
abbrev pm_ML0 : pm_M := (x, code, maxLocals, ret, 18, pc_law)
set_option maxRecDepth 20000 in
theorem pm_law_row : pm_tab[256]? = some pm_ML0 := rfl
theorem OkL.wp {E : pm_E} {d D : Nat} (hd : D + 1 ≤ d) (cuts : List Nat) {Q : Option Value → pm_S → Prop} : ∀ (f idx : Nat) (L st : List Value) (σ : pm_S), pm_wpL (pe_n E, pe_x E) (fun idx L st σ => pm_OkS E d 256 idx L st σ Q) (fun k' As σ kont => Sp k' D As σ kont) Q cuts f idx L st σ → pm_OkS E d 256 idx L st σ Q := by
  intro f
  induction f with
  | zero => intro idx L st σ h; exact h
  | succ f ih =>
    intro idx L st σ h
    unfold pm_wpL at h
    split at h
    · exact h.elim
    · rename_i i hi
      have hgo2 := pm_go_r (pm_Rel_S (some (pe_n E, pe_x E)) (some (pe_n E, pe_x E)) (fun z hz => hz)) h
      have key := pm_go_ok (E := E) (d := d) (N := pm_lay.length) (M := pm_ML0) (Q := fun r h => ∃ τ, h = pm_wl τ ∧ Q r τ) (by omega) pm_law_row hi hgo2 (by rw [pm_wl_len]; exact Nat.le_refl _) (fun idx' L' st' h' q _ => ?_) (fun k' As h' kont hk q => ?_) (fun r h' q => ?_)
      · rw [pm_wl_len, Nat.sub_self] at key
        exact key
      · obtain ⟨τ, e5, q⟩ := q
        rw [e5, pm_wl_len, Nat.sub_self]
        refine ⟨Nat.le_refl _, ?_⟩
        dsimp only at q
        split at q
        · exact q
        · exact ih _ _ _ _ q
      · obtain ⟨τ, kont1, e5, q, hk1⟩ := q
        rw [e5]
        refine ⟨0, d - 1, by omega, by rw [pm_wl_len]; exact Nat.le_refl _, ?_⟩
        exact pm_Call.mono (q E (d - 1) (by omega)) (fun r h1 ⟨τ', e3, q3⟩ => by rw [e3]; exact hk1 _ _ q3)
      · exact q
theorem OkL.go {E : pm_E} {d D : Nat} (hd : D + 1 ≤ d) (cuts : List Nat) {Q : Option Value → pm_S → Prop} (f : Nat) {idx : Nat} {L st : List Value} {σ : pm_S}
    (h : ∀ (R : Nat → List Value → List Value → pm_S → Prop) (cl : Nat → List Value → pm_S → (Option Value → pm_S → Prop) → Prop) (Z : Option Value → pm_S → Prop), (∀ idx L st σ, pm_OkS E d 256 idx L st σ Q → R idx L st σ) → (∀ k' As σ kont, Sp k' D As σ kont → cl k' As σ kont) → (∀ r τ, Q r τ → Z r τ) → pm_wpL (pe_n E, pe_x E) R cl Z cuts f idx L st σ) : pm_OkS E d 256 idx L st σ Q :=
  OkL.wp hd cuts f _ _ _ _ (h _ _ _ (fun _ _ _ _ h => h) (fun _ _ _ _ h => h) (fun _ _ h => h))
/-- what comes back: 1 an int, else a long -/
def an_sh (t : Nat) (r : Option Value) : Prop := match t with
  | 1 => ∃ v : Int32, r = some (.int v)
  | _ => ∃ v : Int64, r = some (.long v)
/-- both sides of a call: they come back, with answers alike where these are compared, and with the invariant behind -/
def Two (t : Nat) (cmp : Bool) (I I' : pm_S → Prop) (kC kM : Nat) (as : List Value) : Prop := ∀ σ : pm_S, I σ → Sp kC 1200 (.ref 0 :: as) σ (fun r τ => an_sh t r ∧ Sp kM 1200 (.ref 93 :: as) τ (fun r' τ' => an_sh t r' ∧ (cmp = true → r = r') ∧ I' τ'))
theorem pm_gd {c a : Prop} (h : c) (k : a) : (c → a) ∧ (¬ c → False) := ⟨fun _ => k, fun q => absurd h q⟩
theorem lg_self (v : Int64) : lg_cmp v v = 0 := by simp [lg_cmp]
section LAW
variable {I J : pm_S → Prop} {E : pm_E} {d : Nat} {Q : Option Value → pm_S → Prop} {σ : pm_S} {i : Nat}
theorem pm_sc {n : Nat} (j : Nat) (hj : j < 6) (hi : i + 6 ≤ n) (hn : n ≤ 3072) : ¬ ((nI i + pm_iv j 0 < 0) ∨ n ≤ (nI i + pm_iv j 0).toNatClampNeg) := by
  have e : nI i + pm_iv j 0 = nI (i + j) := nI_add i j
  rw [e]
  exact nI_in (by omega) (by omega)
set_option maxRecDepth 20000 in
theorem law_state (hd : 1201 ≤ d) (hn : pe_n E ≤ 3072) (hi : i + 6 ≤ pe_n E) (hI : I σ) (hp : ∀ a1 : Int32, Two 1 false I J 128 161 [.int a1]) (kk : ∀ τ, J τ → pm_OkS E d 256 705 [.retAddr 30, .ref 0, .ref 93, .int (nI i)] [] τ Q) : pm_OkS E d 256 22 [.retAddr 30, .ref 0, .ref 93, .int (nI i)] [] σ Q := by
  refine OkL.go (D := 1200) (by omega) [705] 60 (fun R cl Z hR hcl hZ => ?_)
  conv => whnf
  refine pm_gd (pm_sc 1 (by decide) hi hn) ?_
  conv => whnf
  refine hcl _ _ _ _ ((hp _ σ hI).use (Nat.le_refl _) (fun r τ h2 => ?_))
  obtain ⟨⟨v, rfl⟩, h2⟩ := h2
  conv => whnf
  refine pm_gd (pm_sc 1 (by decide) hi hn) ?_
  conv => whnf
  refine hcl _ _ _ _ (h2.use (Nat.le_refl _) (fun r' τ' h4 => ?_))
  obtain ⟨⟨v2, rfl⟩, h6, h5⟩ := h4
  conv => whnf
  exact hR _ _ _ _ (kk τ' h5)
set_option maxRecDepth 20000 in
theorem law_spot (hd : 1201 ≤ d) (hn : pe_n E ≤ 3072) (hi : i + 6 ≤ pe_n E) (hI : I σ) (hp : ∀ a1 : Int32, Two 1 false I J 129 166 [.int a1]) (kk : ∀ τ, J τ → pm_OkS E d 256 705 [.retAddr 30, .ref 0, .ref 93, .int (nI i)] [] τ Q) : pm_OkS E d 256 39 [.retAddr 30, .ref 0, .ref 93, .int (nI i)] [] σ Q := by
  refine OkL.go (D := 1200) (by omega) [705] 60 (fun R cl Z hR hcl hZ => ?_)
  conv => whnf
  refine pm_gd (pm_sc 1 (by decide) hi hn) ?_
  conv => whnf
  refine hcl _ _ _ _ ((hp _ σ hI).use (Nat.le_refl _) (fun r τ h2 => ?_))
  obtain ⟨⟨v, rfl⟩, h2⟩ := h2
  conv => whnf
  refine pm_gd (pm_sc 1 (by decide) hi hn) ?_
  conv => whnf
  refine hcl _ _ _ _ (h2.use (Nat.le_refl _) (fun r' τ' h4 => ?_))
  obtain ⟨⟨v2, rfl⟩, h6, h5⟩ := h4
  conv => whnf
  exact hR _ _ _ _ (kk τ' h5)
set_option maxRecDepth 20000 in
theorem law_way (hd : 1201 ≤ d) (hn : pe_n E ≤ 3072) (hi : i + 6 ≤ pe_n E) (hI : I σ) (hp : ∀ a1 a2 a3 : Int32, Two 1 false I J 130 167 [.int a1, .int a2, .int a3]) (kk : ∀ τ, J τ → pm_OkS E d 256 705 [.retAddr 30, .ref 0, .ref 93, .int (nI i)] [] τ Q) : pm_OkS E d 256 56 [.retAddr 30, .ref 0, .ref 93, .int (nI i)] [] σ Q := by
  refine OkL.go (D := 1200) (by omega) [705] 60 (fun R cl Z hR hcl hZ => ?_)
  conv => whnf
  refine pm_gd (pm_sc 1 (by decide) hi hn) ?_
  conv => whnf
  refine pm_gd (pm_sc 2 (by decide) hi hn) ?_
  conv => whnf
  refine pm_gd (pm_sc 3 (by decide) hi hn) ?_
  conv => whnf
  refine hcl _ _ _ _ ((hp _ _ _ σ hI).use (Nat.le_refl _) (fun r τ h2 => ?_))
  obtain ⟨⟨v, rfl⟩, h2⟩ := h2
  conv => whnf
  refine pm_gd (pm_sc 1 (by decide) hi hn) ?_
  conv => whnf
  refine pm_gd (pm_sc 2 (by decide) hi hn) ?_
  conv => whnf
  refine pm_gd (pm_sc 3 (by decide) hi hn) ?_
  conv => whnf
  refine hcl _ _ _ _ (h2.use (Nat.le_refl _) (fun r' τ' h4 => ?_))
  obtain ⟨⟨v2, rfl⟩, h6, h5⟩ := h4
  conv => whnf
  exact hR _ _ _ _ (kk τ' h5)
set_option maxRecDepth 20000 in
theorem law_person (hd : 1201 ≤ d) (hn : pe_n E ≤ 3072) (hi : i + 6 ≤ pe_n E) (hI : I σ) (hp : ∀ a1 a2 a3 : Int32, Two 1 false I J 131 168 [.int a1, .int a2, .int a3]) (kk : ∀ τ, J τ → pm_OkS E d 256 705 [.retAddr 30, .ref 0, .ref 93, .int (nI i)] [] τ Q) : pm_OkS E d 256 93 [.retAddr 30, .ref 0, .ref 93, .int (nI i)] [] σ Q := by
  refine OkL.go (D := 1200) (by omega) [705] 60 (fun R cl Z hR hcl hZ => ?_)
  conv => whnf
  refine pm_gd (pm_sc 1 (by decide) hi hn) ?_
  conv => whnf
  refine pm_gd (pm_sc 2 (by decide) hi hn) ?_
  conv => whnf
  refine pm_gd (pm_sc 3 (by decide) hi hn) ?_
  conv => whnf
  refine hcl _ _ _ _ ((hp _ _ _ σ hI).use (Nat.le_refl _) (fun r τ h2 => ?_))
  obtain ⟨⟨v, rfl⟩, h2⟩ := h2
  conv => whnf
  refine pm_gd (pm_sc 1 (by decide) hi hn) ?_
  conv => whnf
  refine pm_gd (pm_sc 2 (by decide) hi hn) ?_
  conv => whnf
  refine pm_gd (pm_sc 3 (by decide) hi hn) ?_
  conv => whnf
  refine hcl _ _ _ _ (h2.use (Nat.le_refl _) (fun r' τ' h4 => ?_))
  obtain ⟨⟨v2, rfl⟩, h6, h5⟩ := h4
  conv => whnf
  exact hR _ _ _ _ (kk τ' h5)
set_option maxRecDepth 20000 in
theorem law_debt (hd : 1201 ≤ d) (hn : pe_n E ≤ 3072) (hi : i + 6 ≤ pe_n E) (hI : I σ) (hp : ∀ a1 a2 a3 a4 : Int32, Two 1 false I J 132 169 [.int a1, .int a2, .int a3, .int a4]) (kk : ∀ τ, J τ → pm_OkS E d 256 705 [.retAddr 30, .ref 0, .ref 93, .int (nI i)] [] τ Q) : pm_OkS E d 256 130 [.retAddr 30, .ref 0, .ref 93, .int (nI i)] [] σ Q := by
  refine OkL.go (D := 1200) (by omega) [705] 60 (fun R cl Z hR hcl hZ => ?_)
  conv => whnf
  refine pm_gd (pm_sc 1 (by decide) hi hn) ?_
  conv => whnf
  refine pm_gd (pm_sc 2 (by decide) hi hn) ?_
  conv => whnf
  refine pm_gd (pm_sc 3 (by decide) hi hn) ?_
  conv => whnf
  refine pm_gd (pm_sc 4 (by decide) hi hn) ?_
  conv => whnf
  refine hcl _ _ _ _ ((hp _ _ _ _ σ hI).use (Nat.le_refl _) (fun r τ h2 => ?_))
  obtain ⟨⟨v, rfl⟩, h2⟩ := h2
  conv => whnf
  refine pm_gd (pm_sc 1 (by decide) hi hn) ?_
  conv => whnf
  refine pm_gd (pm_sc 2 (by decide) hi hn) ?_
  conv => whnf
  refine pm_gd (pm_sc 3 (by decide) hi hn) ?_
  conv => whnf
  refine pm_gd (pm_sc 4 (by decide) hi hn) ?_
  conv => whnf
  refine hcl _ _ _ _ (h2.use (Nat.le_refl _) (fun r' τ' h4 => ?_))
  obtain ⟨⟨v2, rfl⟩, h6, h5⟩ := h4
  conv => whnf
  exact hR _ _ _ _ (kk τ' h5)
set_option maxRecDepth 20000 in
theorem law_set (hd : 1201 ≤ d) (hn : pe_n E ≤ 3072) (hi : i + 6 ≤ pe_n E) (hI : I σ) (hp : ∀ a1 a2 : Int32, Two 1 false I J 133 172 [.int a1, .int a2]) (kk : ∀ τ, J τ → pm_OkS E d 256 705 [.retAddr 30, .ref 0, .ref 93, .int (nI i)] [] τ Q) : pm_OkS E d 256 177 [.retAddr 30, .ref 0, .ref 93, .int (nI i)] [] σ Q := by
  refine OkL.go (D := 1200) (by omega) [705] 60 (fun R cl Z hR hcl hZ => ?_)
  conv => whnf
  refine pm_gd (pm_sc 1 (by decide) hi hn) ?_
  conv => whnf
  refine pm_gd (pm_sc 2 (by decide) hi hn) ?_
  conv => whnf
  refine hcl _ _ _ _ ((hp _ _ σ hI).use (Nat.le_refl _) (fun r τ h2 => ?_))
  obtain ⟨⟨v, rfl⟩, h2⟩ := h2
  conv => whnf
  refine pm_gd (pm_sc 1 (by decide) hi hn) ?_
  conv => whnf
  refine pm_gd (pm_sc 2 (by decide) hi hn) ?_
  conv => whnf
  refine hcl _ _ _ _ (h2.use (Nat.le_refl _) (fun r' τ' h4 => ?_))
  obtain ⟨⟨v2, rfl⟩, h6, h5⟩ := h4
  conv => whnf
  exact hR _ _ _ _ (kk τ' h5)
set_option maxRecDepth 20000 in
theorem law_goal (hd : 1201 ≤ d) (hn : pe_n E ≤ 3072) (hi : i + 6 ≤ pe_n E) (hI : I σ) (hp : ∀ a1 a2 : Int32, Two 1 false I J 134 173 [.int a1, .int a2]) (kk : ∀ τ, J τ → pm_OkS E d 256 705 [.retAddr 30, .ref 0, .ref 93, .int (nI i)] [] τ Q) : pm_OkS E d 256 204 [.retAddr 30, .ref 0, .ref 93, .int (nI i)] [] σ Q := by
  refine OkL.go (D := 1200) (by omega) [705] 60 (fun R cl Z hR hcl hZ => ?_)
  conv => whnf
  refine pm_gd (pm_sc 1 (by decide) hi hn) ?_
  conv => whnf
  refine pm_gd (pm_sc 2 (by decide) hi hn) ?_
  conv => whnf
  refine hcl _ _ _ _ ((hp _ _ σ hI).use (Nat.le_refl _) (fun r τ h2 => ?_))
  obtain ⟨⟨v, rfl⟩, h2⟩ := h2
  conv => whnf
  refine pm_gd (pm_sc 1 (by decide) hi hn) ?_
  conv => whnf
  refine pm_gd (pm_sc 2 (by decide) hi hn) ?_
  conv => whnf
  refine hcl _ _ _ _ (h2.use (Nat.le_refl _) (fun r' τ' h4 => ?_))
  obtain ⟨⟨v2, rfl⟩, h6, h5⟩ := h4
  conv => whnf
  exact hR _ _ _ _ (kk τ' h5)
set_option maxRecDepth 20000 in
theorem law_feed (hd : 1201 ≤ d) (hn : pe_n E ≤ 3072) (hi : i + 6 ≤ pe_n E) (hI : I σ) (hp : ∀ a1 a2 a3 a4 a5 : Int32, Two 1 false I J 135 175 [.int a1, .int a2, .int a3, .int a4, .int a5]) (kk : ∀ τ, J τ → pm_OkS E d 256 705 [.retAddr 30, .ref 0, .ref 93, .int (nI i)] [] τ Q) : pm_OkS E d 256 231 [.retAddr 30, .ref 0, .ref 93, .int (nI i)] [] σ Q := by
  refine OkL.go (D := 1200) (by omega) [705] 60 (fun R cl Z hR hcl hZ => ?_)
  conv => whnf
  refine pm_gd (pm_sc 1 (by decide) hi hn) ?_
  conv => whnf
  refine pm_gd (pm_sc 2 (by decide) hi hn) ?_
  conv => whnf
  refine pm_gd (pm_sc 3 (by decide) hi hn) ?_
  conv => whnf
  refine pm_gd (pm_sc 4 (by decide) hi hn) ?_
  conv => whnf
  refine pm_gd (pm_sc 5 (by decide) hi hn) ?_
  conv => whnf
  refine hcl _ _ _ _ ((hp _ _ _ _ _ σ hI).use (Nat.le_refl _) (fun r τ h2 => ?_))
  obtain ⟨⟨v, rfl⟩, h2⟩ := h2
  conv => whnf
  refine pm_gd (pm_sc 1 (by decide) hi hn) ?_
  conv => whnf
  refine pm_gd (pm_sc 2 (by decide) hi hn) ?_
  conv => whnf
  refine pm_gd (pm_sc 3 (by decide) hi hn) ?_
  conv => whnf
  refine pm_gd (pm_sc 4 (by decide) hi hn) ?_
  conv => whnf
  refine pm_gd (pm_sc 5 (by decide) hi hn) ?_
  conv => whnf
  refine hcl _ _ _ _ (h2.use (Nat.le_refl _) (fun r' τ' h4 => ?_))
  obtain ⟨⟨v2, rfl⟩, h6, h5⟩ := h4
  conv => whnf
  exact hR _ _ _ _ (kk τ' h5)
set_option maxRecDepth 20000 in
theorem law_end (hd : 1201 ≤ d) (hn : pe_n E ≤ 3072) (hi : i + 6 ≤ pe_n E) (hI : I σ) (hp : ∀ a1 : Int32, Two 1 false I J 136 176 [.int a1]) (kk : ∀ τ, J τ → pm_OkS E d 256 705 [.retAddr 30, .ref 0, .ref 93, .int (nI i)] [] τ Q) : pm_OkS E d 256 288 [.retAddr 30, .ref 0, .ref 93, .int (nI i)] [] σ Q := by
  refine OkL.go (D := 1200) (by omega) [705] 60 (fun R cl Z hR hcl hZ => ?_)
  conv => whnf
  refine pm_gd (pm_sc 1 (by decide) hi hn) ?_
  conv => whnf
  refine hcl _ _ _ _ ((hp _ σ hI).use (Nat.le_refl _) (fun r τ h2 => ?_))
  obtain ⟨⟨v, rfl⟩, h2⟩ := h2
  conv => whnf
  refine pm_gd (pm_sc 1 (by decide) hi hn) ?_
  conv => whnf
  refine hcl _ _ _ _ (h2.use (Nat.le_refl _) (fun r' τ' h4 => ?_))
  obtain ⟨⟨v2, rfl⟩, h6, h5⟩ := h4
  conv => whnf
  exact hR _ _ _ _ (kk τ' h5)
set_option maxRecDepth 20000 in
theorem law_text (hd : 1201 ≤ d) (hn : pe_n E ≤ 3072) (hi : i + 6 ≤ pe_n E) (hI : I σ) (hp : Two 1 false I J 137 195 []) (kk : ∀ τ, J τ → pm_OkS E d 256 705 [.retAddr 30, .ref 0, .ref 93, .int (nI i)] [] τ Q) : pm_OkS E d 256 305 [.retAddr 30, .ref 0, .ref 93, .int (nI i)] [] σ Q := by
  refine OkL.go (D := 1200) (by omega) [705] 60 (fun R cl Z hR hcl hZ => ?_)
  conv => whnf
  refine hcl _ _ _ _ ((hp σ hI).use (Nat.le_refl _) (fun r τ h2 => ?_))
  obtain ⟨⟨v, rfl⟩, h2⟩ := h2
  conv => whnf
  refine hcl _ _ _ _ (h2.use (Nat.le_refl _) (fun r' τ' h4 => ?_))
  obtain ⟨⟨v2, rfl⟩, h6, h5⟩ := h4
  conv => whnf
  exact hR _ _ _ _ (kk τ' h5)
set_option maxRecDepth 20000 in
theorem law_fault (hd : 1201 ≤ d) (hn : pe_n E ≤ 3072) (hi : i + 6 ≤ pe_n E) (hI : I σ) (hp : ∀ a1 : Int32, Two 1 false I J 138 196 [.int a1]) (kk : ∀ τ, J τ → pm_OkS E d 256 705 [.retAddr 30, .ref 0, .ref 93, .int (nI i)] [] τ Q) : pm_OkS E d 256 312 [.retAddr 30, .ref 0, .ref 93, .int (nI i)] [] σ Q := by
  refine OkL.go (D := 1200) (by omega) [705] 60 (fun R cl Z hR hcl hZ => ?_)
  conv => whnf
  refine pm_gd (pm_sc 1 (by decide) hi hn) ?_
  conv => whnf
  refine hcl _ _ _ _ ((hp _ σ hI).use (Nat.le_refl _) (fun r τ h2 => ?_))
  obtain ⟨⟨v, rfl⟩, h2⟩ := h2
  conv => whnf
  refine pm_gd (pm_sc 1 (by decide) hi hn) ?_
  conv => whnf
  refine hcl _ _ _ _ (h2.use (Nat.le_refl _) (fun r' τ' h4 => ?_))
  obtain ⟨⟨v2, rfl⟩, h6, h5⟩ := h4
  conv => whnf
  exact hR _ _ _ _ (kk τ' h5)
set_option maxRecDepth 20000 in
theorem law_sunday (hd : 1201 ≤ d) (hn : pe_n E ≤ 3072) (hi : i + 6 ≤ pe_n E) (hI : I σ) (hp : Two 1 false I J 139 211 []) (kk : ∀ τ, J τ → pm_OkS E d 256 705 [.retAddr 30, .ref 0, .ref 93, .int (nI i)] [] τ Q) : pm_OkS E d 256 329 [.retAddr 30, .ref 0, .ref 93, .int (nI i)] [] σ Q := by
  refine OkL.go (D := 1200) (by omega) [705] 60 (fun R cl Z hR hcl hZ => ?_)
  conv => whnf
  refine hcl _ _ _ _ ((hp σ hI).use (Nat.le_refl _) (fun r τ h2 => ?_))
  obtain ⟨⟨v, rfl⟩, h2⟩ := h2
  conv => whnf
  refine hcl _ _ _ _ (h2.use (Nat.le_refl _) (fun r' τ' h4 => ?_))
  obtain ⟨⟨v2, rfl⟩, h6, h5⟩ := h4
  conv => whnf
  exact hR _ _ _ _ (kk τ' h5)
set_option maxRecDepth 20000 in
theorem law_pass (hd : 1201 ≤ d) (hn : pe_n E ≤ 3072) (hi : i + 6 ≤ pe_n E) (hI : I σ) (hp : ∀ a1 : Int32, Two 1 false I J 140 212 [.int a1]) (kk : ∀ τ, J τ → pm_OkS E d 256 705 [.retAddr 30, .ref 0, .ref 93, .int (nI i)] [] τ Q) : pm_OkS E d 256 336 [.retAddr 30, .ref 0, .ref 93, .int (nI i)] [] σ Q := by
  refine OkL.go (D := 1200) (by omega) [705] 60 (fun R cl Z hR hcl hZ => ?_)
  conv => whnf
  refine pm_gd (pm_sc 1 (by decide) hi hn) ?_
  conv => whnf
  refine hcl _ _ _ _ ((hp _ σ hI).use (Nat.le_refl _) (fun r τ h2 => ?_))
  obtain ⟨⟨v, rfl⟩, h2⟩ := h2
  conv => whnf
  refine pm_gd (pm_sc 1 (by decide) hi hn) ?_
  conv => whnf
  refine hcl _ _ _ _ (h2.use (Nat.le_refl _) (fun r' τ' h4 => ?_))
  obtain ⟨⟨v2, rfl⟩, h6, h5⟩ := h4
  conv => whnf
  exact hR _ _ _ _ (kk τ' h5)
set_option maxRecDepth 20000 in
theorem law_of (hd : 1201 ≤ d) (hn : pe_n E ≤ 3072) (hi : i + 6 ≤ pe_n E) (hI : I σ) (hp : ∀ a1 a2 : Int32, Two 1 false I J 141 214 [.int a1, .int a2]) (kk : ∀ τ, J τ → pm_OkS E d 256 705 [.retAddr 30, .ref 0, .ref 93, .int (nI i)] [] τ Q) : pm_OkS E d 256 353 [.retAddr 30, .ref 0, .ref 93, .int (nI i)] [] σ Q := by
  refine OkL.go (D := 1200) (by omega) [705] 60 (fun R cl Z hR hcl hZ => ?_)
  conv => whnf
  refine pm_gd (pm_sc 1 (by decide) hi hn) ?_
  conv => whnf
  refine pm_gd (pm_sc 2 (by decide) hi hn) ?_
  conv => whnf
  refine hcl _ _ _ _ ((hp _ _ σ hI).use (Nat.le_refl _) (fun r τ h2 => ?_))
  obtain ⟨⟨v, rfl⟩, h2⟩ := h2
  conv => whnf
  refine pm_gd (pm_sc 1 (by decide) hi hn) ?_
  conv => whnf
  refine pm_gd (pm_sc 2 (by decide) hi hn) ?_
  conv => whnf
  refine hcl _ _ _ _ (h2.use (Nat.le_refl _) (fun r' τ' h4 => ?_))
  obtain ⟨⟨v2, rfl⟩, h6, h5⟩ := h4
  conv => whnf
  exact hR _ _ _ _ (kk τ' h5)
set_option maxRecDepth 20000 in
theorem law_owed (hd : 1201 ≤ d) (hn : pe_n E ≤ 3072) (hi : i + 6 ≤ pe_n E) (hI : I σ) (hp : ∀ a1 a2 : Int32, Two 1 false I J 142 215 [.int a1, .int a2]) (kk : ∀ τ, J τ → pm_OkS E d 256 705 [.retAddr 30, .ref 0, .ref 93, .int (nI i)] [] τ Q) : pm_OkS E d 256 380 [.retAddr 30, .ref 0, .ref 93, .int (nI i)] [] σ Q := by
  refine OkL.go (D := 1200) (by omega) [705] 60 (fun R cl Z hR hcl hZ => ?_)
  conv => whnf
  refine pm_gd (pm_sc 1 (by decide) hi hn) ?_
  conv => whnf
  refine pm_gd (pm_sc 2 (by decide) hi hn) ?_
  conv => whnf
  refine hcl _ _ _ _ ((hp _ _ σ hI).use (Nat.le_refl _) (fun r τ h2 => ?_))
  obtain ⟨⟨v, rfl⟩, h2⟩ := h2
  conv => whnf
  refine pm_gd (pm_sc 1 (by decide) hi hn) ?_
  conv => whnf
  refine pm_gd (pm_sc 2 (by decide) hi hn) ?_
  conv => whnf
  refine hcl _ _ _ _ (h2.use (Nat.le_refl _) (fun r' τ' h4 => ?_))
  obtain ⟨⟨v2, rfl⟩, h6, h5⟩ := h4
  conv => whnf
  exact hR _ _ _ _ (kk τ' h5)
set_option maxRecDepth 20000 in
theorem law_cleared (hd : 1201 ≤ d) (hn : pe_n E ≤ 3072) (hi : i + 6 ≤ pe_n E) (hI : I σ) (hp : ∀ a1 : Int32, Two 1 false I J 143 220 [.int a1]) (kk : ∀ τ, J τ → pm_OkS E d 256 705 [.retAddr 30, .ref 0, .ref 93, .int (nI i)] [] τ Q) : pm_OkS E d 256 407 [.retAddr 30, .ref 0, .ref 93, .int (nI i)] [] σ Q := by
  refine OkL.go (D := 1200) (by omega) [705] 60 (fun R cl Z hR hcl hZ => ?_)
  conv => whnf
  refine pm_gd (pm_sc 1 (by decide) hi hn) ?_
  conv => whnf
  refine hcl _ _ _ _ ((hp _ σ hI).use (Nat.le_refl _) (fun r τ h2 => ?_))
  obtain ⟨⟨v, rfl⟩, h2⟩ := h2
  conv => whnf
  refine pm_gd (pm_sc 1 (by decide) hi hn) ?_
  conv => whnf
  refine hcl _ _ _ _ (h2.use (Nat.le_refl _) (fun r' τ' h4 => ?_))
  obtain ⟨⟨v2, rfl⟩, h6, h5⟩ := h4
  conv => whnf
  exact hR _ _ _ _ (kk τ' h5)
set_option maxRecDepth 20000 in
theorem law_first (hd : 1201 ≤ d) (hn : pe_n E ≤ 3072) (hi : i + 6 ≤ pe_n E) (hI : I σ) (hp : ∀ a1 a2 : Int32, Two 1 false I J 144 223 [.int a1, .int a2]) (kk : ∀ τ, J τ → pm_OkS E d 256 705 [.retAddr 30, .ref 0, .ref 93, .int (nI i)] [] τ Q) : pm_OkS E d 256 424 [.retAddr 30, .ref 0, .ref 93, .int (nI i)] [] σ Q := by
  refine OkL.go (D := 1200) (by omega) [705] 60 (fun R cl Z hR hcl hZ => ?_)
  conv => whnf
  refine pm_gd (pm_sc 1 (by decide) hi hn) ?_
  conv => whnf
  refine pm_gd (pm_sc 2 (by decide) hi hn) ?_
  conv => whnf
  refine hcl _ _ _ _ ((hp _ _ σ hI).use (Nat.le_refl _) (fun r τ h2 => ?_))
  obtain ⟨⟨v, rfl⟩, h2⟩ := h2
  conv => whnf
  refine pm_gd (pm_sc 1 (by decide) hi hn) ?_
  conv => whnf
  refine pm_gd (pm_sc 2 (by decide) hi hn) ?_
  conv => whnf
  refine hcl _ _ _ _ (h2.use (Nat.le_refl _) (fun r' τ' h4 => ?_))
  obtain ⟨⟨v2, rfl⟩, h6, h5⟩ := h4
  conv => whnf
  exact hR _ _ _ _ (kk τ' h5)
set_option maxRecDepth 20000 in
theorem law_tour (hd : 1201 ≤ d) (hn : pe_n E ≤ 3072) (hi : i + 6 ≤ pe_n E) (hI : I σ) (hp : ∀ a1 a2 : Int32, Two 1 false I J 145 225 [.int a1, .int a2]) (kk : ∀ τ, J τ → pm_OkS E d 256 705 [.retAddr 30, .ref 0, .ref 93, .int (nI i)] [] τ Q) : pm_OkS E d 256 451 [.retAddr 30, .ref 0, .ref 93, .int (nI i)] [] σ Q := by
  refine OkL.go (D := 1200) (by omega) [705] 60 (fun R cl Z hR hcl hZ => ?_)
  conv => whnf
  refine pm_gd (pm_sc 1 (by decide) hi hn) ?_
  conv => whnf
  refine pm_gd (pm_sc 2 (by decide) hi hn) ?_
  conv => whnf
  refine hcl _ _ _ _ ((hp _ _ σ hI).use (Nat.le_refl _) (fun r τ h2 => ?_))
  obtain ⟨⟨v, rfl⟩, h2⟩ := h2
  conv => whnf
  refine pm_gd (pm_sc 1 (by decide) hi hn) ?_
  conv => whnf
  refine pm_gd (pm_sc 2 (by decide) hi hn) ?_
  conv => whnf
  refine hcl _ _ _ _ (h2.use (Nat.le_refl _) (fun r' τ' h4 => ?_))
  obtain ⟨⟨v2, rfl⟩, h6, h5⟩ := h4
  conv => whnf
  exact hR _ _ _ _ (kk τ' h5)
set_option maxRecDepth 20000 in
theorem law_share (hd : 1201 ≤ d) (hn : pe_n E ≤ 3072) (hi : i + 6 ≤ pe_n E) (hI : I σ) (hp : ∀ a1 a2 a3 a4 : Int32, Two 1 false I J 146 229 [.int a1, .int a2, .int a3, .int a4]) (kk : ∀ τ, J τ → pm_OkS E d 256 705 [.retAddr 30, .ref 0, .ref 93, .int (nI i)] [] τ Q) : pm_OkS E d 256 478 [.retAddr 30, .ref 0, .ref 93, .int (nI i)] [] σ Q := by
  refine OkL.go (D := 1200) (by omega) [705] 60 (fun R cl Z hR hcl hZ => ?_)
  conv => whnf
  refine pm_gd (pm_sc 1 (by decide) hi hn) ?_
  conv => whnf
  refine pm_gd (pm_sc 2 (by decide) hi hn) ?_
  conv => whnf
  refine pm_gd (pm_sc 3 (by decide) hi hn) ?_
  conv => whnf
  refine pm_gd (pm_sc 4 (by decide) hi hn) ?_
  conv => whnf
  refine hcl _ _ _ _ ((hp _ _ _ _ σ hI).use (Nat.le_refl _) (fun r τ h2 => ?_))
  obtain ⟨⟨v, rfl⟩, h2⟩ := h2
  conv => whnf
  refine pm_gd (pm_sc 1 (by decide) hi hn) ?_
  conv => whnf
  refine pm_gd (pm_sc 2 (by decide) hi hn) ?_
  conv => whnf
  refine pm_gd (pm_sc 3 (by decide) hi hn) ?_
  conv => whnf
  refine pm_gd (pm_sc 4 (by decide) hi hn) ?_
  conv => whnf
  refine hcl _ _ _ _ (h2.use (Nat.le_refl _) (fun r' τ' h4 => ?_))
  obtain ⟨⟨v2, rfl⟩, h6, h5⟩ := h4
  conv => whnf
  exact hR _ _ _ _ (kk τ' h5)
set_option maxRecDepth 20000 in
theorem law_chance (hd : 1201 ≤ d) (hn : pe_n E ≤ 3072) (hi : i + 6 ≤ pe_n E) (hI : I σ) (hp : ∀ a1 a2 a3 : Int32, Two 1 false I J 147 230 [.int a1, .int a2, .int a3]) (kk : ∀ τ, J τ → pm_OkS E d 256 705 [.retAddr 30, .ref 0, .ref 93, .int (nI i)] [] τ Q) : pm_OkS E d 256 525 [.retAddr 30, .ref 0, .ref 93, .int (nI i)] [] σ Q := by
  refine OkL.go (D := 1200) (by omega) [705] 60 (fun R cl Z hR hcl hZ => ?_)
  conv => whnf
  refine pm_gd (pm_sc 1 (by decide) hi hn) ?_
  conv => whnf
  refine pm_gd (pm_sc 2 (by decide) hi hn) ?_
  conv => whnf
  refine pm_gd (pm_sc 3 (by decide) hi hn) ?_
  conv => whnf
  refine hcl _ _ _ _ ((hp _ _ _ σ hI).use (Nat.le_refl _) (fun r τ h2 => ?_))
  obtain ⟨⟨v, rfl⟩, h2⟩ := h2
  conv => whnf
  refine pm_gd (pm_sc 1 (by decide) hi hn) ?_
  conv => whnf
  refine pm_gd (pm_sc 2 (by decide) hi hn) ?_
  conv => whnf
  refine pm_gd (pm_sc 3 (by decide) hi hn) ?_
  conv => whnf
  refine hcl _ _ _ _ (h2.use (Nat.le_refl _) (fun r' τ' h4 => ?_))
  obtain ⟨⟨v2, rfl⟩, h6, h5⟩ := h4
  conv => whnf
  exact hR _ _ _ _ (kk τ' h5)
set_option maxRecDepth 20000 in
theorem law_waiting (hd : 1201 ≤ d) (hn : pe_n E ≤ 3072) (hi : i + 6 ≤ pe_n E) (hI : I σ) (hp : ∀ a1 a2 a3 : Int32, Two 2 false I J 148 238 [.int a1, .int a2, .int a3]) (kk : ∀ τ, J τ → pm_OkS E d 256 705 [.retAddr 30, .ref 0, .ref 93, .int (nI i)] [] τ Q) : pm_OkS E d 256 562 [.retAddr 30, .ref 0, .ref 93, .int (nI i)] [] σ Q := by
  refine OkL.go (D := 1200) (by omega) [705] 60 (fun R cl Z hR hcl hZ => ?_)
  conv => whnf
  refine pm_gd (pm_sc 1 (by decide) hi hn) ?_
  conv => whnf
  refine pm_gd (pm_sc 2 (by decide) hi hn) ?_
  conv => whnf
  refine pm_gd (pm_sc 3 (by decide) hi hn) ?_
  conv => whnf
  refine hcl _ _ _ _ ((hp _ _ _ σ hI).use (Nat.le_refl _) (fun r τ h2 => ?_))
  obtain ⟨⟨v, rfl⟩, h2⟩ := h2
  conv => whnf
  refine pm_gd (pm_sc 1 (by decide) hi hn) ?_
  conv => whnf
  refine pm_gd (pm_sc 2 (by decide) hi hn) ?_
  conv => whnf
  refine pm_gd (pm_sc 3 (by decide) hi hn) ?_
  conv => whnf
  refine hcl _ _ _ _ (h2.use (Nat.le_refl _) (fun r' τ' h4 => ?_))
  obtain ⟨⟨v2, rfl⟩, h6, h5⟩ := h4
  conv => whnf
  exact hR _ _ _ _ (kk τ' h5)
set_option maxRecDepth 20000 in
theorem law_line (hd : 1201 ≤ d) (hn : pe_n E ≤ 3072) (hi : i + 6 ≤ pe_n E) (hI : I σ) (hp : ∀ a1 a2 a3 a4 : Int32, Two 1 false I J 149 239 [.int a1, .int a2, .int a3, .int a4]) (kk : ∀ τ, J τ → pm_OkS E d 256 705 [.retAddr 30, .ref 0, .ref 93, .int (nI i)] [] τ Q) : pm_OkS E d 256 599 [.retAddr 30, .ref 0, .ref 93, .int (nI i)] [] σ Q := by
  refine OkL.go (D := 1200) (by omega) [705] 60 (fun R cl Z hR hcl hZ => ?_)
  conv => whnf
  refine pm_gd (pm_sc 1 (by decide) hi hn) ?_
  conv => whnf
  refine pm_gd (pm_sc 2 (by decide) hi hn) ?_
  conv => whnf
  refine pm_gd (pm_sc 3 (by decide) hi hn) ?_
  conv => whnf
  refine pm_gd (pm_sc 4 (by decide) hi hn) ?_
  conv => whnf
  refine hcl _ _ _ _ ((hp _ _ _ _ σ hI).use (Nat.le_refl _) (fun r τ h2 => ?_))
  obtain ⟨⟨v, rfl⟩, h2⟩ := h2
  conv => whnf
  refine pm_gd (pm_sc 1 (by decide) hi hn) ?_
  conv => whnf
  refine pm_gd (pm_sc 2 (by decide) hi hn) ?_
  conv => whnf
  refine pm_gd (pm_sc 3 (by decide) hi hn) ?_
  conv => whnf
  refine pm_gd (pm_sc 4 (by decide) hi hn) ?_
  conv => whnf
  refine hcl _ _ _ _ (h2.use (Nat.le_refl _) (fun r' τ' h4 => ?_))
  obtain ⟨⟨v2, rfl⟩, h6, h5⟩ := h4
  conv => whnf
  exact hR _ _ _ _ (kk τ' h5)
set_option maxRecDepth 20000 in
theorem law_wrong (hd : 1201 ≤ d) (hn : pe_n E ≤ 3072) (hi : i + 6 ≤ pe_n E) (hI : I σ) (hp : ∀ a1 : Int32, Two 1 false I J 150 241 [.int a1]) (kk : ∀ τ, J τ → pm_OkS E d 256 705 [.retAddr 30, .ref 0, .ref 93, .int (nI i)] [] τ Q) : pm_OkS E d 256 646 [.retAddr 30, .ref 0, .ref 93, .int (nI i)] [] σ Q := by
  refine OkL.go (D := 1200) (by omega) [705] 60 (fun R cl Z hR hcl hZ => ?_)
  conv => whnf
  refine pm_gd (pm_sc 1 (by decide) hi hn) ?_
  conv => whnf
  refine hcl _ _ _ _ ((hp _ σ hI).use (Nat.le_refl _) (fun r τ h2 => ?_))
  obtain ⟨⟨v, rfl⟩, h2⟩ := h2
  conv => whnf
  refine pm_gd (pm_sc 1 (by decide) hi hn) ?_
  conv => whnf
  refine hcl _ _ _ _ (h2.use (Nat.le_refl _) (fun r' τ' h4 => ?_))
  obtain ⟨⟨v2, rfl⟩, h6, h5⟩ := h4
  conv => whnf
  exact hR _ _ _ _ (kk τ' h5)
set_option maxRecDepth 20000 in
theorem law_image (hd : 1201 ≤ d) (hn : pe_n E ≤ 3072) (hi : i + 6 ≤ pe_n E) (hI : I σ) (hp : ∀ w : Int32, w = 0 ∨ w = 1 → Two 1 false I J 151 245 [.int w]) (kk : ∀ τ, J τ → pm_OkS E d 256 705 [.retAddr 30, .ref 0, .ref 93, .int (nI i)] [] τ Q) : pm_OkS E d 256 663 [.retAddr 30, .ref 0, .ref 93, .int (nI i)] [] σ Q := by
  refine OkL.go (D := 1200) (by omega) [705] 60 (fun R cl Z hR hcl hZ => ?_)
  conv => whnf
  refine pm_gd (pm_sc 1 (by decide) hi hn) ?_
  conv => whnf
  refine ⟨fun h1 => ?_, fun h1 => ?_⟩
  · conv => whnf
    refine hcl _ _ _ _ ((hp _ (by decide) σ hI).use (Nat.le_refl _) (fun r τ h2 => ?_))
    obtain ⟨⟨v, rfl⟩, h2⟩ := h2
    conv => whnf
    refine pm_gd (pm_sc 1 (by decide) hi hn) ?_
    conv => whnf
    refine ⟨fun h3 => ?_, fun h3 => ?_⟩
    · conv => whnf
      refine hcl _ _ _ _ (h2.use (Nat.le_refl _) (fun r' τ' h4 => ?_))
      obtain ⟨⟨v2, rfl⟩, h6, h5⟩ := h4
      conv => whnf
      exact hR _ _ _ _ (kk τ' h5)
    · exact absurd h1 h3
  · conv => whnf
    refine hcl _ _ _ _ ((hp _ (by decide) σ hI).use (Nat.le_refl _) (fun r τ h2 => ?_))
    obtain ⟨⟨v, rfl⟩, h2⟩ := h2
    conv => whnf
    refine pm_gd (pm_sc 1 (by decide) hi hn) ?_
    conv => whnf
    refine ⟨fun h3 => ?_, fun h3 => ?_⟩
    · exact absurd h3 h1
    · conv => whnf
      refine hcl _ _ _ _ (h2.use (Nat.le_refl _) (fun r' τ' h4 => ?_))
      obtain ⟨⟨v2, rfl⟩, h6, h5⟩ := h4
      conv => whnf
      exact hR _ _ _ _ (kk τ' h5)
set_option maxRecDepth 20000 in
theorem law_look (hd : 1201 ≤ d) (hn : pe_n E ≤ 3072) (hi : i + 6 ≤ pe_n E) (hI : I σ) (hp : ∀ a1 : Int32, Two 1 true I J 152 246 [.int a1]) (kk : ∀ τ, J τ → pm_OkS E d 256 705 [.retAddr 30, .ref 0, .ref 93, .int (nI i)] [] τ Q) : pm_OkS E d 256 688 [.retAddr 30, .ref 0, .ref 93, .int (nI i)] [] σ Q := by
  refine OkL.go (D := 1200) (by omega) [705] 60 (fun R cl Z hR hcl hZ => ?_)
  conv => whnf
  refine pm_gd (pm_sc 1 (by decide) hi hn) ?_
  conv => whnf
  refine hcl _ _ _ _ ((hp _ σ hI).use (Nat.le_refl _) (fun r τ h2 => ?_))
  obtain ⟨⟨v, rfl⟩, h2⟩ := h2
  conv => whnf
  refine pm_gd (pm_sc 1 (by decide) hi hn) ?_
  conv => whnf
  refine hcl _ _ _ _ (h2.use (Nat.le_refl _) (fun r' τ' h4 => ?_))
  obtain ⟨⟨v2, rfl⟩, h6, h5⟩ := h4
  cases (h6 rfl)
  conv => whnf
  exact ⟨fun _ => hR _ _ _ _ (kk τ' h5), fun z => absurd rfl z⟩
end LAW
