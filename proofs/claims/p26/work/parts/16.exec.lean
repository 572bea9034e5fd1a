/-! EXECUTION: the heap never shrinks; a run of the abstract machine is a contract -/
section LEN
variable {scr : Option (Nat × (Nat → Int32))} {N : Nat} {st : List Value} {h : pm_H} {nx : List Value → pm_H → Prop}
theorem pm_br_em {c a b : Prop} {D : Decidable c} (h : pm_br c D a b) : (c ∧ a) ∨ (¬ c ∧ b) := by
  rcases Classical.em c with z | z
  · exact Or.inl ⟨z, h.1 z⟩
  · exact Or.inr ⟨z, h.2 z⟩
theorem pm_setI_len {p : Nat} {f : Nat → Int32} : ((pm_OH scr).2.2.2.1 h p f).length = h.length := by
  dsimp only [pm_OH]
  split <;> simp
theorem pm_setJ_len {p : Nat} {f : Nat → Int64} : ((pm_OH scr).2.2.2.2.2.1 h p f).length = h.length := by
  dsimp only [pm_OH]
  split <;> simp
theorem pm_putf_len {p x y : Nat} {v : Value} {h1 : pm_H} (hp : (pm_OH scr).2.1 h p x y v = some h1) : h1.length = h.length := by
  dsimp only [pm_OH] at hp
  split at hp
  · split at hp
    · split at hp
      · cases hp; simp
      · cases hp
    · cases hp
  · cases hp
theorem pm_gget_l {x y : Nat} (hg : pm_gget (pm_OH scr) False x y st h nx) (hn : ∀ a b, nx a b → b.length ≤ N) : h.length ≤ N := by
  unfold pm_gget at hg
  split at hg
  · split at hg
    · exact hn _ _ hg
    · exact hg.elim
  · split at hg
    · split at hg <;> exact hn _ _ hg
    · exact hg.elim
  · exact hg.elim
theorem pm_gput_l {x y : Nat} {zs : List Nat} (hg : pm_gput (pm_OH scr) False pm_br x y zs st h nx) (hn : ∀ a b, nx a b → b.length ≤ N) : h.length ≤ N := by
  unfold pm_gput at hg
  split at hg
  · split at hg
    · rename_i hv
      rw [← pm_putf_len hv]
      split at hg
      · exact hn _ _ hg
      · exact hn _ _ (pm_in_of hg).2
      · exact hn _ _ hg
      · exact hg.elim
    · exact hg.elim
  · exact hg.elim
theorem pm_gald_l {kd : Nat} (hg : pm_gald (pm_OH scr) False pm_br kd st h nx) (hn : ∀ a b, nx a b → b.length ≤ N) : h.length ≤ N := by
  unfold pm_gald at hg
  split at hg
  · split at hg
    · split at hg
      · exact hn _ _ (pm_in_of hg).2
      · exact hg.elim
    · exact hg.elim
  · split at hg
    · split at hg
      · split at hg
        · exact hn _ _ (pm_in_of hg).2
        · exact hg.elim
      · exact hg.elim
    · split at hg
      · split at hg
        · exact hn _ _ (pm_in_of hg).2
        · exact hg.elim
      · exact hg.elim
  · exact hg.elim
theorem pm_gast_l {kd : Nat} (hg : pm_gast (pm_OH scr) False pm_br kd st h nx) (hn : ∀ a b, nx a b → b.length ≤ N) : h.length ≤ N := by
  unfold pm_gast at hg
  split at hg
  · split at hg
    · split at hg
      · have h2 := (pm_in_of hg).2
        split at h2
        · have h3 := hn _ _ h2
          rw [pm_setI_len] at h3
          exact h3
        · have h3 := hn _ _ (pm_in_of h2).2
          rw [pm_setI_len] at h3
          exact h3
      · exact hg.elim
    · exact hg.elim
  · exact hg.elim
theorem pm_glld_l (hg : pm_glld (pm_OH scr) False pm_br st h nx) (hn : ∀ a b, nx a b → b.length ≤ N) : h.length ≤ N := by
  unfold pm_glld at hg
  split at hg
  · split at hg
    · exact hn _ _ (pm_in_of hg).2
    · exact hg.elim
  · exact hg.elim
theorem pm_glst_l (hg : pm_glst (pm_OH scr) False pm_br st h nx) (hn : ∀ a b, nx a b → b.length ≤ N) : h.length ≤ N := by
  unfold pm_glst at hg
  split at hg
  · split at hg
    · have h3 := hn _ _ (pm_in_of hg).2
      rw [pm_setJ_len] at h3
      exact h3
    · exact hg.elim
  · exact hg.elim
theorem pm_glen_l (hg : pm_glen (pm_OH scr) False st h nx) (hn : ∀ a b, nx a b → b.length ≤ N) : h.length ≤ N := by
  unfold pm_glen at hg
  split at hg
  · split at hg
    · split at hg
      · exact hn _ _ hg
      · exact hg.elim
    · split at hg
      · exact hn _ _ hg
      · exact hg.elim
  · split at hg
    · split at hg
      · exact hn _ _ hg
      · exact hg.elim
    · split at hg
      · split at hg
        · exact hn _ _ hg
        · exact hg.elim
      · exact hg.elim
  · exact hg.elim
theorem pm_gdiv_l {f : Int32 → Int32 → Int32} (hg : pm_gdiv False pm_br f st h nx) (hn : ∀ a b, nx a b → b.length ≤ N) : h.length ≤ N := by
  unfold pm_gdiv at hg
  split at hg
  · exact hn _ _ (pm_in_of hg).2
  · exact hg.elim
theorem pm_gnew_l {x : Nat} (hg : pm_gnew (pm_OH scr) False x st h nx) (hn : ∀ a b, nx a b → b.length ≤ N) : h.length ≤ N := by
  have h2 : nx (.ref h.length :: st) (h ++ [.inr (x, pm_dfl x)]) := hg
  have h3 := hn _ _ h2
  simp at h3
  omega
theorem pm_gnwa_l {t : ArrayType} (hg : pm_gnwa (pm_OH scr) False pm_br t st h nx) (hn : ∀ a b, nx a b → b.length ≤ N) : h.length ≤ N := by
  unfold pm_gnwa at hg
  split at hg
  · rename_i n st2
    have h2 := (pm_in_of hg).2
    split at h2
    · have h4 : nx (.ref h.length :: st2) (h ++ [.inl (0, n.toNatClampNeg, .inl (fun _ => 0))]) := h2
      have h3 := hn _ _ h4; simp at h3; omega
    · have h4 : nx (.ref h.length :: st2) (h ++ [.inl (1, n.toNatClampNeg, .inl (fun _ => 0))]) := h2
      have h3 := hn _ _ h4; simp at h3; omega
    · have h4 : nx (.ref h.length :: st2) (h ++ [.inl (2, n.toNatClampNeg, .inr (.inl (fun _ => 0)))]) := h2
      have h3 := hn _ _ h4; simp at h3; omega
    · exact h2.elim
  · exact hg.elim
theorem pm_gint_l {x : Nat} (hg : pm_gint (pm_OH scr) False pm_br x st h nx) (hn : ∀ a b, nx a b → b.length ≤ N) : h.length ≤ N := by
  unfold pm_gint at hg
  split at hg
  · split at hg
    · split at hg
      · exact hn _ _ hg
      · exact hg.elim
    · exact hg.elim
  · split at hg
    · split at hg
      · exact hn _ _ hg
      · exact hg.elim
    · exact hg.elim
  · split at hg
    · split at hg
      · exact hn _ _ hg
      · exact hg.elim
    · exact hg.elim
  · split at hg
    · split at hg
      · split at hg
        · have h3 := hn _ _ (pm_in_of hg).2
          rw [pm_setI_len] at h3
          exact h3
        · exact hg.elim
      · exact hg.elim
    · exact hg.elim
  · exact hg.elim
variable {cl : Nat → List Value → pm_H → (Option Value → pm_H → Prop) → Prop}
theorem pm_gcV_l {x y : Nat} {zs : List Nat} (hg : pm_gcV (pm_OH scr) False x y zs st h nx cl) (hn : ∀ a b, nx a b → b.length ≤ N) (hc : ∀ k As h1 kont, (∀ r h2, kont r h2 → h2.length ≤ N) → cl k As h1 kont → h1.length ≤ N) : h.length ≤ N := by
  unfold pm_gcV at hg
  split at hg
  · exact hg.elim
  split at hg
  · exact hg.elim
  split at hg
  · split at hg
    · split at hg
      · split at hg
        · split at hg
          · exact hc _ _ _ _ (fun r h2 q => hn _ _ q) hg
          · exact hg.elim
        · exact hg.elim
      · split at hg
        · exact hc _ _ _ _ (fun r h2 q => hn _ _ q) hg
        · exact hg.elim
      · exact hg.elim
    · exact hg.elim
  · exact hg.elim
theorem pm_gcS_l {x y : Nat} (hg : pm_gcS False x y st h nx cl) (hn : ∀ a b, nx a b → b.length ≤ N) (hc : ∀ k As h1 kont, (∀ r h2, kont r h2 → h2.length ≤ N) → cl k As h1 kont → h1.length ≤ N) : h.length ≤ N := by
  unfold pm_gcS at hg
  split at hg
  · exact hg.elim
  split at hg
  · exact hg.elim
  split at hg
  · exact hc _ _ _ _ (fun r h2 q => hn _ _ q) hg
  · exact hg.elim
theorem pm_gcI_l {x y : Nat} (hg : pm_gcI False x y st h nx cl) (hn : ∀ a b, nx a b → b.length ≤ N) (hc : ∀ k As h1 kont, (∀ r h2, kont r h2 → h2.length ≤ N) → cl k As h1 kont → h1.length ≤ N) : h.length ≤ N := by
  unfold pm_gcI at hg
  split at hg
  · exact hg.elim
  split at hg
  · exact hg.elim
  split at hg
  · split at hg
    · exact hc _ _ _ _ (fun r h2 q => hn _ _ q) hg
    · exact hg.elim
  · exact hg.elim
theorem pm_sw_l {a : Int32} {nxt : Nat → Prop} {d : Nat} {P : Prop} (hn : ∀ t, nxt t → P) : ∀ {ks : List Int} {ts : List Nat}, pm_sw pm_br a nxt d ks ts → P
  | [], ts, h => by cases ts <;> exact hn _ h
  | k :: ks, [], h => hn _ h
  | k :: ks, t :: ts, h => by
    rcases pm_br_em h with ⟨-, z⟩ | ⟨-, z⟩
    · exact hn _ z
    · exact pm_sw_l hn z
theorem pm_go_l {rty : Option FieldType} {idx : Nat} {i : pm_I} {L : List Value} {nx : Nat → List Value → List Value → pm_H → Prop} {rt : Option Value → pm_H → Prop} (hg : pm_go (pm_OH scr) False pm_br rty idx i L st h nx cl rt) (hn : ∀ a b c e, nx a b c e → e.length ≤ N) (hc : ∀ k As h1 kont, (∀ r h2, kont r h2 → h2.length ≤ N) → cl k As h1 kont → h1.length ≤ N) (hr : ∀ r h1, rt r h1 → h1.length ≤ N) : h.length ≤ N := by
  obtain ⟨pc, ins, len, x, y, zs⟩ := i
  unfold pm_go at hg
  dsimp only at hg
  split at hg
  · exact hn _ _ _ _ hg
  · split at hg
    · rcases pm_br_em hg with ⟨-, z⟩ | ⟨-, z⟩ <;> exact hn _ _ _ _ z
    · exact hg.elim
  · split at hg
    · rcases pm_br_em hg with ⟨-, z⟩ | ⟨-, z⟩ <;> exact hn _ _ _ _ z
    · exact hg.elim
  · split at hg
    · exact pm_sw_l (fun t z => hn _ _ _ _ z) hg
    · exact hg.elim
  · split at hg
    · exact pm_sw_l (fun t z => hn _ _ _ _ z) hg
    · exact hg.elim
  · exact pm_gget_l hg (hn _ _)
  · exact pm_gput_l hg (hn _ _)
  · exact pm_gald_l hg (hn _ _)
  · exact pm_gald_l hg (hn _ _)
  · exact pm_gast_l hg (hn _ _)
  · exact pm_gast_l hg (hn _ _)
  · exact pm_glld_l hg (hn _ _)
  · exact pm_glst_l hg (hn _ _)
  · exact pm_glen_l hg (hn _ _)
  · exact pm_gdiv_l hg (hn _ _)
  · exact pm_gdiv_l hg (hn _ _)
  · exact pm_gnew_l hg (hn _ _)
  · exact pm_gnwa_l hg (hn _ _)
  · exact pm_gcV_l hg (hn _ _) hc
  · split at hg
    · exact pm_gint_l hg (hn _ _)
    · exact pm_gcS_l hg (hn _ _) hc
  · split at hg
    · split at hg
      · split at hg
        · exact hn _ _ _ _ hg
        · exact hg.elim
      · exact hg.elim
    · exact pm_gcI_l hg (hn _ _) hc
  · unfold pm_gret at hg
    split at hg
    · split at hg
      · exact hr _ _ hg
      · exact hr _ _ (pm_in_of hg).2
      · exact hr _ _ (pm_in_of hg).2
      · exact hr _ _ (pm_in_of hg).2
      · exact hg.elim
    · exact hg.elim
  · split at hg
    · split at hg
      · exact hr _ _ hg
      · exact hg.elim
    · exact hg.elim
  · split at hg
    · split at hg
      · exact hr _ _ hg
      · exact hg.elim
    · exact hg.elim
  · split at hg
    · exact hn _ _ _ _ hg
    · exact hg.elim
end LEN
theorem pm_Call.mono {E : pm_E} {d k mc : Nat} {av : List Value} {hh : pm_H} {Q Q' : Option Value → pm_H → Prop} (h : pm_Call E d k mc av hh Q) (hQ : ∀ r h', Q r h' → Q' r h') : pm_Call E d k mc av hh Q' := by
  intro M hM hk p e a1 a2 a3 s m args below a4 a5 a6 a7
  obtain ⟨n, o, b1, b2, b3, ⟨r, h', q1, q2, q3⟩, q4⟩ := h M hM hk p e a1 a2 a3 s m args below a4 a5 a6 a7
  exact ⟨n, o, b1, b2, b3, ⟨r, h', q1, hQ r h' q2, q3⟩, q4⟩
abbrev pm_R : Type := Option Value × pm_H
def pm_ite (c : Prop) (D : Decidable c) (a b : Option pm_R) : Option pm_R := @ite _ c D a b
def pm_exl (call : Nat → List Value → pm_H → Option pm_R) (M : pm_M) : Nat → Nat → List Value → List Value → pm_H → Option pm_R
  | 0, _, _, _, _ => none
  | f + 1, idx, L, st, h => match pm_nth M.2.2.2.2.2 idx with
    | none => none
    | some i => pm_go (pm_OH none) none pm_ite M.2.2.2.1 idx i L st h (pm_exl call M f) (fun k As h kont => match call k As h with
      | some q => kont q.1 q.2
      | none => none) (fun r h => some (r, h))
def pm_exc (F : Nat) : Nat → Nat → List Value → pm_H → Option pm_R
  | 0, _, _, _ => none
  | d + 1, k, As, h => match pm_nth pm_tab k with
    | none => none
    | some M => match pm_ac M.2.2.1 As with
      | false => none
      | true => pm_exl (pm_exc F d) M F 0 (pm_L0 M.2.2.1 As) [] h
theorem pm_Rel_opt (scr : Option (Nat × (Nat → Int32))) (res : pm_R) : pm_Rel (α := Option pm_R) (pm_OH none) none pm_ite (fun a => a = some res) id scr := by
  refine ⟨fun h => (by cases h), fun c D a b h => ?_, fun _ _ _ _ _ h => h, fun _ _ _ _ _ _ h => h, fun _ _ _ h => h, fun _ _ _ _ _ => rfl, fun _ _ _ h => h, fun _ _ _ _ _ => rfl, fun _ _ _ _ h => h, fun _ _ _ h => h, fun _ h => (by cases h)⟩
  unfold pm_ite at h
  cases D with
  | isTrue z => exact ⟨fun _ => h, fun q => absurd z q⟩
  | isFalse z => exact ⟨fun q => absurd q z, fun _ => h⟩
theorem pm_exl_ok {E : pm_E} {d k : Nat} {M : pm_M} (hd1 : 1 ≤ d) (hM : pm_tab[k]? = some M) {call : Nat → List Value → pm_H → Option pm_R}
    (hcall : ∀ k' As h r h', call k' As h = some (r, h') → h.length ≤ h'.length ∧ ∃ d', d' + 1 ≤ d ∧ pm_Call E d' k' (h'.length - h.length) As h (fun r1 h1 => r1 = r ∧ h1 = h')) :
    ∀ (f idx : Nat) (L st : List Value) (h : pm_H) (r : Option Value) (h' : pm_H), pm_exl call M f idx L st h = some (r, h') → h.length ≤ h'.length ∧ pm_Ok E d k (h'.length - h.length) idx L st h (fun r1 h1 => r1 = r ∧ h1 = h') := by
  intro f
  induction f with
  | zero => intro idx L st h r h' hx; cases hx
  | succ f ih =>
    intro idx L st h r h' hx
    unfold pm_exl at hx
    split at hx
    · cases hx
    · rename_i i hi
      have hgo := pm_go_r (pm_Rel_opt (some (pe_n E, pe_x E)) (r, h')) hx
      have hlen : h.length ≤ h'.length := by
        refine pm_go_l (N := h'.length) hgo (fun a b c e q => ?_) (fun k' As h1 kont hk q => ?_) (fun r1 h1 q => ?_)
        · obtain ⟨s', e1, q⟩ := q
          rw [e1]
          exact (ih _ _ _ _ _ _ q).1
        · obtain ⟨s', kont', e1, q, hk2⟩ := q
          dsimp only at q
          split at q
          · rename_i q5 hq5
            have h3 := (hcall k' As s' q5.1 q5.2 hq5).1
            have h4 := hk _ _ (hk2 _ _ q)
            rw [e1]
            exact Nat.le_trans h3 h4
          · cases q
        · obtain ⟨s', e1, q⟩ := q
          cases q
          rw [e1]
          exact Nat.le_refl _
      refine ⟨hlen, pm_go_ok hd1 hM hi hgo hlen (fun idx' L' st' h1 q _ => ?_) (fun k' As h1 kont hk q => ?_) (fun r1 h1 q => ?_)⟩
      · obtain ⟨s', e1, q⟩ := q
        rw [e1]
        exact ih _ _ _ _ _ _ q
      · obtain ⟨s', kont', e1, q, hk2⟩ := q
        dsimp only at q
        split at q
        · rename_i q5 hq5
          obtain ⟨h3, d', h4, h5⟩ := hcall k' As s' q5.1 q5.2 hq5
          have h6 := hk2 _ _ q
          have h7 := hk _ _ h6
          rw [e1]
          refine ⟨q5.2.length - s'.length, d', h4, ?_, ?_⟩
          · show s'.length + (q5.2.length - s'.length) ≤ h'.length
            have h8 : q5.2.length ≤ h'.length := h7
            omega
          · refine pm_Call.mono h5 (fun r1 h1 z => ?_)
            rw [z.1, z.2]
            exact h6
        · cases q
      · obtain ⟨s', e1, q⟩ := q
        cases q
        exact ⟨rfl, e1⟩
theorem pm_exc_ok {E : pm_E} {F : Nat} : ∀ (d k : Nat) (As : List Value) (h : pm_H) (r : Option Value) (h' : pm_H), pm_exc F d k As h = some (r, h') → h.length ≤ h'.length ∧ pm_Call E d k (h'.length - h.length) As h (fun r1 h1 => r1 = r ∧ h1 = h') := by
  intro d
  induction d with
  | zero => intro k As h r h' hx; cases hx
  | succ d ih =>
    intro k As h r h' hx
    unfold pm_exc at hx
    split at hx
    · cases hx
    · rename_i M hM
      rw [pm_nth_eq] at hM
      split at hx
      · cases hx
      · rename_i hac
        obtain ⟨h1, h2⟩ := pm_exl_ok (E := E) (d := d + 1) (by omega) hM (fun k' As h r h' q => ⟨(ih k' As h r h' q).1, d, Nat.le_refl _, (ih k' As h r h' q).2⟩) _ _ _ _ _ _ _ hx
        refine ⟨h1, pm_call_of hM hac (h2.mono (fun r1 h3 q => ⟨q, ?_⟩))⟩
        rw [q.2]
        omega
