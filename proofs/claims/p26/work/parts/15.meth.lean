/-! A METHOD'S CONTRACT OUT OF ITS RUN; execution; the state of ints -/
theorem pm_args_mem : ∀ {vs : List Value}, (∀ v ∈ vs, v.category = 1) → ∀ {j i : Nat} {w : Value}, vs[i]? = some w → (j + i, w) ∈ lv_args j vs
  | [], _, j, i, w, h => by simp at h
  | v :: vs, hc, j, i, w, h => by
    have hv := hc v List.mem_cons_self
    unfold lv_args
    cases i with
    | zero => cases h; exact List.mem_cons_self
    | succ i =>
      refine List.mem_cons_of_mem _ ?_
      rw [if_neg (by rw [hv]; decide), show j + (i + 1) = j + 1 + i by omega]
      exact pm_args_mem (fun u hu => hc u (List.mem_cons_of_mem _ hu)) h
theorem pm_sl_len : ∀ {vs : List Value}, (∀ v ∈ vs, v.category = 1) → (lg_sl vs).length = vs.length
  | [], _ => rfl
  | v :: vs, hc => by
    have hv := hc v List.mem_cons_self
    have ih := pm_sl_len (vs := vs) (fun u hu => hc u (List.mem_cons_of_mem _ hu))
    unfold lg_sl at ih ⊢
    rw [List.flatMap_cons, if_neg (by rw [hv]; decide)]
    simp [ih]
def pm_L0 (n : Nat) (av : List Value) : List Value := av ++ List.replicate (n - av.length) pm_un
def pm_ac (n : Nat) (av : List Value) : Bool := Nat.ble av.length n && av.all (fun v => Nat.beq v.category 1)
theorem pm_call_of {E : pm_E} {d k mc : Nat} {av : List Value} {h : pm_H} {Q : Option Value → pm_H → Prop} {M : pm_M} (hM : pm_tab[k]? = some M) (hac : pm_ac M.2.2.1 av = true)
    (hok : pm_Ok E d k mc 0 (pm_L0 M.2.2.1 av) [] h (fun r h' => Q r h' ∧ h'.length = h.length + mc)) : pm_Call E d k mc av h Q := by
  unfold pm_ac at hac
  simp only [Bool.and_eq_true, List.all_eq_true] at hac
  have hlen : av.length ≤ M.2.2.1 := Nat.le_of_ble_eq_true hac.1
  have hcat : ∀ v ∈ av, v.category = 1 := fun v hv => Nat.eq_of_beq_eq_true (hac.2 v hv)
  intro M' hM' hk
  have e1 : M' = M := Option.some.inj (hM'.symm.trans hM)
  subst e1
  obtain ⟨i0, hi0, hpc0⟩ := pm_first M' (List.mem_of_getElem? hM')
  refine Met.ofW (cc := M'.2.1) (maxL := M'.2.2.1) (ret := M'.2.2.2.1) (pm_head hM').2.2 rfl ?_
  intro p e s m args below meth c s₁ B hml hv
  obtain ⟨rfl, hsz, hP, henv⟩ := hv
  have hts := atoms_spec (ws := pm_ws M') B.pre
  have hown : s.vm.findClass M'.1.cls = some m.cls := findClass_of_methodNamed B.named
  have hz := henv.zc
  have hcat2 : ∀ v ∈ av.map (pe_v E), v.category = 1 := by
    intro v hv
    obtain ⟨u, hu, rfl⟩ := List.mem_map.mp hv
    rw [pe_v_cat hz]
    exact hcat u hu
  have hl := lv_entry (av.map (pe_v E)) (n := M'.2.2.1) (by rw [pm_sl_len hcat2, List.length_map]; exact hlen)
  rw [lg_entry_eq]
  generalize (lg_sl (av.map (pe_v E)) ++ List.replicate (M'.2.2.1 - (lg_sl (av.map (pe_v E))).length) Slot.unset).toArray = ls at hl ⊢
  have hl2 : lv_has ls M'.2.2.1 (pe_ls E (pm_L0 M'.2.2.1 av)) := by
    refine pm_has_of hl (fun q hq => ?_)
    obtain ⟨v, h1, h2, h3⟩ := pe_ls_mem.mp hq
    unfold pm_L0 at h1
    rcases Nat.lt_or_ge q.1 av.length with hlt | hge
    · rw [List.getElem?_append_left hlt] at h1
      have h4 := pm_args_mem hcat2 (j := 0) (i := q.1) (w := pe_v E v) (by rw [List.getElem?_map, h1]; rfl)
      rw [Nat.zero_add] at h4
      obtain ⟨q1, q2⟩ := q
      simp only at h3 h4 ⊢
      rw [h3]
      exact h4
    · rw [List.getElem?_append_right hge] at h1
      have h5 := List.mem_of_getElem? h1
      exact absurd (List.eq_of_mem_replicate h5) h2
  have hF : pm_Fx E M' d p (headSpec (pm_ws M') (pm_rm d mc)).room s m (av.map (pe_v E)).toArray meth c := ⟨B.exec, B.bytes, hml, hown, fun w hw => hts w (List.mem_cons_of_mem _ hw), B.notSynchronized, B.returns, (fun hn5 => (name_of_methodNamed B.named B.method).1.trans hn5), Nat.le_refl d, Nat.le_refl (64 * d), henv⟩
  have h6 := hok M' i0 hM' hi0 (by unfold pm_L0; simp; omega) p e _ s m _ below meth c hF (MQ below (pm_post E (h.length + mc) Q) (av.map (pe_v E)).toArray s mc (20000 * mc) (pe_A E)) s.heap [] 0 0 ls hP va_S.rf hsz hl2 (by show 0 + mc ≤ mc; omega) (by show 0 + 20000 * mc ≤ 20000 * mc; omega) ?_
  · rw [hpc0] at h6
    exact h6
  · intro r h' H' locs' cells' slots' pc' ls' hq hP' hS' hcs' hc' hs' hrt
    have hc2 : cells' ≤ mc := hc'
    have hs2 : slots' ≤ 20000 * mc := hs'
    refine W.widen hc2 hs2 ?_
    have post : ∀ t : State, t.heap = H' → s.WarmedH t.vm → pm_post E (h.length + mc) Q (av.map (pe_v E)).toArray s (.returned (r.map (pe_v E))) t := by
      intro t ht _
      exact ⟨r, h', rfl, hq.1, hq.2, by rw [ht]; exact hP', by rw [ht]; exact hS'.1, fun q g1 g2 => by rw [ht]; exact hS'.2.1 q g1 g2⟩
    unfold pm_rt at hrt
    split at hrt
    · exact W.vret B.exec B.bytes (B.returns.trans hrt.1) post hS'.2.2 hrt.2 B.notSynchronized
    · obtain ⟨⟨ty, h1, h2⟩, h3⟩ := hrt
      exact W.zret B.exec B.bytes (B.returns.trans h1) h2 post hS'.2.2 h3 B.notSynchronized
    · exact W.lret B.exec B.bytes (B.returns.trans hrt.1) post hS'.2.2 hrt.2 B.notSynchronized
    · exact hrt.elim
/-! one machine out of another: answers with a meaning, heaps with a picture -/
section REL
variable {α η : Type}
def pm_Rel (O : pm_O η) (bad : α) (br : (c : Prop) → Decidable c → α → α → α) (sat : α → Prop) (ab : η → pm_H) (scr : Option (Nat × (Nat → Int32))) : Prop :=
  (sat bad → False) ∧ (∀ c D a b, sat (br c D a b) → pm_br c D (sat a) (sat b)) ∧
  (∀ s p x y v, O.1 s p x y = some v → (pm_OH scr).1 (ab s) p x y = some v) ∧
  (∀ s p x y v s', O.2.1 s p x y v = some s' → (pm_OH scr).2.1 (ab s) p x y v = some (ab s')) ∧
  (∀ s p q, O.2.2.1 s p = some q → (pm_OH scr).2.2.1 (ab s) p = some q) ∧
  (∀ s p q f, O.2.2.1 s p = some q → ab (O.2.2.2.1 s p f) = (pm_OH scr).2.2.2.1 (ab s) p f) ∧
  (∀ s p q, O.2.2.2.2.1 s p = some q → (pm_OH scr).2.2.2.2.1 (ab s) p = some q) ∧
  (∀ s p q f, O.2.2.2.2.1 s p = some q → ab (O.2.2.2.2.2.1 s p f) = (pm_OH scr).2.2.2.2.2.1 (ab s) p f) ∧
  (∀ s c q s', O.2.2.2.2.2.2.1 s c = some (q, s') → (pm_OH scr).2.2.2.2.2.2.1 (ab s) c = some (q, ab s')) ∧
  (∀ s p c, O.2.2.2.2.2.2.2.1 s p = some c → (pm_OH scr).2.2.2.2.2.2.2.1 (ab s) p = some c) ∧ (∀ z, O.2.2.2.2.2.2.2.2 = some z → (pm_OH scr).2.2.2.2.2.2.2.2 = some z)
variable {O : pm_O η} {bad : α} {br : (c : Prop) → Decidable c → α → α → α} {sat : α → Prop} {ab : η → pm_H} {scr : Option (Nat × (Nat → Int32))}
/-- the continuation over pictures -/
def pm_nxA (sat : α → Prop) (ab : η → pm_H) (nx : List Value → η → α) : List Value → pm_H → Prop := fun st h => ∃ s', h = ab s' ∧ sat (nx st s')
theorem pm_gget_r (Rl : pm_Rel O bad br sat ab scr) {x y : Nat} {st : List Value} {s : η} {nx : List Value → η → α} (hg : sat (pm_gget O bad x y st s nx)) : pm_gget (pm_OH scr) False x y st (ab s) (pm_nxA sat ab nx) := by
  obtain ⟨r0, r1, r2, r3, r4, r5, r6, r7, r8, r9, r10⟩ := Rl
  unfold pm_gget at hg ⊢
  split at hg
  · split at hg
    · rename_i v hv; simp only [r2 _ _ _ _ _ hv]; exact ⟨s, rfl, hg⟩
    · exact (r0 hg).elim
  · split at hg
    · rename_i hk
      try simp only [hk]
      split at hg
      · exact ⟨s, rfl, hg⟩
      · rename_i hy
        exact ⟨s, rfl, hg⟩
    · exact (r0 hg).elim
  · exact (r0 hg).elim
theorem pm_gput_r (Rl : pm_Rel O bad br sat ab scr) {x y : Nat} {zs : List Nat} {st : List Value} {s : η} {nx : List Value → η → α} (hg : sat (pm_gput O bad br x y zs st s nx)) : pm_gput (pm_OH scr) False pm_br x y zs st (ab s) (pm_nxA sat ab nx) := by
  obtain ⟨r0, r1, r2, r3, r4, r5, r6, r7, r8, r9, r10⟩ := Rl
  unfold pm_gput at hg ⊢
  split at hg
  · split at hg
    · rename_i h1 hv; simp only [r3 _ _ _ _ _ _ hv]
      split at hg
      · exact ⟨_, rfl, hg⟩
      · have h2 := r1 _ _ _ _ hg
        exact ⟨fun z => ⟨_, rfl, h2.1 z⟩, fun z => r0 (h2.2 z)⟩
      · exact ⟨_, rfl, hg⟩
      · exact (r0 hg).elim
    · exact (r0 hg).elim
  · exact (r0 hg).elim
theorem pm_gald_r (Rl : pm_Rel O bad br sat ab scr) {kd : Nat} {st : List Value} {s : η} {nx : List Value → η → α} (hg : sat (pm_gald O bad br kd st s nx)) : pm_gald (pm_OH scr) False pm_br kd st (ab s) (pm_nxA sat ab nx) := by
  obtain ⟨r0, r1, r2, r3, r4, r5, r6, r7, r8, r9, r10⟩ := Rl
  unfold pm_gald at hg ⊢
  split at hg
  · split at hg
    · rename_i hv; simp only [r4 _ _ _ hv]
      split at hg
      · rename_i hk; try simp only [hk]
        have h2 := r1 _ _ _ _ hg
        exact ⟨fun z => ⟨_, rfl, h2.1 z⟩, fun z => r0 (h2.2 z)⟩
      · exact (r0 hg).elim
    · exact (r0 hg).elim
  · split at hg
    · split at hg
      · split at hg
        · rename_i hz
          have h2 := r1 _ _ _ _ hg
          simp only [r10 _ hz]
          exact ⟨fun z => ⟨_, rfl, h2.1 z⟩, fun z => r0 (h2.2 z)⟩
        · exact (r0 hg).elim
      · exact (r0 hg).elim
    · rename_i hkd
      split at hg
      · rename_i z hz
        split at hg
        · rename_i hk
          have h2 := r1 _ _ _ _ hg
          exact ⟨fun z => ⟨_, rfl, h2.1 z⟩, fun z => r0 (h2.2 z)⟩
        · exact (r0 hg).elim
      · exact (r0 hg).elim
  · exact (r0 hg).elim
theorem pm_gast_r (Rl : pm_Rel O bad br sat ab scr) {kd : Nat} {st : List Value} {s : η} {nx : List Value → η → α} (hg : sat (pm_gast O bad br kd st s nx)) : pm_gast (pm_OH scr) False pm_br kd st (ab s) (pm_nxA sat ab nx) := by
  obtain ⟨r0, r1, r2, r3, r4, r5, r6, r7, r8, r9, r10⟩ := Rl
  unfold pm_gast at hg ⊢
  split at hg
  · split at hg
    · rename_i hv; simp only [r4 _ _ _ hv]
      split at hg
      · rename_i hk; try simp only [hk]
        have h2 := r1 _ _ _ _ hg
        refine ⟨fun z => ?_, fun z => r0 (h2.2 z)⟩
        have h3 := h2.1 z
        split at h3
        · exact ⟨_, (r5 _ _ _ _ hv).symm, h3⟩
        · rename_i hkd
          have h4 := r1 _ _ _ _ h3
          first
            | exact ⟨fun z => ⟨_, (r5 _ _ _ _ hv).symm, h4.1 z⟩, fun z => r0 (h4.2 z)⟩
            | (split
               · exact absurd rfl hkd
               · exact ⟨fun z => ⟨_, (r5 _ _ _ _ hv).symm, h4.1 z⟩, fun z => r0 (h4.2 z)⟩)
      · exact (r0 hg).elim
    · exact (r0 hg).elim
  · exact (r0 hg).elim
theorem pm_glld_r (Rl : pm_Rel O bad br sat ab scr) {st : List Value} {s : η} {nx : List Value → η → α} (hg : sat (pm_glld O bad br st s nx)) : pm_glld (pm_OH scr) False pm_br st (ab s) (pm_nxA sat ab nx) := by
  obtain ⟨r0, r1, r2, r3, r4, r5, r6, r7, r8, r9, r10⟩ := Rl
  unfold pm_glld at hg ⊢
  split at hg
  · split at hg
    · rename_i hv; simp only [r6 _ _ _ hv]
      have h2 := r1 _ _ _ _ hg
      exact ⟨fun z => ⟨_, rfl, h2.1 z⟩, fun z => r0 (h2.2 z)⟩
    · exact (r0 hg).elim
  · exact (r0 hg).elim
theorem pm_glst_r (Rl : pm_Rel O bad br sat ab scr) {st : List Value} {s : η} {nx : List Value → η → α} (hg : sat (pm_glst O bad br st s nx)) : pm_glst (pm_OH scr) False pm_br st (ab s) (pm_nxA sat ab nx) := by
  obtain ⟨r0, r1, r2, r3, r4, r5, r6, r7, r8, r9, r10⟩ := Rl
  unfold pm_glst at hg ⊢
  split at hg
  · split at hg
    · rename_i hv; simp only [r6 _ _ _ hv]
      have h2 := r1 _ _ _ _ hg
      exact ⟨fun z => ⟨_, (r7 _ _ _ _ hv).symm, h2.1 z⟩, fun z => r0 (h2.2 z)⟩
    · exact (r0 hg).elim
  · exact (r0 hg).elim
theorem pm_arJI {h : pm_H} {p : Nat} {q : Nat × (Nat → Int64)} (hj : (pm_OH scr).2.2.2.2.1 h p = some q) : (pm_OH scr).2.2.1 h p = none := by
  dsimp only [pm_OH] at hj ⊢
  split at hj
  · rename_i hh; rw [hh]
  · cases hj
theorem pm_glen_r (Rl : pm_Rel O bad br sat ab scr) {st : List Value} {s : η} {nx : List Value → η → α} (hg : sat (pm_glen O bad st s nx)) : pm_glen (pm_OH scr) False st (ab s) (pm_nxA sat ab nx) := by
  obtain ⟨r0, r1, r2, r3, r4, r5, r6, r7, r8, r9, r10⟩ := Rl
  unfold pm_glen at hg ⊢
  split at hg
  · split at hg
    · rename_i hv; simp only [r4 _ _ _ hv]
      split at hg
      · rename_i hk; (try simp only [hk]); exact ⟨_, rfl, hg⟩
      · exact (r0 hg).elim
    · split at hg
      · rename_i hv
        have h3 := r6 _ _ _ hv
        simp only [pm_arJI h3, h3]
        exact ⟨_, rfl, hg⟩
      · exact (r0 hg).elim
  · split at hg
    · split at hg
      · rename_i hz; simp only [r10 _ hz]; exact ⟨_, rfl, hg⟩
      · exact (r0 hg).elim
    · rename_i hk30
      split at hg
      · rename_i hz
        split at hg
        · rename_i hk
          exact ⟨_, rfl, hg⟩
        · exact (r0 hg).elim
      · exact (r0 hg).elim
  · exact (r0 hg).elim
theorem pm_gdiv_r (Rl : pm_Rel O bad br sat ab scr) {f : Int32 → Int32 → Int32} {st : List Value} {s : η} {nx : List Value → η → α} (hg : sat (pm_gdiv bad br f st s nx)) : pm_gdiv False pm_br f st (ab s) (pm_nxA sat ab nx) := by
  obtain ⟨r0, r1, r2, r3, r4, r5, r6, r7, r8, r9, r10⟩ := Rl
  unfold pm_gdiv at hg ⊢
  split at hg
  · have h2 := r1 _ _ _ _ hg
    exact ⟨fun z => ⟨_, rfl, h2.1 z⟩, fun z => r0 (h2.2 z)⟩
  · exact (r0 hg).elim
theorem pm_gnew_r (Rl : pm_Rel O bad br sat ab scr) {x : Nat} {st : List Value} {s : η} {nx : List Value → η → α} (hg : sat (pm_gnew O bad x st s nx)) : pm_gnew (pm_OH scr) False x st (ab s) (pm_nxA sat ab nx) := by
  obtain ⟨r0, r1, r2, r3, r4, r5, r6, r7, r8, r9, r10⟩ := Rl
  unfold pm_gnew at hg ⊢
  split at hg
  · rename_i hv; simp only [r8 _ _ _ _ hv]; exact ⟨_, rfl, hg⟩
  · exact (r0 hg).elim
theorem pm_gnwa_r (Rl : pm_Rel O bad br sat ab scr) {t : ArrayType} {st : List Value} {s : η} {nx : List Value → η → α} (hg : sat (pm_gnwa O bad br t st s nx)) : pm_gnwa (pm_OH scr) False pm_br t st (ab s) (pm_nxA sat ab nx) := by
  obtain ⟨r0, r1, r2, r3, r4, r5, r6, r7, r8, r9, r10⟩ := Rl
  unfold pm_gnwa at hg ⊢
  split at hg
  · have h2 := r1 _ _ _ _ hg
    refine ⟨fun z => ?_, fun z => r0 (h2.2 z)⟩
    have h3 := h2.1 z
    split at h3
    · split at h3
      · rename_i hv; simp only [r8 _ _ _ _ hv]; exact ⟨_, rfl, h3⟩
      · exact (r0 h3).elim
    · split at h3
      · rename_i hv; simp only [r8 _ _ _ _ hv]; exact ⟨_, rfl, h3⟩
      · exact (r0 h3).elim
    · split at h3
      · rename_i hv; simp only [r8 _ _ _ _ hv]; exact ⟨_, rfl, h3⟩
      · exact (r0 h3).elim
    · exact (r0 h3).elim
  · exact (r0 hg).elim
theorem pm_gint_r (Rl : pm_Rel O bad br sat ab scr) {x : Nat} {st : List Value} {s : η} {nx : List Value → η → α} (hg : sat (pm_gint O bad br x st s nx)) : pm_gint (pm_OH scr) False pm_br x st (ab s) (pm_nxA sat ab nx) := by
  obtain ⟨r0, r1, r2, r3, r4, r5, r6, r7, r8, r9, r10⟩ := Rl
  unfold pm_gint at hg ⊢
  split at hg
  · split at hg
    · split at hg
      · rename_i hk; (try simp only [hk]); exact ⟨_, rfl, hg⟩
      · exact (r0 hg).elim
    · exact (r0 hg).elim
  · split at hg
    · split at hg
      · rename_i hk; (try simp only [hk]); exact ⟨_, rfl, hg⟩
      · exact (r0 hg).elim
    · exact (r0 hg).elim
  · split at hg
    · split at hg
      · rename_i hk; (try simp only [hk]); exact ⟨_, rfl, hg⟩
      · exact (r0 hg).elim
    · exact (r0 hg).elim
  · split at hg
    · split at hg
      · rename_i hk; try simp only [hk]
        split at hg
        · rename_i hv0 hv1
          simp only [r4 _ _ _ hv0, r4 _ _ _ hv1]
          have h2 := r1 _ _ _ _ hg
          exact ⟨fun z => ⟨_, (r5 _ _ _ _ hv1).symm, h2.1 z⟩, fun z => r0 (h2.2 z)⟩
        · exact (r0 hg).elim
      · exact (r0 hg).elim
    · exact (r0 hg).elim
  · exact (r0 hg).elim
/-- calls over pictures -/
def pm_clA (sat : α → Prop) (ab : η → pm_H) (cl : Nat → List Value → η → (Option Value → η → α) → α) : Nat → List Value → pm_H → (Option Value → pm_H → Prop) → Prop := fun k As h kont => ∃ (s' : η) (kont' : Option Value → η → α), h = ab s' ∧ sat (cl k As s' kont') ∧ ∀ r s1, sat (kont' r s1) → kont r (ab s1)
theorem pm_gcV_r (Rl : pm_Rel O bad br sat ab scr) {x y : Nat} {zs : List Nat} {st : List Value} {s : η} {nx : List Value → η → α} {cl : Nat → List Value → η → (Option Value → η → α) → α} (hg : sat (pm_gcV O bad x y zs st s nx cl)) : pm_gcV (pm_OH scr) False x y zs st (ab s) (pm_nxA sat ab nx) (pm_clA sat ab cl) := by
  obtain ⟨r0, r1, r2, r3, r4, r5, r6, r7, r8, r9, r10⟩ := Rl
  unfold pm_gcV at hg ⊢
  split at hg
  · exact (r0 hg).elim
  · rename_i hx; try simp only [hx]
    split at hg
    · exact (r0 hg).elim
    · rename_i hp; try simp only [hp]
      split at hg
      · split at hg
        · rename_i h8; try simp only [h8]
          split at hg
          · split at hg
            · rename_i hc
              simp only [r9 _ _ _ hc]
              split at hg
              · rename_i hb; try simp only [hb]
                exact ⟨s, _, rfl, hg, fun r s1 h1 => ⟨s1, rfl, h1⟩⟩
              · exact (r0 hg).elim
            · exact (r0 hg).elim
          · split at hg
            · rename_i hk
              try simp only [hk]
              exact ⟨s, _, rfl, hg, fun r s1 h1 => ⟨s1, rfl, h1⟩⟩
            · exact (r0 hg).elim
          · exact (r0 hg).elim
        · exact (r0 hg).elim
      · exact (r0 hg).elim
theorem pm_gcS_r (Rl : pm_Rel O bad br sat ab scr) {x y : Nat} {st : List Value} {s : η} {nx : List Value → η → α} {cl : Nat → List Value → η → (Option Value → η → α) → α} (hg : sat (pm_gcS bad x y st s nx cl)) : pm_gcS False x y st (ab s) (pm_nxA sat ab nx) (pm_clA sat ab cl) := by
  obtain ⟨r0, r1, r2, r3, r4, r5, r6, r7, r8, r9, r10⟩ := Rl
  unfold pm_gcS at hg ⊢
  split at hg
  · exact (r0 hg).elim
  · rename_i hx; try simp only [hx]
    split at hg
    · exact (r0 hg).elim
    · rename_i hp; try simp only [hp]
      split at hg
      · rename_i h8; try simp only [h8]
        exact ⟨s, _, rfl, hg, fun r s1 h1 => ⟨s1, rfl, h1⟩⟩
      · exact (r0 hg).elim
theorem pm_gcI_r (Rl : pm_Rel O bad br sat ab scr) {x y : Nat} {st : List Value} {s : η} {nx : List Value → η → α} {cl : Nat → List Value → η → (Option Value → η → α) → α} (hg : sat (pm_gcI bad x y st s nx cl)) : pm_gcI False x y st (ab s) (pm_nxA sat ab nx) (pm_clA sat ab cl) := by
  obtain ⟨r0, r1, r2, r3, r4, r5, r6, r7, r8, r9, r10⟩ := Rl
  unfold pm_gcI at hg ⊢
  split at hg
  · exact (r0 hg).elim
  · rename_i hx; try simp only [hx]
    split at hg
    · exact (r0 hg).elim
    · rename_i hp; try simp only [hp]
      split at hg
      · split at hg
        · rename_i h8; try simp only [h8]
          exact ⟨s, _, rfl, hg, fun r s1 h1 => ⟨s1, rfl, h1⟩⟩
        · exact (r0 hg).elim
      · exact (r0 hg).elim
theorem pm_sw_r (Rl : pm_Rel O bad br sat ab scr) {a : Int32} {nx : Nat → α} {nxP : Nat → Prop} {d : Nat} (hn : ∀ t, sat (nx t) → nxP t) : ∀ {ks : List Int} {ts : List Nat}, sat (pm_sw br a nx d ks ts) → pm_sw pm_br a nxP d ks ts
  | [], ts, h => by cases ts <;> exact hn _ h
  | k :: ks, [], h => hn _ h
  | k :: ks, t :: ts, h => by
    have h2 := Rl.2.1 _ _ _ _ h
    exact ⟨fun z => hn _ (h2.1 z), fun z => pm_sw_r Rl hn (h2.2 z)⟩
theorem pm_go_r (Rl : pm_Rel O bad br sat ab scr) {rty : Option FieldType} {idx : Nat} {i : pm_I} {L st : List Value} {s : η} {nx : Nat → List Value → List Value → η → α} {cl : Nat → List Value → η → (Option Value → η → α) → α} {rt : Option Value → η → α} (hg : sat (pm_go O bad br rty idx i L st s nx cl rt)) :
    pm_go (pm_OH scr) False pm_br rty idx i L st (ab s) (fun idx' L' => pm_nxA sat ab (nx idx' L')) (pm_clA sat ab cl) (fun r h => ∃ s', h = ab s' ∧ sat (rt r s')) := by
  have Rl0 := Rl
  obtain ⟨r0, r1, r2, r3, r4, r5, r6, r7, r8, r9, r10⟩ := Rl
  obtain ⟨pc, ins, len, x, y, zs⟩ := i
  unfold pm_go at hg ⊢
  dsimp only at hg ⊢
  split at hg
  · exact ⟨s, rfl, hg⟩
  · split at hg
    · have h2 := r1 _ _ _ _ hg
      exact ⟨fun z => ⟨_, rfl, h2.1 z⟩, fun z => ⟨_, rfl, h2.2 z⟩⟩
    · exact (r0 hg).elim
  · split at hg
    · have h2 := r1 _ _ _ _ hg
      exact ⟨fun z => ⟨_, rfl, h2.1 z⟩, fun z => ⟨_, rfl, h2.2 z⟩⟩
    · exact (r0 hg).elim
  · split at hg
    · exact pm_sw_r Rl0 (fun t h => ⟨s, rfl, h⟩) hg
    · exact (r0 hg).elim
  · split at hg
    · exact pm_sw_r Rl0 (fun t h => ⟨s, rfl, h⟩) hg
    · exact (r0 hg).elim
  · exact pm_gget_r Rl0 hg
  · exact pm_gput_r Rl0 hg
  · exact pm_gald_r Rl0 hg
  · exact pm_gald_r Rl0 hg
  · exact pm_gast_r Rl0 hg
  · exact pm_gast_r Rl0 hg
  · exact pm_glld_r Rl0 hg
  · exact pm_glst_r Rl0 hg
  · exact pm_glen_r Rl0 hg
  · exact pm_gdiv_r Rl0 hg
  · exact pm_gdiv_r Rl0 hg
  · exact pm_gnew_r Rl0 hg
  · exact pm_gnwa_r Rl0 hg
  · exact pm_gcV_r Rl0 hg
  · split at hg
    · rename_i hb; (try simp only [hb]); exact pm_gint_r Rl0 hg
    · rename_i hb; (try simp only [hb]); exact pm_gcS_r Rl0 hg
  · split at hg
    · split at hg
      · split at hg
        · rename_i hb; (try simp only [hb]); exact ⟨s, rfl, hg⟩
        · exact (r0 hg).elim
      · exact (r0 hg).elim
    · rename_i hx
      exact pm_gcI_r Rl0 hg
  · unfold pm_gret at hg ⊢
    split at hg
    · split at hg
      · exact ⟨s, rfl, hg⟩
      · have h2 := r1 _ _ _ _ hg
        exact ⟨fun z => ⟨_, rfl, h2.1 z⟩, fun z => r0 (h2.2 z)⟩
      · have h2 := r1 _ _ _ _ hg
        exact ⟨fun z => ⟨_, rfl, h2.1 z⟩, fun z => r0 (h2.2 z)⟩
      · have h2 := r1 _ _ _ _ hg
        exact ⟨fun z => ⟨_, rfl, h2.1 z⟩, fun z => r0 (h2.2 z)⟩
      · exact (r0 hg).elim
    · exact (r0 hg).elim
  · split at hg
    · split at hg
      · exact ⟨s, rfl, hg⟩
      · exact (r0 hg).elim
    · exact (r0 hg).elim
  · split at hg
    · split at hg
      · exact ⟨s, rfl, hg⟩
      · exact (r0 hg).elim
    · exact (r0 hg).elim
  · rename_i h1 h2 h3 h4 h5 h6 h7 h8 h9 h10 h11 h12 h13 h14 h15 h16 h17 h18 h19 h20 h21 h22 h23 h24
    split at hg
    · rename_i hpu
      try simp only [hpu]
      exact ⟨s, rfl, hg⟩
    · exact (r0 hg).elim
end REL
