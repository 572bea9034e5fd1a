/-! THE LAW FROM ITS ENTRY: out of an invariant that holds at the beginning and that all calls keep -/
theorem pm_Ok.step {E : pm_E} {d k N idx : Nat} {L st : List Value} {h : pm_H} {Q : Option Value → pm_H → Prop} {M : pm_M} {i : pm_I} (hd1 : 1 ≤ d) (hM : pm_tab[k]? = some M) (hi : pm_nth M.2.2.2.2.2 idx = some i) (hN : h.length ≤ N) (idx' : Nat) (L' st' : List Value) (h' : pm_H)
    (hgo : pm_go (pm_OH (some (pe_n E, pe_x E))) False pm_br M.2.2.2.1 idx i L st h (fun a b c e => a = idx' ∧ b = L' ∧ c = st' ∧ e = h') (fun _ _ _ _ => False) (fun _ _ => False)) (hN' : h'.length ≤ N) (kk : pm_Ok E d k (N - h'.length) idx' L' st' h' Q) : pm_Ok E d k (N - h.length) idx L st h Q :=
  pm_go_ok hd1 hM hi hgo hN (fun a b c e q _ => by obtain ⟨e1, e2, e3, e4⟩ := q; rw [e1, e2, e3, e4]; exact ⟨hN', kk⟩) (fun _ _ _ _ _ q => q.elim) (fun _ _ q => q.elim)
theorem pm_Ok.stepC {E : pm_E} {d k N idx : Nat} {L st : List Value} {h : pm_H} {Q : Option Value → pm_H → Prop} {M : pm_M} {i : pm_I} (hd1 : 1 ≤ d) (hM : pm_tab[k]? = some M) (hi : pm_nth M.2.2.2.2.2 idx = some i) (hN : h.length ≤ N) (idx' : Nat) (L' st' : List Value) (h' : pm_H) (K : Nat) (As0 : List Value)
    (hgo : pm_go (pm_OH (some (pe_n E, pe_x E))) False pm_br M.2.2.2.1 idx i L st h (fun a b c e => a = idx' ∧ b = L' ∧ c = st' ∧ e = h') (fun k' As h1 kont => k' = K ∧ As = As0 ∧ h1 = h ∧ kont none h') (fun _ _ => False)) (hN' : h'.length ≤ N) (hle : h.length ≤ h'.length) {d' : Nat} (hdd : d' + 1 ≤ d) (hC : pm_Call E d' K (h'.length - h.length) As0 h (fun r1 h1 => r1 = none ∧ h1 = h')) (kk : pm_Ok E d k (N - h'.length) idx' L' st' h' Q) : pm_Ok E d k (N - h.length) idx L st h Q :=
  pm_go_ok hd1 hM hi hgo hN (fun a b c e q _ => by obtain ⟨e1, e2, e3, e4⟩ := q; rw [e1, e2, e3, e4]; exact ⟨hN', kk⟩) (fun k' As h1 kont _ q => by
    obtain ⟨e1, e2, e3, q⟩ := q
    rw [e1, e2, e3]
    exact ⟨h'.length - h.length, d', hdd, by omega, hC.mono (fun r h2 z => by rw [z.1, z.2]; exact q)⟩) (fun _ _ q => q.elim)
def pm_hA : pm_H := match pm_x1 with
  | some q => q.2
  | none => []
theorem pm_hA_len : pm_hA.length = 93 := by
  have h := pm_x1_ok
  unfold pm_hA
  split at h
  · rename_i h5 e5; rw [e5]; exact Nat.eq_of_beq_eq_true h
  · cases h
theorem pm_x1_def : pm_x1 = pm_exc 2000 6 127 [.ref 0] pm_h0 := by unfold pm_x1; rfl
theorem pm_x2_def : pm_x2 = pm_exc 2000 6 158 [.ref 93] pm_h1 := by unfold pm_x2; rfl
theorem pm_hA_1 : pm_exc 2000 6 127 [.ref 0] pm_h0 = some (none, pm_hA) := by
  rw [← pm_x1_def]
  have h := pm_x1_ok
  split at h
  · rename_i h5 e5
    have e6 : pm_hA = h5 := by unfold pm_hA; rw [e5]
    rw [e6, e5]
  · cases h
theorem pm_h1_A : pm_h1 = pm_hA ++ [.inr (12, pm_dfl 12)] := by
  have h := pm_x1_ok
  unfold pm_h1 pm_hA
  split at h
  · rename_i h5 e5; rw [e5]
  · cases h
theorem pm_hB_2 : pm_exc 2000 6 158 [.ref 93] pm_h1 = some (none, pm_wl pm_s0) := by
  rw [← pm_x2_def]
  exact pm_init2
section STT
variable {E : pm_E} {d : Nat} {Q : Option Value → pm_H → Prop}
theorem law_p7 (hd : 7 ≤ d) {h : pm_H} (hl : h.length = 134) (kk : pm_Ok E d 256 (134 - h.length) 10 [.retAddr 30, .ref 0, .ref 93, .int (nI 0)] [] h Q) : pm_Ok E d 256 (134 - h.length) 7 [.retAddr 30, .ref 0, pm_un, pm_un] [.ref 93] h Q := by
  refine pm_Ok.step (i := (15, .astore_n 2, 1, 0, 0, [])) (by omega) pm_law_row rfl (by omega) 8 [.retAddr 30, .ref 0, .ref 93, pm_un] [] h ⟨rfl, rfl, rfl, rfl⟩ (by omega) ?_
  refine pm_Ok.step (i := (16, .iconst 0, 1, 0, 0, [])) (by omega) pm_law_row rfl (by omega) 9 [.retAddr 30, .ref 0, .ref 93, pm_un] [.int (nI 0)] h ⟨rfl, rfl, rfl, rfl⟩ (by omega) ?_
  exact pm_Ok.step (i := (17, .istore_n 3, 1, 0, 0, [])) (by omega) pm_law_row rfl (by omega) 10 [.retAddr 30, .ref 0, .ref 93, .int (nI 0)] [] h ⟨rfl, rfl, rfl, rfl⟩ (by omega) kk
theorem law_p5 (hd : 7 ≤ d) {h : pm_H} (hl : h.length = 94) {h' : pm_H} (hl' : h'.length = 134) (hC : pm_Call E 6 158 (h'.length - h.length) [.ref 93] h (fun r1 h1 => r1 = none ∧ h1 = h')) (kk : pm_Ok E d 256 (134 - h'.length) 10 [.retAddr 30, .ref 0, .ref 93, .int (nI 0)] [] h' Q) : pm_Ok E d 256 (134 - h.length) 5 [.retAddr 30, .ref 0, pm_un, pm_un] [.ref 93] h Q := by
  refine pm_Ok.step (i := (11, .dup, 1, 0, 0, [])) (by omega) pm_law_row rfl (by omega) 6 [.retAddr 30, .ref 0, pm_un, pm_un] [.ref 93, .ref 93] h ⟨rfl, rfl, rfl, rfl⟩ (by omega) ?_
  exact pm_Ok.stepC (i := (12, .invokespecial 12, 3, 158, 0, [])) (by omega) pm_law_row rfl (by omega) 7 [.retAddr 30, .ref 0, pm_un, pm_un] [.ref 93] h' 158 [.ref 93] ⟨rfl, rfl, rfl, rfl, rfl, rfl, rfl⟩ (by omega) (by omega) (d' := 6) (by omega) hC (law_p7 hd hl' kk)
theorem law_p3 (hd : 7 ≤ d) {h : pm_H} (hl : h.length = 93) (kk : pm_Ok E d 256 (134 - (h ++ [.inr (12, pm_dfl 12)] : pm_H).length) 5 [.retAddr 30, .ref 0, pm_un, pm_un] [.ref 93] (h ++ [.inr (12, pm_dfl 12)]) Q) : pm_Ok E d 256 (134 - h.length) 3 [.retAddr 30, pm_un, pm_un, pm_un] [.ref 0] h Q := by
  refine pm_Ok.step (i := (7, .astore_n 1, 1, 0, 0, [])) (by omega) pm_law_row rfl (by omega) 4 [.retAddr 30, .ref 0, pm_un, pm_un] [] h ⟨rfl, rfl, rfl, rfl⟩ (by omega) ?_
  exact pm_Ok.step (i := (8, .new 10, 3, 12, 67, [])) (by omega) pm_law_row rfl (by omega) 5 [.retAddr 30, .ref 0, pm_un, pm_un] [.ref 93] (h ++ [.inr (12, pm_dfl 12)]) ⟨rfl, rfl, by rw [hl], rfl⟩ (by simp; omega) kk
theorem law_p0 (hd : 7 ≤ d) {h' : pm_H} (hl' : h'.length = 93) (hC : pm_Call E 6 127 (h'.length - pm_h0.length) [.ref 0] pm_h0 (fun r1 h1 => r1 = none ∧ h1 = h')) (kk : pm_Ok E d 256 (134 - h'.length) 3 [.retAddr 30, pm_un, pm_un, pm_un] [.ref 0] h' Q) : pm_Ok E d 256 (134 - ([] : pm_H).length) 0 [.retAddr 30, pm_un, pm_un, pm_un] [] [] Q := by
  refine pm_Ok.step (i := (0, .new 7, 3, 11, 8, [])) (by omega) pm_law_row rfl (by decide) 1 [.retAddr 30, pm_un, pm_un, pm_un] [.ref 0] pm_h0 ⟨rfl, rfl, rfl, rfl⟩ (by decide) ?_
  refine pm_Ok.step (i := (3, .dup, 1, 0, 0, [])) (by omega) pm_law_row rfl (by decide) 2 [.retAddr 30, pm_un, pm_un, pm_un] [.ref 0, .ref 0] pm_h0 ⟨rfl, rfl, rfl, rfl⟩ (by decide) ?_
  exact pm_Ok.stepC (i := (4, .invokespecial 9, 3, 127, 0, [])) (by omega) pm_law_row rfl (by decide) 3 [.retAddr 30, pm_un, pm_un, pm_un] [.ref 0] h' 127 [.ref 0] ⟨rfl, rfl, rfl, rfl, rfl, rfl, rfl⟩ (by omega) (by rw [hl']; decide) (d' := 6) (by omega) hC kk
end STT
theorem pm_lay_len : pm_lay.length = 134 := by decide +kernel
theorem law_ok {I J : pm_S → Prop} (h0 : I pm_s0) (hp : AllTwo I J) {E : pm_E} {d : Nat} (hd : 1201 ≤ d) (hn : pe_n E ≤ 3072) (hJ : ∀ τ, J τ → 12 ≤ pe_n E → I τ) : pm_Ok E d 256 134 0 [.retAddr 30, pm_un, pm_un, pm_un] [] [] (fun r _ => r = some (.int 1)) := by
  have hB := pm_exc_ok (E := E) (F := 2000) 6 158 [.ref 93] pm_h1 none (pm_wl pm_s0) pm_hB_2
  have hA := pm_exc_ok (E := E) (F := 2000) 6 127 [.ref 0] pm_h0 none pm_hA pm_hA_1
  have hw : (pm_wl pm_s0).length = 134 := by rw [pm_wl_len]; exact pm_lay_len
  have loop := law_loop hp hd hn hJ (pe_n E + 1) 0 pm_s0 (by omega) (by omega) (fun _ => h0)
  unfold pm_OkS at loop
  have loop2 := loop.mono (Q' := fun r _ => r = some (.int 1)) (fun r h' q => by obtain ⟨τ, -, q⟩ := q; exact q)
  have hB2 := hB.2
  revert hB2 loop2
  generalize pm_wl pm_s0 = hb at hw ⊢
  intro loop2 hB2
  have e : 134 - hb.length = 0 := by omega
  refine law_p0 (by omega) pm_hA_len hA.2 ?_
  refine law_p3 (by omega) pm_hA_len ?_
  rw [← pm_h1_A]
  refine law_p5 (by omega) pm_h1_len hw hB2 ?_
  rw [e]
  exact loop2
/-- THE LAW, from its entry -/
theorem whole_of {I J : pm_S → Prop} (h0 : I pm_s0) (hp : AllTwo I J) {p : Program} {e : Env} {s : State} {m : MethodId} {below : List Frame} {meth : Method} {c : Code} (l : Launch) {b L : Nat} {xs : Nat → Int32} (hL : L ≤ 3072) (hJ : ∀ τ, J τ → 12 ≤ L → I τ) (C0 : lw_At p s m meth c b L xs) : W p l e room_1 s m #[Value.ref b] below meth c s.heap [] 0 0 (lw_Z below #[Value.ref b] s) (entryFrame m ([Value.ref b] : List Value).toArray 4) := by
  obtain ⟨E, e1, e2, e3, e4, e5, henv⟩ := pm_start l C0
  obtain ⟨hx, hb, hr, hml, hown, hts, hX, hbl, hlocks, hgv⟩ := C0
  subst e1
  have hl := lv_entry ([.ref b]) (n := 4) (Nat.le_of_ble_eq_true rfl)
  rw [lg_entry_eq]
  generalize (lg_sl ([.ref b]) ++ List.replicate (4 - (lg_sl ([.ref b])).length) Slot.unset).toArray = ls at hl ⊢
  have hsv : pe_v E (.retAddr 30) = .ref b := by rw [← e3]; rfl
  have hl2 : lv_has ls 4 (pe_ls E [.retAddr 30, pm_un, pm_un, pm_un]) := by
    refine pm_has_of hl (fun q hq => ?_)
    obtain ⟨v, h1, h2, h3⟩ := pe_ls_mem.mp hq
    obtain ⟨q1, q2⟩ := q
    match q1, h1 with
    | 0, h1 => cases h1; simp only at h3; rw [h3, hsv]; exact List.mem_cons_self
    | 1, h1 => cases h1; exact absurd rfl h2
    | 2, h1 => cases h1; exact absurd rfl h2
    | 3, h1 => cases h1; exact absurd rfl h2
    | n + 4, h1 => simp at h1
  have hF : pm_Fx E pm_ML0 1300 p room_1 s m #[Value.ref b] meth c := ⟨hx, hb, hml, hown, fun w hw => hts w (List.mem_filter.mp hw).1, hlocks, hr, fun h => absurd h (by decide), by decide, by decide, henv⟩
  have key := law_ok h0 hp (E := E) (d := 1300) (by omega) (by rw [e4]; exact hL) (by rw [e4]; exact hJ) pm_ML0 (0, .new 7, 3, 11, 8, []) pm_law_row rfl rfl p e room_1 s m #[Value.ref b] below meth c hF (lw_Z below #[Value.ref b] s) s.heap [] 0 0 ls (fun k q h => by simp [pe_w] at h) va_S.rf (by rw [e2]; rfl) hl2 (by decide) (by decide) ?_
  · exact key
  · intro r h' H' locs' cells' slots' pc' ls' hq hP' hS' hcs' hc' hs' hrt
    subst hq
    refine va_forget (fun q hq => by have h5 := hS'.2.2 q hq; rw [← e2]; exact h5) ?_
    refine W.widen (k := 600000) (n := 7302250) hc' hs' ?_
    exact lw_ret hx hb hr hlocks hrt.2
