/-! SOUNDNESS, 3: the heap -/
/-- what the tables say of a class -/
theorem pm_cls_ok {ci : Nat} {q : vw_C} (h : pm_cls[ci]? = some q) : (∀ w ∈ u_ws q.1 q.2.1 q.2.2, w ∈ pm_big) ∧ (∃ ty : Nat → FieldType, (∀ k, k < q.2.2 → parseFieldDescriptor (q.2.1 k).2.2.1 = some (ty k)) ∧ ∀ j, j < q.2.2 → defaultValue (ty j) = vp_V (pm_dfl ci) j) ∧ (∀ a, a < q.2.2 → ∀ b, b < q.2.2 → a ≠ b → (q.2.1 a).2.1 ≠ (q.2.1 b).2.1) := by
  have hb : ∀ w ∈ pm_layw, w ∈ pm_big := by
    intro w hw
    have h1 : some w ∈ pm_layw.map some := List.mem_map.mpr ⟨w, hw, rfl⟩
    rw [pm_lay_ok] at h1
    obtain ⟨i, -, hi⟩ := List.mem_map.mp h1
    refine List.mem_filter.mpr ⟨List.mem_of_getElem? hi, ?_⟩
    obtain ⟨c, -, hc⟩ := List.mem_flatMap.mp hw
    obtain ⟨k, -, rfl⟩ := List.mem_map.mp hc
    unfold u_lay
    split <;> rfl
  have hu : ∀ w ∈ u_ws q.1 q.2.1 q.2.2, w ∈ pm_big := fun w hw => hb w (List.mem_flatMap.mpr ⟨q, List.mem_of_getElem? h, hw⟩)
  refine ⟨hu, ?_⟩
  match ci, h with
  | 0, h => cases h; exact ⟨⟨pt_0, pt_0_ok, by decide⟩, pn_0⟩
  | 1, h => cases h; exact ⟨⟨pt_1, pt_1_ok, by decide⟩, pn_1⟩
  | 2, h => cases h; exact ⟨⟨pt_2, pt_2_ok, by decide⟩, pn_2⟩
  | 3, h => cases h; exact ⟨⟨pt_3, pt_3_ok, by decide⟩, pn_3⟩
  | 4, h => cases h; exact ⟨⟨pt_4, pt_4_ok, by decide⟩, pn_4⟩
  | 5, h => cases h; exact ⟨⟨pt_5, pt_5_ok, by decide⟩, pn_5⟩
  | 6, h => cases h; exact ⟨⟨pt_6, pt_6_ok, by decide⟩, pn_6⟩
  | 7, h => cases h; exact ⟨⟨pt_7, pt_7_ok, by decide⟩, pn_7⟩
  | 8, h => cases h; exact ⟨⟨pt_8, pt_8_ok, by decide⟩, pn_8⟩
  | 9, h => cases h; exact ⟨⟨pt_9, pt_9_ok, by decide⟩, pn_9⟩
  | 10, h => cases h; exact ⟨⟨pt_10, pt_10_ok, by decide⟩, pn_10⟩
  | 11, h => cases h; exact ⟨⟨pt_11, pt_11_ok, by decide⟩, pn_11⟩
  | 12, h => cases h; exact ⟨⟨pt_12, pt_12_ok, by decide +kernel⟩, pn_12⟩
  | n + 13, h => simp [pm_cls] at h
section HP
variable {E : pm_E} {M : pm_M} {d : Nat} {p : Program} {e : Env} {R : Room} {s : State} {m : MethodId} {args : Array Value} {below : List Frame} {meth : Method} {c : Code} {H : Heap} {locs : List Loc} {cells slots : Nat} {QQ : State → Prop}
variable {pc x y : Nat} {ls : Array Slot} {st : List Value} {h : pm_H} {nx : List Value → pm_H → Prop} {scr : Option (Nat × (Nat → Int32))}
/-- the continuation of a heap instruction: whatever the heap has become, the machine goes on -/
abbrev pm_kk (E : pm_E) (p : Program) (e : Env) (R : Room) (s : State) (m : MethodId) (args : Array Value) (below : List Frame) (meth : Method) (c : Code) (QQ : State → Prop) (pc' : Nat) (ls : Array Slot) (h : pm_H) (nx : List Value → pm_H → Prop) (cells slots : Nat) : Prop :=
  ∀ (st1 : List Value) (h1 : pm_H) (H1 : Heap) (locs1 : List Loc), nx st1 h1 → h1.length = h.length → va_P (pe_D E) pm_cls (pe_w E h1) H1 → va_S (pe_A E) s.heap H1 locs1 → W p E.1 e R s m args below meth c H1 locs1 cells slots QQ (F0 m pc' ls (st1.map (pe_v E)))
theorem pm_strs_spec {k : Nat} {z : List Nat} (hk : Nat.ble 10 k = true) (hz : pm_nth pm_strs (k - 10) = some z) : k - 10 < 2 ∧ k < 20 ∧ pm_len.getD (k - 10) 0 = z.length ∧ ∀ j, (pm_byt.getD (k - 10) []).getD j 0 = nI (z.getD j 0) := by
  rw [pm_nth_eq] at hz
  have hl : k - 10 < 2 := (List.getElem?_eq_some_iff.mp hz).1
  have h10 : 10 ≤ k := Nat.le_of_ble_eq_true hk
  refine ⟨hl, by omega, ?_, fun j => ?_⟩
  · rw [pm_len, List.getD_eq_getElem?_getD, List.getElem?_map, hz]; rfl
  · rw [pm_byt, List.getD_eq_getElem?_getD (l := List.map _ _), List.getElem?_map, hz]
    show (z.map nI).getD j 0 = _
    rw [List.getD_eq_getElem?_getD, List.getD_eq_getElem?_getD, List.getElem?_map]
    cases z[j]? <;> rfl
theorem pm_gget_ok (F : pm_Fx E M d p R s m args meth c) (hown : M.1.cls = pm_cn.getD M.2.2.2.2.1 "") (hP : va_P (pe_D E) pm_cls (pe_w E h) H) (hS : va_S (pe_A E) s.heap H locs) {k : Nat} (hd : decode M.2.1 pc = .ok (.getfield k, 3))
    (hc : match x with | 50 => (M.2.2.2.2.1, k, y) ∈ pm_SF | _ => (M.2.2.2.2.1, k, x, y) ∈ pm_FL ∧ ∃ q, pm_cls[x]? = some q ∧ y < q.2.2)
    (hg : pm_gget (pm_OH scr) False x y st h nx) (kk : pm_kk E p e R s m args below meth c QQ (pc + 3) ls h nx cells slots) : W p E.1 e R s m args below meth c H locs cells slots QQ (F0 m pc ls (st.map (pe_v E))) := by
  obtain ⟨hx, hb, hml, ho, hts, hlk, hr, hnm, hf1, hf2, henv⟩ := F
  unfold pm_gget at hg
  split at hg
  · rename_i q st2
    split at hg
    · rename_i v hv
      dsimp only [pm_OH] at hv
      split at hv
      · rename_i ci fs hh
        split at hv
        · rename_i hcx
          have hcx := Nat.eq_of_beq_eq_true hcx
          subst hcx
          have hne : ci ≠ 50 := by
            intro e5; subst e5
            obtain ⟨r, h1, -⟩ := hP q _ (pe_w_get hh)
            simp [pm_cls] at h1
          have hc2 : (M.2.2.2.2.1, k, ci, y) ∈ pm_FL ∧ ∃ q, pm_cls[ci]? = some q ∧ y < q.2.2 := by
            split at hc
            · exact absurd rfl hne
            · exact hc
          obtain ⟨hc3, q5, hq5, hy⟩ := hc2
          have hlk2 := hts _ (pm_FL_ok _ hc3)
          have hgd : pm_cls.getD ci ("", pT_0, 0) = q5 := by rw [List.getD_eq_getElem?_getD, hq5]; rfl
          simp only [pm_FL_w, hgd] at hlk2
          obtain ⟨C, T, N⟩ := q5
          refine va_get (D := pe_D E) (ci := ci) (v := pe_v E v) (C := C) (T := T) (N := N) (ref := (T y).1) hx hb hts (pm_cls_ok hq5).1 ho henv.1 hP q (pe_w_get hh) hq5 y hy (by rw [hown]; exact hlk2) (fun _ h9 => h9) (by rw [List.getElem?_map, hv]; rfl) hd (kk _ _ _ _ hg rfl hP hS)
        · cases hv
      · cases hv
    · exact hg.elim
  · rename_i kq st2
    split at hg
    · rename_i hk
      simp only [Bool.and_eq_true] at hk
      have hk1 : kq ≤ 1 := Nat.le_of_ble_eq_true hk.1
      have hx5 := Nat.eq_of_beq_eq_true hk.2
      subst hx5
      have hc2 : (M.2.2.2.2.1, k, y) ∈ pm_SF := hc
      have hlk2 := hts _ (pm_SF_ok _ hc2)
      have hsv : pe_v E (.retAddr kq) = .ref (pe_aK E kq) := by unfold pe_v; exact if_pos (by omega)
      rw [pe_rest, hsv]
      have hE := henv.2.1.1 kq (by omega)
      split at hg
      · refine vk_getf (o := "java/lang/String") (ref := "java/lang/String") hx hb hE.2.2.1 hS ho (by rw [hown]; exact hlk2) (fun _ h9 => h9) hd ?_
        have h4 := kk _ _ _ _ hg rfl hP hS
        have hsv2 : pe_v E (.retAddr (kq + 10)) = .ref (pe_aV E kq) := by
          unfold pe_v
          dsimp only
          rw [if_neg (by omega), if_pos (by omega), show kq + 10 - 10 = kq by omega]
        rw [pe_rest, hsv2] at h4
        exact h4
      · rename_i hy0
        refine vk_getf (o := "java/lang/String") (ref := "java/lang/String") hx hb hE.2.1 hS ho ?_ (fun _ h9 => h9) hd (kk _ _ _ _ hg rfl hP hS)
        rw [hown]
        unfold pm_SF_w at hlk2
        split at hlk2
        · rename_i e5; exact absurd e5 hy0
        · exact hlk2
    · exact hg.elim
  · exact hg.elim
theorem pm_gput_ok (F : pm_Fx E M d p R s m args meth c) (hown : M.1.cls = pm_cn.getD M.2.2.2.2.1 "") (hP : va_P (pe_D E) pm_cls (pe_w E h) H) (hS : va_S (pe_A E) s.heap H locs) {k : Nat} {zs : List Nat} (hd : decode M.2.1 pc = .ok (.putfield k, 3))
    (hc1 : (M.2.2.2.2.1, k, x, y) ∈ pm_FL) (hc2 : ∃ q ty, pm_cls[x]? = some q ∧ y < q.2.2 ∧ parseFieldDescriptor (q.2.1 y).2.2.1 = some ty ∧ ((ty = .int ∧ zs = [0] ∧ (q.2.1 y).2.2.2 = false) ∨ (ty = .boolean ∧ zs = [1] ∧ (q.2.1 y).2.2.2 = false) ∨ (((∃ n, ty = .object n) ∨ (∃ t, ty = .array t)) ∧ zs = [2] ∧ (q.2.1 y).2.2.2 = true ∧ M.1.name = "<init>" ∧ (q.2.1 y).1 = M.1.cls)))
    (hg : pm_gput (pm_OH scr) False pm_br x y zs st h nx) (kk : pm_kk E p e R s m args below meth c QQ (pc + 3) ls h nx cells slots) : W p E.1 e R s m args below meth c H locs cells slots QQ (F0 m pc ls (st.map (pe_v E))) := by
  obtain ⟨hx, hb, hml, ho, hts, hlk, hr, hnm, hf1, hf2, henv⟩ := F
  obtain ⟨q5, ty, hq5, hy, hty, hz⟩ := hc2
  have hlk2 := hts _ (pm_FL_ok _ hc1)
  have hgd : pm_cls.getD x ("", pT_0, 0) = q5 := by rw [List.getD_eq_getElem?_getD, hq5]; rfl
  simp only [pm_FL_w, hgd] at hlk2
  obtain ⟨C, T, N⟩ := q5
  obtain ⟨hin, ⟨ty0, hty0, -⟩, hn5⟩ := pm_cls_ok hq5
  unfold pm_gput at hg
  split at hg
  · rename_i v q st2
    split at hg
    · rename_i h1 hv
      dsimp only [pm_OH] at hv
      split at hv
      · rename_i ci fs hh
        split at hv
        · rename_i hcx
          have hcx := Nat.eq_of_beq_eq_true hcx
          subst hcx
          split at hv
          · rename_i v0 hv0
            have hl5 : y < (fs.map (pe_v E)).length := by rw [List.length_map]; exact (List.getElem?_eq_some_iff.mp hv0).1
            cases hv
            have hlen : (h.set q (.inr (ci, fs.set y v))).length = h.length := by simp
            have hset : ∀ w, w = pe_v E v → (pe_w E h).set q (E.2.1 + q, .inr (ci, (fs.map (pe_v E)).set y w)) = pe_w E (h.set q (.inr (ci, fs.set y v))) := by
              intro w hw
              rw [pe_w_set, hw]
              show _ = (pe_w E h).set q (E.2.1 + q, .inr (ci, (fs.set y v).map (pe_v E)))
              rw [List.map_set]
            split at hg
            · rename_i w
              rcases hz with ⟨rfl, -, hf⟩ | ⟨-, hz, -⟩ | ⟨-, hz, -⟩
              · exact va_put (D := pe_D E) (ci := ci) (v := .int w) (ty := .int) (C := C) (T := T) (N := N) (ref := (T y).1) hx hb hts hin ty0 hty0 hn5 ho henv.1 hP pe_w_D hS q (pe_w_get hh) hq5 y hy (by rw [hown]; exact hlk2) (fun _ h9 => h9) hf hty rfl rfl hl5 hd (fun H1 locs1 hP1 _ hS1 => kk _ _ _ _ hg hlen (by rw [← hset (.int w) rfl]; exact hP1) hS1)
              · simp at hz
              · simp at hz
            · rename_i w
              rcases hz with ⟨-, hz, -⟩ | ⟨rfl, -, hf⟩ | ⟨-, hz, -⟩
              · simp at hz
              · have hw : w = 0 ∨ w = 1 := by
                  rcases Classical.em (w = 0 ∨ w = 1) with z | z
                  · exact z
                  · exact (hg.2 z).elim
                exact va_put (D := pe_D E) (ci := ci) (v := .int w) (ty := .boolean) (C := C) (T := T) (N := N) (ref := (T y).1) hx hb hts hin ty0 hty0 hn5 ho henv.1 hP pe_w_D hS q (pe_w_get hh) hq5 y hy (by rw [hown]; exact hlk2) (fun _ h9 => h9) hf hty (by rcases hw with rfl | rfl <;> rfl) (by rcases hw with rfl | rfl <;> rfl) hl5 hd (fun H1 locs1 hP1 _ hS1 => kk _ _ _ _ (hg.1 hw) hlen (by rw [← hset (.int w) rfl]; exact hP1) hS1)
              · simp at hz
            · rename_i a
              rcases hz with ⟨-, hz, -⟩ | ⟨-, hz, -⟩ | ⟨hty2, -, hf, hi, hdc⟩
              · simp at hz
              · simp at hz
              · exact va_putF (D := pe_D E) (ci := ci) (v := .ref (E.2.1 + a)) (ty := ty) (C := C) (T := T) (N := N) (ref := (T y).1) hx hb hts hin ty0 hty0 hn5 ho henv.1 hP pe_w_D hS q (pe_w_get hh) hq5 y hy (by rw [hown]; exact hlk2) (fun _ h9 => h9) hf (hnm hi) hdc hty (by rcases hty2 with ⟨n, rfl⟩ | ⟨t, rfl⟩ <;> rfl) (by rcases hty2 with ⟨n, rfl⟩ | ⟨t, rfl⟩ <;> rfl) hl5 hd (fun H1 locs1 hP1 _ hS1 => kk _ _ _ _ hg hlen (by rw [← hset (.ref (E.2.1 + a)) rfl]; exact hP1) hS1)
            · exact hg.elim
          · cases hv
        · cases hv
      · cases hv
    · exact hg.elim
  · exact hg.elim
theorem pm_kty {E : pm_E} {h : pm_H} {H : Heap} : (pe_ty E)[0]? = some (pe_K E 0, .int) ∧ (pe_ty E)[1]? = some (pe_K E 1, .boolean) ∧ (pe_ty E)[2]? = some (pe_K E 2, .long) := ⟨rfl, rfl, rfl⟩
theorem pm_in_of {c a : Prop} {D : Decidable c} (h : pm_br c D a False) : c ∧ a := by
  rcases Classical.em c with z | z
  · exact ⟨z, h.1 z⟩
  · exact (h.2 z).elim
theorem pm_gald_ok (F : pm_Fx E M d p R s m args meth c) (hP : va_P (pe_D E) pm_cls (pe_w E h) H) (hS : va_S (pe_A E) s.heap H locs) (hsc : scr = some (pe_n E, pe_x E)) {kd : Nat} {ins : Instr} (hki : (kd = 0 ∧ ins = .iaload) ∨ (kd = 1 ∧ ins = .baload)) (hd : decode M.2.1 pc = .ok (ins, 1))
    (hg : pm_gald (pm_OH scr) False pm_br kd st h nx) (kk : pm_kk E p e R s m args below meth c QQ (pc + 1) ls h nx cells slots) : W p E.1 e R s m args below meth c H locs cells slots QQ (F0 m pc ls (st.map (pe_v E))) := by
  obtain ⟨hx, hb, hml, ho, hts, hlk, hr, hnm, hf1, hf2, henv⟩ := F
  unfold pm_gald at hg
  split at hg
  · rename_i j q st2
    split at hg
    · rename_i k n f hv
      dsimp only [pm_OH] at hv
      split at hv
      · rename_i k2 n2 f2 hh
        cases hv
        split at hg
        · rename_i hkd
          have hkd := Nat.eq_of_beq_eq_true hkd
          subst hkd
          obtain ⟨hin, hg⟩ := pm_in_of hg
          rcases hki with ⟨rfl, rfl⟩ | ⟨rfl, rfl⟩
          · exact va_iald hx hb henv.1 hP q 0 (pe_w_get hh) rfl hin hd (kk _ _ _ _ hg rfl hP hS)
          · exact va_zald hx hb henv.1 hP q 1 (pe_w_get hh) rfl hin hd (kk _ _ _ _ hg rfl hP hS)
        · exact hg.elim
      · cases hv
    · exact hg.elim
  · rename_i j k st2
    split at hg
    · split at hg
      · subst hsc
        have hg : pm_br (¬ (j < 0 ∨ pe_n E ≤ j.toNatClampNeg)) inferInstance (nx (.int (pe_x E j.toNatClampNeg) :: st2) h) False := hg
        obtain ⟨hin, hg⟩ := pm_in_of hg
        rcases hki with ⟨-, rfl⟩ | ⟨q, -⟩
        · have hsv : pe_v E (.retAddr 30) = .ref (pe_b E) := by unfold pe_v; rfl
          rw [pe_rest, pe_rest, hsv]
          exact va_sld hx hb henv.2.2.2.2.2.2.2.1 henv.2.2.2.2.2.2.2.2.2.1 (Nat.not_le.mpr henv.2.2.2.2.2.2.2.2.1) hS hin hd (kk _ _ _ _ hg rfl hP hS)
        · cases q
      · exact hg.elim
    · split at hg
      · rename_i hkd z hz
        split at hg
        · rename_i hk
          obtain ⟨hin, hg⟩ := pm_in_of hg
          rcases hki with ⟨q, -⟩ | ⟨rfl, rfl⟩
          · exact absurd q (by assumption)
          · obtain ⟨h2, h20, hlen, hby⟩ := pm_strs_spec hk hz
            have hk10 : 10 ≤ k := Nat.le_of_ble_eq_true hk
            have hsv : pe_v E (.retAddr k) = .ref (pe_aV E (k - 10)) := by unfold pe_v; dsimp only; rw [if_neg (by omega), if_pos (by omega)]
            rw [pe_rest, pe_rest, hsv]
            have hT := (henv.2.1.1 (k - 10) h2).2.2.2
            refine va_tb hx hb hT hS (i := j) (by rw [hlen]; exact hin) (v := .int (nI (z.getD j.toNatClampNeg 0))) (by rw [hby]) hd (kk _ _ _ _ hg rfl hP hS)
        · exact hg.elim
      · exact hg.elim
  · exact hg.elim
theorem pm_gast_ok (F : pm_Fx E M d p R s m args meth c) (hP : va_P (pe_D E) pm_cls (pe_w E h) H) (hS : va_S (pe_A E) s.heap H locs) {kd : Nat} {ins : Instr} (hki : (kd = 0 ∧ ins = .iastore) ∨ (kd = 1 ∧ ins = .bastore)) (hd : decode M.2.1 pc = .ok (ins, 1))
    (hg : pm_gast (pm_OH scr) False pm_br kd st h nx) (kk : pm_kk E p e R s m args below meth c QQ (pc + 1) ls h nx cells slots) : W p E.1 e R s m args below meth c H locs cells slots QQ (F0 m pc ls (st.map (pe_v E))) := by
  obtain ⟨hx, hb, hml, ho, hts, hlk, hr, hnm, hf1, hf2, henv⟩ := F
  unfold pm_gast at hg
  split at hg
  · rename_i v j q st2
    split at hg
    · rename_i k n f hv
      dsimp only [pm_OH] at hv
      split at hv
      · rename_i k2 n2 f2 hh
        cases hv
        split at hg
        · rename_i hkd
          have hkd := Nat.eq_of_beq_eq_true hkd
          subst hkd
          obtain ⟨hin, hg⟩ := pm_in_of hg
          have hset : ∀ g : Nat → Int32, (pm_OH scr).2.2.2.1 h q g = h.set q (.inl (k, n, .inl g)) := fun g => by dsimp only [pm_OH]; rw [hh]
          have hlen : ∀ g : Nat → Int32, ((pm_OH scr).2.2.2.1 h q g).length = h.length := fun g => by rw [hset]; simp
          rcases hki with ⟨rfl, rfl⟩ | ⟨rfl, rfl⟩
          · exact va_iast hx hb henv.1 hP pe_w_D hS q 0 (pe_w_get hh) rfl hin hd (fun H1 locs1 hP1 _ hS1 => kk _ _ _ _ hg (hlen _) (by rw [hset, pe_w_set]; exact hP1) hS1)
          · obtain ⟨hw, hg⟩ := pm_in_of hg
            have hnar : vp_nar .boolean v = v := by rcases hw with rfl | rfl <;> rfl
            exact va_zast hx hb henv.1 hP pe_w_D hS q 1 (pe_w_get hh) rfl hin hd (fun H1 locs1 hP1 _ hS1 => kk _ _ _ _ hg (hlen _) (by rw [hset, pe_w_set]; rw [hnar] at hP1; exact hP1) hS1)
        · exact hg.elim
      · cases hv
    · exact hg.elim
  · exact hg.elim
theorem pm_glld_ok (F : pm_Fx E M d p R s m args meth c) (hP : va_P (pe_D E) pm_cls (pe_w E h) H) (hS : va_S (pe_A E) s.heap H locs) (hd : decode M.2.1 pc = .ok (.laload, 1))
    (hg : pm_glld (pm_OH scr) False pm_br st h nx) (kk : pm_kk E p e R s m args below meth c QQ (pc + 1) ls h nx cells slots) : W p E.1 e R s m args below meth c H locs cells slots QQ (F0 m pc ls (st.map (pe_v E))) := by
  obtain ⟨hx, hb, hml, ho, hts, hlk, hr, hnm, hf1, hf2, henv⟩ := F
  unfold pm_glld at hg
  split at hg
  · rename_i j q st2
    split at hg
    · rename_i n f hv
      dsimp only [pm_OH] at hv
      split at hv
      · rename_i n2 f2 hh
        cases hv
        obtain ⟨hin, hg⟩ := pm_in_of hg
        exact va_lald hx hb henv.1 hP q 2 (pe_w_get hh) rfl hin hd (kk _ _ _ _ hg rfl hP hS)
      · cases hv
    · exact hg.elim
  · exact hg.elim
theorem pm_glst_ok (F : pm_Fx E M d p R s m args meth c) (hP : va_P (pe_D E) pm_cls (pe_w E h) H) (hS : va_S (pe_A E) s.heap H locs) (hd : decode M.2.1 pc = .ok (.lastore, 1))
    (hg : pm_glst (pm_OH scr) False pm_br st h nx) (kk : pm_kk E p e R s m args below meth c QQ (pc + 1) ls h nx cells slots) : W p E.1 e R s m args below meth c H locs cells slots QQ (F0 m pc ls (st.map (pe_v E))) := by
  obtain ⟨hx, hb, hml, ho, hts, hlk, hr, hnm, hf1, hf2, henv⟩ := F
  unfold pm_glst at hg
  split at hg
  · rename_i v j q st2
    split at hg
    · rename_i n f hv
      dsimp only [pm_OH] at hv
      split at hv
      · rename_i n2 f2 hh
        cases hv
        obtain ⟨hin, hg⟩ := pm_in_of hg
        have hset : ∀ g : Nat → Int64, (pm_OH scr).2.2.2.2.2.1 h q g = h.set q (.inl (2, n, .inr (.inl g))) := fun g => by dsimp only [pm_OH]; rw [hh]
        have hlen : ∀ g : Nat → Int64, ((pm_OH scr).2.2.2.2.2.1 h q g).length = h.length := fun g => by rw [hset]; simp
        exact va_last hx hb henv.1 hP pe_w_D hS q 2 (pe_w_get hh) rfl hin hd (fun H1 locs1 hP1 _ hS1 => kk _ _ _ _ hg (hlen _) (by rw [hset, pe_w_set]; exact hP1) hS1)
      · cases hv
    · exact hg.elim
  · exact hg.elim
theorem pm_glen_ok (F : pm_Fx E M d p R s m args meth c) (hP : va_P (pe_D E) pm_cls (pe_w E h) H) (hS : va_S (pe_A E) s.heap H locs) (hsc : scr = some (pe_n E, pe_x E)) (hd : decode M.2.1 pc = .ok (.arraylength, 1))
    (hg : pm_glen (pm_OH scr) False st h nx) (kk : pm_kk E p e R s m args below meth c QQ (pc + 1) ls h nx cells slots) : W p E.1 e R s m args below meth c H locs cells slots QQ (F0 m pc ls (st.map (pe_v E))) := by
  obtain ⟨hx, hb, hml, ho, hts, hlk, hr, hnm, hf1, hf2, henv⟩ := F
  unfold pm_glen at hg
  split at hg
  · rename_i q st2
    split at hg
    · rename_i k n f hv
      dsimp only [pm_OH] at hv
      split at hv
      · rename_i k2 n2 f2 hh
        cases hv
        split at hg
        · rename_i hk
          have hk1 : k ≤ 1 := Nat.le_of_ble_eq_true hk
          rcases (show k = 0 ∨ k = 1 by omega) with rfl | rfl
          · exact va_alen hx hb henv.1 hP q 0 (pe_w_get hh) rfl rfl hd (kk _ _ _ _ hg rfl hP hS)
          · exact va_alen hx hb henv.1 hP q 1 (pe_w_get hh) rfl rfl hd (kk _ _ _ _ hg rfl hP hS)
        · exact hg.elim
      · cases hv
    · split at hg
      · rename_i n f hv
        dsimp only [pm_OH] at hv
        split at hv
        · rename_i n2 f2 hh
          cases hv
          exact va_alen hx hb henv.1 hP q 2 (pe_w_get hh) rfl rfl hd (kk _ _ _ _ hg rfl hP hS)
        · cases hv
      · exact hg.elim
  · rename_i k st2
    split at hg
    · have hsv : pe_v E (.retAddr 30) = .ref (pe_b E) := by unfold pe_v; rfl
      rw [pe_rest, hsv]
      subst hsc
      have hg : nx (.int (nI (pe_n E)) :: st2) h := hg
      exact va_slen hx hb henv.2.2.2.2.2.2.2.1 henv.2.2.2.2.2.2.2.2.2.1 (Nat.not_le.mpr henv.2.2.2.2.2.2.2.2.1) hS hd (kk _ _ _ _ hg rfl hP hS)
    · split at hg
      · rename_i z hz
        split at hg
        · rename_i hk
          obtain ⟨h2, h20, hlen, hby⟩ := pm_strs_spec hk hz
          have hk10 : 10 ≤ k := Nat.le_of_ble_eq_true hk
          have hsv : pe_v E (.retAddr k) = .ref (pe_aV E (k - 10)) := by unfold pe_v; dsimp only; rw [if_neg (by omega), if_pos (by omega)]
          rw [pe_rest, hsv]
          have hT := (henv.2.1.1 (k - 10) h2).2.2.2
          exact va_tlen hx hb hT hS (v := nI z.length) (by rw [hlen]; rfl) hd (kk _ _ _ _ hg rfl hP hS)
        · exact hg.elim
      · exact hg.elim
  · exact hg.elim
theorem pm_gdiv_ok (F : pm_Fx E M d p R s m args meth c) (hP : va_P (pe_D E) pm_cls (pe_w E h) H) (hS : va_S (pe_A E) s.heap H locs) {f : Int32 → Int32 → Int32} {ins : Instr} (hki : (f = (fun a b => a / b) ∧ ins = .idiv) ∨ (f = (fun a b => a - a / b * b) ∧ ins = .irem)) (hd : decode M.2.1 pc = .ok (ins, 1))
    (hg : pm_gdiv False pm_br f st h nx) (kk : pm_kk E p e R s m args below meth c QQ (pc + 1) ls h nx cells slots) : W p E.1 e R s m args below meth c H locs cells slots QQ (F0 m pc ls (st.map (pe_v E))) := by
  obtain ⟨hx, hb, hml, ho, hts, hlk, hr, hnm, hf1, hf2, henv⟩ := F
  unfold pm_gdiv at hg
  split at hg
  · obtain ⟨hin, hg⟩ := pm_in_of hg
    rcases hki with ⟨rfl, rfl⟩ | ⟨rfl, rfl⟩
    · exact lv_idiv hx hb hd hin (kk _ _ _ _ hg rfl hP hS)
    · exact lv_irem hx hb hd hin (kk _ _ _ _ hg rfl hP hS)
  · exact hg.elim
theorem pe_cs (hz : (pe_z E).category = 1) (st : List Value) : ((st.map (pe_v E)).map fun v => v.category).sum = pm_cs st := by
  rw [List.map_map]
  unfold pm_cs
  congr 1
  apply List.map_congr_left
  intro v _
  exact pe_v_cat hz v
theorem pm_gint_ok (F : pm_Fx E M d p R s m args meth c) (hown : M.1.cls = pm_cn.getD M.2.2.2.2.1 "") (hd1 : 1 ≤ d) (hP : va_P (pe_D E) pm_cls (pe_w E h) H) (hS : va_S (pe_A E) s.heap H locs) (hsz : c.maxLocals = ls.size) (hcl : cells ≤ R.cells) (hsl : slots ≤ R.slots) {k : Nat} (hd : decode M.2.1 pc = .ok (.invokestatic k, 3)) (hc : (M.2.2.2.2.1, k, x) ∈ pm_MI)
    (hg : pm_gint (pm_OH scr) False pm_br x st h nx) (kk : pm_kk E p e R s m args below meth c QQ (pc + 3) ls h nx cells slots) : W p E.1 e R s m args below meth c H locs cells slots QQ (F0 m pc ls (st.map (pe_v E))) := by
  obtain ⟨hx, hb, hml, ho, hts, hlk, hr, hnm, hf1, hf2, henv⟩ := F
  have hz := henv.zc
  have hlk2 := hts _ (pm_MI_ok _ hc)
  rw [hown] at ho
  unfold pm_gint at hg
  split at hg
  · split at hg
    · split at hg
      · rename_i hb8
        have hb8 := Nat.le_of_ble_eq_true hb8
        exact va_mmin hx hb hsz ho hlk2 (hts _ pm_w_min_s) (hts _ pm_w_math) (hts _ pm_w_min_c) (by omega) (by rw [pe_cs hz]; omega) hcl hsl hd (kk _ _ _ _ hg rfl hP hS)
      · exact hg.elim
    · exact hg.elim
  · split at hg
    · split at hg
      · rename_i hb8
        have hb8 := Nat.le_of_ble_eq_true hb8
        exact va_mmax hx hb hsz ho hlk2 (hts _ pm_w_max_s) (hts _ pm_w_math) (hts _ pm_w_max_c) (by omega) (by rw [pe_cs hz]; omega) hcl hsl hd (kk _ _ _ _ hg rfl hP hS)
      · exact hg.elim
    · exact hg.elim
  · split at hg
    · split at hg
      · rename_i hb8
        have hb8 := Nat.le_of_ble_eq_true hb8
        exact va_mabs hx hb hsz ho hlk2 (hts _ pm_w_abs_s) (hts _ pm_w_math) (hts _ pm_w_abs_c) (by omega) (by rw [pe_cs hz]; omega) hcl hsl hd (kk _ _ _ _ hg rfl hP hS)
      · exact hg.elim
    · exact hg.elim
  · split at hg
    · rename_i n dp q sp q0 st2
      split at hg
      · rename_i hb8
        have hb8 := Nat.le_of_ble_eq_true hb8
        split at hg
        · rename_i n0 f n1 g hv0 hv1
          dsimp only [pm_OH] at hv0 hv1
          split at hv0
          · rename_i hh0
            cases hv0
            split at hv1
            · rename_i hh1
              cases hv1
              obtain ⟨⟨h1, h2, h3, h4, h5⟩, hg⟩ := pm_in_of hg
              have hset : ∀ g' : Nat → Int32, (pm_OH scr).2.2.2.1 h q g' = h.set q (.inl (0, n1, .inl g')) := fun g' => by dsimp only [pm_OH]; rw [hh1]
              have hnf : nativeFrameWords "java/lang/System" "arraycopy" 5 = 7 := by decide +kernel
              exact va_copyi hx hb hsz ho hlk2 (hts _ pm_w_ac_n) (hts _ pm_w_ac_s) (hts _ pm_w_sys) henv.1 hP pe_w_D hS q0 q 0 0 (pe_w_get hh0) (pe_w_get hh1) rfl rfl rfl h1 h2 h3 h4 h5 (fun _ _ => rfl) (by omega) (by rw [pe_cs hz, hnf]; omega) hd (fun H1 locs1 hP1 _ hS1 => kk _ _ _ _ hg (by rw [hset]; simp) (by rw [hset, pe_w_set]; exact hP1) hS1)
            · cases hv1
          · cases hv0
        · exact hg.elim
      · exact hg.elim
    · exact hg.elim
  · exact hg.elim
end HP
