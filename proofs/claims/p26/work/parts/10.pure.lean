/-! SOUNDNESS, 2: the environment; instructions that touch neither heap nor control -/
def pm_kw : String := "pay bar when or and not coins age purse spot years here debtor creditor sunday "
def pm_sg : String := ";+-*/()<=>"
def pm_byt : List (List Int32) := pm_strs.map fun s => s.map nI
def pm_len : List Nat := pm_strs.map List.length
def pm_env (E : pm_E) (U : State) (H : Heap) : Prop :=
  va_K (pe_D E) pm_cls (pe_ty E) U ∧ vk_S 2 pm_len pm_byt (pe_aK E) (pe_aV E) (pe_A E) U H ∧ va_Z "java/lang/String" "COMPACT_STRINGS" "Z" (.int 1) (pe_A E) U H ∧ va_Z "jdk/internal/util/Preconditions" "SIOOBE_FORMATTER" "Ljava/util/function/BiFunction;" (pe_z E) (pe_A E) U H ∧ vk_R "PaidWhereMade$LawReader" 137 pm_kw (pe_aK E 0) U ∧ vk_R "PaidWhereMade$LawReader" 152 pm_sg (pe_aK E 1) U ∧ (∀ q ∈ pm_MN, va_Nw (pm_MN_w q) U) ∧ va_X (pe_b E) (pe_n E) (pe_x E) U H ∧ pe_b E < E.2.1 ∧ pe_b E < H.size ∧ (pe_z E = .null ∨ ∃ a, pe_z E = .ref a) ∧ E.2.1 ≤ H.size
theorem pm_env.zc {E : pm_E} {U : State} {H : Heap} (h : pm_env E U H) : (pe_z E).category = 1 := by
  obtain ⟨-, -, -, -, -, -, -, -, -, -, h, -⟩ := h
  rcases h with h | ⟨a, h⟩ <;> rw [h] <;> rfl
theorem pm_env.mv {E : pm_E} {s U : State} {H : Heap} (h : pm_env E s H) (hW : s.WarmedH U.vm) {H1 : Heap} (hz : H.size ≤ H1.size) (hq : ∀ a : Nat, a < H.size → ¬ pe_A E a → H1[a]? = H[a]?) : pm_env E U H1 := by
  obtain ⟨h1, h2, h3, h4, h5, h6, h7, h8, h9, h10, h11, h12⟩ := h
  refine ⟨va_K.moved hW.alike h1, (vk_S.moved hW.alike h2).kept hq, (va_Z.moved hW.alike h3).kept hq, (va_Z.moved hW.alike h4).kept hq, h5.warm hW, h6.warm hW, fun q hm => va_Nw.warmM hW (h7 q hm), (va_X.moved hW.alike h8).kept (hq _ h10 (Nat.not_le.mpr h9)), h9, Nat.lt_of_lt_of_le h10 hz, h11, Nat.le_trans h12 hz⟩
def pm_Fx (E : pm_E) (M : pm_M) (d : Nat) (p : Program) (R : Room) (s : State) (m : MethodId) (args : Array Value) (meth : Method) (c : Code) : Prop :=
  p.tables.exec = Jvm.exec ∧ c.code = M.2.1 ∧ c.maxLocals = M.2.2.1 ∧ s.vm.findClass M.1.cls = some m.cls ∧ (∀ w ∈ pm_big, w.before args s = true) ∧ meth.locks = false ∧ meth.sig.returnType = M.2.2.2.1 ∧ (M.1.name = "<init>" → meth.name = "<init>") ∧ d ≤ R.frames ∧ 64 * d ≤ R.locals ∧ pm_env E s s.heap
theorem pe_rest {E : pm_E} {st : List Value} {v : Value} : (v :: st).map (pe_v E) = pe_v E v :: st.map (pe_v E) := rfl
theorem pe_ra {E : pm_E} {k : Nat} (h : (Nat.ble k 19 || Nat.beq k 30) = true) : ∃ w, pe_v E (.retAddr k) = .ref w := by
  simp only [Bool.or_eq_true, Nat.ble_eq, Nat.beq_eq] at h
  unfold pe_v
  dsimp only
  split
  · exact ⟨_, rfl⟩
  · split
    · exact ⟨_, rfl⟩
    · rw [if_pos (by omega)]; exact ⟨_, rfl⟩
section PU
variable {E : pm_E} {M : pm_M} {d : Nat} {p : Program} {e : Env} {R : Room} {s : State} {m : MethodId} {args : Array Value} {below : List Frame} {meth : Method} {c : Code} {H : Heap} {locs : List Loc} {cells slots : Nat} {QQ : State → Prop}
/-- what the check says of the operands of a pure instruction -/
def pm_pchk (M : pm_M) (ins : Instr) (len x y : Nat) : Prop := match ins with
  | .ldc k => len = 2 ∧ ((y = 7 ∧ M.2.2.2.2.1 = 2 ∧ ((x = 0 ∧ k = 137) ∨ (x = 1 ∧ k = 152))) ∨ (y ≠ 7 ∧ (M.2.2.2.2.1, k, x) ∈ pm_CL))
  | .ldc_w k => len = 3 ∧ (M.2.2.2.2.1, k, x) ∈ pm_CL
  | .ldc2_w k => len = 3 ∧ (M.2.2.2.2.1, k, x, y) ∈ pm_NL ∧ y < 2
  | .getstatic k => len = 3 ∧ (M.2.2.2.2.1, k, x) ∈ pm_GL
  | .iconst n => len = 1 ∧ Int32.ofInt n = pm_iv x y
  | .bipush n => len = 2 ∧ (Int8.ofInt n).toInt32 = pm_iv x y
  | .sipush n => len = 3 ∧ (Int16.ofInt n).toInt32 = pm_iv x y
  | .lconst n => len = 1 ∧ Int64.ofNat n.val = pm_lv x y
  | .aload _ | .iload _ | .lload _ | .astore _ | .istore _ | .lstore _ => len = 2
  | .iinc _ _ => len = 3
  | _ => len = 1
set_option maxHeartbeats 4000000 in
theorem pm_pu_ok (F : pm_Fx E M d p R s m args meth c) (hown : M.1.cls = pm_cn.getD M.2.2.2.2.1 "") (hS : va_S (pe_A E) s.heap H locs) {pc len x y n : Nat} {ins : Instr} {L L1 st st1 : List Value} {ls : Array Slot}
    (hd : decode M.2.1 pc = .ok (ins, len)) (hc : pm_pchk M ins len x y) (hpu : pm_pu ins x y L st = some (L1, st1)) (hl : lv_has ls n (pe_ls E L)) (hn : L.length = n)
    (kk : ∀ ls' : Array Slot, L1.length = n → lv_has ls' n (pe_ls E L1) → W p E.1 e R s m args below meth c H locs cells slots QQ (F0 m (pc + len) ls' (st1.map (pe_v E)))) : W p E.1 e R s m args below meth c H locs cells slots QQ (F0 m pc ls (st.map (pe_v E))) := by
  obtain ⟨hx, hb, hml, ho, hts, hlk, hr, hnm, hf1, hf2, henv⟩ := F
  have hz := henv.zc
  unfold pm_pu at hpu
  split at hpu
  · cases hpu; obtain ⟨rfl, h2⟩ := hc; exact lv_iconst hx hb hd h2 (kk ls hn hl)
  · cases hpu; obtain ⟨rfl, h2⟩ := hc; exact lv_bipush hx hb hd h2 (kk ls hn hl)
  · cases hpu; obtain ⟨rfl, h2⟩ := hc; exact lv_sipush hx hb hd h2 (kk ls hn hl)
  · cases hpu; obtain ⟨rfl, h2⟩ := hc; exact lv_lconst hx hb hd h2 (kk ls hn hl)
  · obtain ⟨rfl, h2⟩ := hc
    split at hpu
    · cases hpu
      rcases h2 with ⟨-, hw, ⟨rfl, rfl⟩ | ⟨rfl, rfl⟩⟩ | ⟨h2, -⟩
      · exact va_ldcS hx hb (own := "PaidWhereMade$LawReader") (by rw [← ho, hown, hw]; rfl) henv.2.2.2.2.1 hd (kk ls hn hl)
      · exact va_ldcS hx hb (own := "PaidWhereMade$LawReader") (by rw [← ho, hown, hw]; rfl) henv.2.2.2.2.2.1 hd (kk ls hn hl)
      · exact absurd rfl h2
    · cases hpu
      rcases h2 with ⟨h2, -⟩ | ⟨-, h2⟩
      · rename_i hy; exact absurd h2 hy
      · exact lv_ldc hx hb ho (by rw [hown]; exact hts _ (pm_CL_ok _ h2)) hd (kk ls hn hl)
  · cases hpu; obtain ⟨rfl, h2⟩ := hc
    exact lv_ldcw hx hb ho (by rw [hown]; exact hts _ (pm_CL_ok _ h2)) hd (kk ls hn hl)
  · cases hpu; obtain ⟨rfl, h2, hy⟩ := hc
    refine lv_ldc2 hx hb ho (v := pm_lv x y) ?_ hd (kk ls hn hl)
    rw [hown]
    have h3 := hts _ (pm_NL_ok _ h2)
    rcases (show y = 0 ∨ y = 1 by omega) with rfl | rfl <;> exact h3
  · obtain ⟨rfl, h2⟩ := hc
    have h3 := hts _ (pm_GL_ok _ h2)
    split at hpu
    · cases hpu
      exact va_gets (C := "java/lang/String") (ref := "java/lang/String") hx hb henv.2.2.1 hS ho (by rw [hown]; exact h3) (fun _ h => h) hd (kk ls hn hl)
    · cases hpu
      rename_i hx0
      refine va_gets (C := "jdk/internal/util/Preconditions") (ref := "jdk/internal/util/Preconditions") hx hb henv.2.2.2.1 hS ho ?_ (fun _ h => h) hd (kk ls hn hl)
      rw [hown]
      unfold pm_GL_w at h3
      split at h3
      · rename_i e; exact absurd e hx0
      · exact h3
  · unfold pm_ldi at hpu; split at hpu
    · rename_i h2; cases hpu; cases hc; exact lv_iload_n hx hb hd rfl (pe_load hl h2 (by intro q; cases q)) (kk ls hn hl)
    · cases hpu
  · unfold pm_ldi at hpu; split at hpu
    · rename_i h2; cases hpu; cases hc; exact lv_iload hx hb hd (pe_load hl h2 (by intro q; cases q)) (kk ls hn hl)
    · cases hpu
  · unfold pm_ldl at hpu; split at hpu
    · rename_i h2; cases hpu; cases hc; exact lv_lload_n hx hb hd rfl (pe_load hl h2 (by intro q; cases q)) (kk ls hn hl)
    · cases hpu
  · unfold pm_ldl at hpu; split at hpu
    · rename_i h2; cases hpu; cases hc; exact lv_lload hx hb hd (pe_load hl h2 (by intro q; cases q)) (kk ls hn hl)
    · cases hpu
  · unfold pm_lda at hpu; split at hpu
    · rename_i h2; cases hpu; cases hc; exact lv_aload_n hx hb hd rfl (pe_load hl h2 (by intro q; cases q)) (kk ls hn hl)
    · rename_i k9 h2
      split at hpu
      · rename_i hk
        cases hpu; cases hc
        obtain ⟨w, hw⟩ := pe_ra (E := E) hk
        have h3 := pe_load hl h2 (by rintro q; cases q; revert hk; decide)
        rw [hw] at h3
        refine lv_aload_n hx hb hd rfl h3 ?_
        have h4 := kk ls hn hl
        rw [pe_rest, hw] at h4
        exact h4
      · cases hpu
    · cases hpu
  · unfold pm_lda at hpu; split at hpu
    · rename_i h2; cases hpu; cases hc; exact lv_aload hx hb hd (pe_load hl h2 (by intro q; cases q)) (kk ls hn hl)
    · rename_i k9 h2
      split at hpu
      · rename_i hk
        cases hpu; cases hc
        obtain ⟨w, hw⟩ := pe_ra (E := E) hk
        have h3 := pe_load hl h2 (by rintro q; cases q; revert hk; decide)
        rw [hw] at h3
        refine lv_aload hx hb hd h3 ?_
        have h4 := kk ls hn hl
        rw [pe_rest, hw] at h4
        exact h4
      · cases hpu
    · cases hpu
  · unfold pm_sti at hpu; split at hpu
    · split at hpu
      · rename_i h2; cases hpu; cases hc
        exact lv_istore_n hx hb hd rfl hl (by rw [← hn]; exact (pm_s1_spec h2).1) rfl (fun ls' hl' => kk ls' (by rw [pm_s1_len h2, hn]) (pe_store1 hz h2 rfl hl'))
      · cases hpu
    · cases hpu
  · unfold pm_sti at hpu; split at hpu
    · split at hpu
      · rename_i h2; cases hpu; cases hc
        exact lv_istore hx hb hd hl (by rw [← hn]; exact (pm_s1_spec h2).1) rfl (fun ls' hl' => kk ls' (by rw [pm_s1_len h2, hn]) (pe_store1 hz h2 rfl hl'))
      · cases hpu
    · cases hpu
  · unfold pm_stl at hpu; split at hpu
    · split at hpu
      · rename_i h2; cases hpu; cases hc
        exact lv_lstore_n hx hb hd rfl hl (by rw [← hn]; exact (pm_s2_len h2).2) rfl (fun ls' hl' => kk ls' (by rw [(pm_s2_len h2).1, hn]) (pe_store2 hz h2 hl'))
      · cases hpu
    · cases hpu
  · unfold pm_stl at hpu; split at hpu
    · split at hpu
      · rename_i h2; cases hpu; cases hc
        exact lv_lstore hx hb hd hl (by rw [← hn]; exact (pm_s2_len h2).2) rfl (fun ls' hl' => kk ls' (by rw [(pm_s2_len h2).1, hn]) (pe_store2 hz h2 hl'))
      · cases hpu
    · cases hpu
  · unfold pm_sta at hpu; split at hpu
    · split at hpu
      · rename_i h2; cases hpu; cases hc
        exact lv_astore_n hx hb hd rfl hl (by rw [← hn]; exact (pm_s1_spec h2).1) rfl (fun ls' hl' => kk ls' (by rw [pm_s1_len h2, hn]) (pe_store1 hz h2 rfl hl'))
      · cases hpu
    · cases hpu
  · unfold pm_sta at hpu; split at hpu
    · split at hpu
      · rename_i h2; cases hpu; cases hc
        exact lv_astore hx hb hd hl (by rw [← hn]; exact (pm_s1_spec h2).1) rfl (fun ls' hl' => kk ls' (by rw [pm_s1_len h2, hn]) (pe_store1 hz h2 rfl hl'))
      · cases hpu
    · cases hpu
  · unfold pm_iinc at hpu; split at hpu
    · rename_i h1
      split at hpu
      · rename_i h2; cases hpu; cases hc
        have hm : (_, Value.int _) ∈ pe_ls E L := pe_ls_mem.mpr ⟨_, (by rw [← pm_nth_eq]; exact h1), (by intro q; cases q), rfl⟩
        obtain ⟨j, hj⟩ := List.getElem?_of_mem hm
        exact lv_iinc hx hb hd hl hj rfl (by rw [← hn]; exact (pm_s1_spec h2).1) rfl (fun ls' hl' => kk ls' (by rw [pm_s1_len h2, hn]) (pe_store1 hz h2 rfl hl'))
      · cases hpu
    · cases hpu
  · unfold pm_i2 at hpu; split at hpu
    · cases hpu; cases hc; exact lv_iadd hx hb hd (kk ls hn hl)
    · cases hpu
  · unfold pm_i2 at hpu; split at hpu
    · cases hpu; cases hc; exact lv_isub hx hb hd (kk ls hn hl)
    · cases hpu
  · unfold pm_i2 at hpu; split at hpu
    · cases hpu; cases hc; exact lv_imul hx hb hd (kk ls hn hl)
    · cases hpu
  · unfold pm_i2 at hpu; split at hpu
    · cases hpu; cases hc; exact lv_iand hx hb hd (kk ls hn hl)
    · cases hpu
  · unfold pm_i2 at hpu; split at hpu
    · cases hpu; cases hc; exact lv_ior hx hb hd (kk ls hn hl)
    · cases hpu
  · unfold pm_i2 at hpu; split at hpu
    · cases hpu; cases hc; exact lv_ixor hx hb hd (kk ls hn hl)
    · cases hpu
  · unfold pm_i2 at hpu; split at hpu
    · cases hpu; cases hc; exact lv_ishl hx hb hd (kk ls hn hl)
    · cases hpu
  · unfold pm_i2 at hpu; split at hpu
    · cases hpu; cases hc; exact lv_ishr hx hb hd (kk ls hn hl)
    · cases hpu
  · unfold pm_i2 at hpu; split at hpu
    · cases hpu; cases hc; exact lv_iushr hx hb hd rfl (kk ls hn hl)
    · cases hpu
  · split at hpu
    · cases hpu; cases hc; exact lv_ineg hx hb hd (kk ls hn hl)
    · cases hpu
  · unfold pm_l2 at hpu; split at hpu
    · cases hpu; cases hc; exact lv_ladd hx hb hd (kk ls hn hl)
    · cases hpu
  · unfold pm_l2 at hpu; split at hpu
    · cases hpu; cases hc; exact lv_lsub hx hb hd (kk ls hn hl)
    · cases hpu
  · unfold pm_l2 at hpu; split at hpu
    · cases hpu; cases hc; exact lv_lmul hx hb hd (kk ls hn hl)
    · cases hpu
  · unfold pm_l2 at hpu; split at hpu
    · cases hpu; cases hc; exact lv_land hx hb hd (kk ls hn hl)
    · cases hpu
  · unfold pm_l2 at hpu; split at hpu
    · cases hpu; cases hc; exact lv_lor hx hb hd (kk ls hn hl)
    · cases hpu
  · unfold pm_lsh at hpu; split at hpu
    · cases hpu; cases hc; exact lv_lshl hx hb hd rfl (kk ls hn hl)
    · cases hpu
  · unfold pm_lsh at hpu; split at hpu
    · cases hpu; cases hc; exact lv_lshr hx hb hd rfl (kk ls hn hl)
    · cases hpu
  · split at hpu
    · cases hpu; cases hc; exact W.lcmp hx hb hd (kk ls hn hl)
    · cases hpu
  · split at hpu
    · cases hpu; cases hc; exact lv_i2l hx hb hd rfl (kk ls hn hl)
    · cases hpu
  · split at hpu
    · cases hpu; cases hc; exact lv_i2c hx hb hd rfl (kk ls hn hl)
    · cases hpu
  · split at hpu
    · cases hpu; cases hc; exact lv_dup hx hb hd rfl (kk ls hn hl)
    · cases hpu; cases hc; exact lv_dup hx hb hd rfl (kk ls hn hl)
    · cases hpu
  · split at hpu
    · cases hpu; cases hc; exact lv_dup2_11 hx hb hd rfl rfl (kk ls hn hl)
    · cases hpu
  · split at hpu
    · cases hpu; cases hc; exact lv_pop hx hb hd rfl (kk ls hn hl)
    · cases hpu
  · split at hpu
    · cases hpu; cases hc; exact lv_pop2_2 hx hb hd rfl (kk ls hn hl)
    · cases hpu
  · cases hpu
end PU
