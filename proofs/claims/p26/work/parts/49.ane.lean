/-! THE ANALYSER, 10: a method's summary out of its check -/
def an_A0 : an_A := (0, [], [], [], [])
def an_init : List an_P → an_A → (List an_V → an_A → Bool) → Bool
  | [], A, k => k [] A
  | q :: qs, A, k => match q.1 with
    | 1 => an_new A q.2.2.1 q.2.2.2 (fun A v => an_init qs A (fun L A => k (v :: L) A))
    | 2 => an_init qs A (fun L A => k ((2, q.2.1, 0) :: L) A)
    | 3 => an_init qs A (fun L A => k ((3, q.2.1, 0) :: L) A)
    | 4 => an_init qs A (fun L A => k ((4, 0, 0) :: L) A)
    | 5 => an_init qs A (fun L A => k ((5, 0, 0) :: L) A)
    | 7 => an_new A q.2.2.1 q.2.2.2 (fun A v => match an_rnz A v 0 with
      | some A => an_init qs A (fun L A => k (v :: L) A)
      | none => true)
    | _ => an_init qs A (fun L A => k ((6, 0, 0) :: L) A)
def an_finS (B : an_B) (e : an_S) (r : Option an_V) (A : an_A) : Bool := (match e.2.2.2.2.1.1, r with
  | 0, none => true
  | 0, some _ => false
  | 1, some v => an_in A v e.2.2.2.2.1.2.1 e.2.2.2.2.1.2.2
  | 1, none => false
  | _, some v => Nat.beq v.1 4
  | _, none => false) && an_cels B A e.2.2.2.2.2.2
def an_chkE (B : an_B) (T : List Nat) (S : List an_S) (H : List an_H) (e : an_S) (M : pm_M) (f d0 : Nat) : Bool :=
  an_init e.2.2.1 an_A0 (fun As A => an_ac M.2.2.1 As && an_pcs e.2.2.2.1 A (fun A => an_run B e.2.2.2.2.2.1 T S H none (an_finS B e) f d0 e.1 M.2.2.2.2.2 M.2.2.2.1 [] 0 (an_L0 M.2.2.1 As) [] A))
def an_chkH (B : an_B) (T : List Nat) (S : List an_S) (H : List an_H) (e : an_S) (M : pm_M) (f d0 : Nat) (hd : an_H) : Bool :=
  Nat.beq hd.2.2.2.1.length 4 && an_init hd.2.1 an_A0 (fun L A => an_pcs hd.2.2.1 A (fun A => an_rls hd.2.2.2.2 L A (fun A => match an_ms L A.2.2.2.2 hd.2.2.2.1 with
    | none => false
    | some μ => an_run B e.2.2.2.2.2.1 T S H (some μ) (an_finS B e) f d0 e.1 M.2.2.2.2.2 M.2.2.2.1 [] hd.1 L [] A)))
def an_chk (B : an_B) (T : List Nat) (S : List an_S) (H : List an_H) (e : an_S) (f : Nat) : Bool := match e.2.1 with
  | 0 => false
  | d0 + 1 => match pm_nth pm_tab e.1 with
    | none => false
    | some M => an_chkE B T S H e M f d0 && H.all (fun hd => an_chkH B T S H e M f d0 hd)
section ENT
variable {B : an_B} {F : List (Nat × Nat)} {σ0 : pm_S}
theorem an_A0_ok (hB : an_GB B σ0) {σ : pm_S} (hB' : an_GB B σ) (hf : ∀ p j, an_inF F p j = false → σ.1 p j = σ0.1 p j) (ρ : Nat → Int) : an_ok B F σ0 ρ an_A0 σ := ⟨fun q hq => absurd hq List.not_mem_nil, fun q hq => absurd hq List.not_mem_nil, fun q hq => absurd hq List.not_mem_nil, fun q hq => absurd hq List.not_mem_nil, hB', hf⟩
theorem an_init_ok {σ : pm_S} : ∀ {qs : List an_P} {vs : List Value} {ρ : Nat → Int} {A : an_A} {k : List an_V → an_A → Bool}, an_ok B F σ0 ρ A σ → an_sargs vs qs → an_init qs A k = true → ∃ ρ' A' L, an_ok B F σ0 ρ' A' σ ∧ an_ext ρ ρ' A.1 ∧ A.1 ≤ A'.1 ∧ an_ls A'.1 ρ' vs L ∧ k L A' = true
  | [], [], ρ, A, k, h, _, hk => ⟨ρ, A, [], h, an_ext_rf _ _, Nat.le_refl _, trivial, hk⟩
  | [], _ :: _, ρ, A, k, h, hv, hk => hv.elim
  | _ :: _, [], ρ, A, k, h, hv, hk => hv.elim
  | q :: qs, v :: vs, ρ, A, k, h, hv, hk => by
    have h1 := hv.1
    unfold an_sarg at h1
    unfold an_init at hk
    split at hk
    · rename_i e0
      rw [e0] at h1
      obtain ⟨w, e, b1, b2⟩ := h1
      obtain ⟨ρ', A', a, g1, g2, g3, g4, g5, -⟩ := an_new_ok h hk b1 b2
      obtain ⟨ρ2, A2, L, k1, k2, k3, k4, k5⟩ := an_init_ok (qs := qs) g1 hv.2 g5
      exact ⟨ρ2, A2, a :: L, k1, an_ext_tr g2 k2 g3, Nat.le_trans g3 k3, an_ls_c (by rw [e]; exact an_cv_of (an_w_x g4 k2 k3)) k4, k5⟩
    · rename_i e0
      rw [e0] at h1
      have h1' : v = .ref q.2.1 := h1
      obtain ⟨ρ2, A2, L, k1, k2, k3, k4, k5⟩ := an_init_ok (qs := qs) h hv.2 hk
      exact ⟨ρ2, A2, _ :: L, k1, k2, k3, an_ls_c (by rw [h1']; exact an_cv2 _ _) k4, k5⟩
    · rename_i e0
      rw [e0] at h1
      have h1' : v = .retAddr q.2.1 := h1
      obtain ⟨ρ2, A2, L, k1, k2, k3, k4, k5⟩ := an_init_ok (qs := qs) h hv.2 hk
      exact ⟨ρ2, A2, _ :: L, k1, k2, k3, an_ls_c (by rw [h1']; exact an_cv3 _ _) k4, k5⟩
    · rename_i e0
      rw [e0] at h1
      obtain ⟨ρ2, A2, L, k1, k2, k3, k4, k5⟩ := an_init_ok (qs := qs) h hv.2 hk
      obtain ⟨w, e⟩ := h1
      exact ⟨ρ2, A2, _ :: L, k1, k2, k3, an_ls_c (by rw [e]; exact an_cv4 _) k4, k5⟩
    · rename_i e0
      rw [e0] at h1
      have h1' : v.category = 1 := h1
      obtain ⟨ρ2, A2, L, k1, k2, k3, k4, k5⟩ := an_init_ok (qs := qs) h hv.2 hk
      exact ⟨ρ2, A2, (5, 0, 0) :: L, k1, k2, k3, an_ls_c (show an_cv A2.1 ρ2 v (5, 0, 0) from h1') k4, k5⟩
    · rename_i e0
      rw [e0] at h1
      obtain ⟨w, e, b1, b2, b3⟩ := h1
      obtain ⟨ρ', A', a, g1, g2, g3, g4, g5, -⟩ := an_new_ok h hk b1 b2
      obtain ⟨A3, r1, r2, r3⟩ := an_rnz_ok g1 g4 (z := 0) (fun z => b3 (Int32.toInt_inj.mp z))
      rw [r1] at g5
      obtain ⟨ρ2, A2, L, k1, k2, k3, k4, k5⟩ := an_init_ok (qs := qs) r2 hv.2 g5
      rw [r3] at k2 k3
      exact ⟨ρ2, A2, a :: L, k1, an_ext_tr g2 k2 g3, Nat.le_trans g3 k3, an_ls_c (by rw [e]; exact an_cv_of (an_w_x g4 k2 k3)) k4, k5⟩
    · obtain ⟨ρ2, A2, L, k1, k2, k3, k4, k5⟩ := an_init_ok (qs := qs) h hv.2 hk
      exact ⟨ρ2, A2, (6, 0, 0) :: L, k1, k2, k3, an_ls_c (show an_cv A2.1 ρ2 v (6, 0, 0) from trivial) k4, k5⟩
theorem an_mvs_x {ρ ρ' : Nat → Int} {n : Nat} (h : an_ext ρ ρ' n) : ∀ {ms : List an_M}, (∀ x ∈ ms, an_mvl n x) → an_mvs ρ' ms = an_mvs ρ ms
  | [], _ => rfl
  | m :: ms, hv => by
    show an_mval ρ' m :: an_mvs ρ' ms = an_mval ρ m :: an_mvs ρ ms
    rw [an_mvs_x h (fun x hx => hv x (List.mem_cons_of_mem _ hx))]
    refine congrArg (fun z => z :: an_mvs ρ ms) ?_
    rcases hv m List.mem_cons_self with e | e
    · unfold an_mval; rw [e]; rfl
    · unfold an_mval; rw [an_ev_x h e.2]
theorem an_mcs_len (σ : pm_S) (Lc : List Value) : ∀ (ms : List (Nat × Nat × Int)), (an_mcs σ Lc ms).length = ms.length
  | [] => rfl
  | _ :: ms => by show (an_mcs σ Lc ms).length + 1 = ms.length + 1; rw [an_mcs_len σ Lc ms]
/-- a method's check gives its summary -/
theorem an_sum {T : List Nat} {S : List an_S} {H : List an_H} {e : an_S} {f : Nat} (hS : ∀ e ∈ S, an_sok B e) (hk : an_chk B T S H e f = true) : an_sok B e := by
  unfold an_chk at hk
  split at hk
  · cases hk
  · rename_i d0 ed
    split at hk
    · cases hk
    · rename_i M hM
      rw [Bool.and_eq_true] at hk
      obtain ⟨hE, hH⟩ := hk
      intro σ0 As0 hB hA hC
      let Q : Option Value → pm_S → Prop := fun r τ => an_GB B τ ∧ an_spost r e.2.2.2.2.1 ∧ (∀ p j, an_inF e.2.2.2.2.2.1 p j = false → τ.1 p j = σ0.1 p j) ∧ an_scel τ e.2.2.2.2.2.2
      have hM' : pm_tab[e.1]? = some M := by rw [← pm_nth_eq]; exact hM
      have hfin : ∀ ρ0 n0 ρ A σ r rc, an_ok B e.2.2.2.2.2.1 σ0 ρ A σ → an_ext ρ0 ρ n0 → n0 ≤ A.1 → an_ro A.1 ρ rc r → an_finS B e r A = true → Q rc σ := by
        intro ρ0 n0 ρ A σ r rc h _ _ hr hk
        unfold an_finS at hk
        rw [Bool.and_eq_true] at hk
        refine ⟨h.2.2.2.2.1, ?_, h.2.2.2.2.2, an_cels_ok h hk.2⟩
        have h2 := hk.1
        unfold an_spost
        split at h2
        · rename_i e0
          rw [e0]
          cases rc with
          | none => rfl
          | some v => exact hr.elim
        · cases h2
        · rename_i v e0
          rw [e0]
          cases rc with
          | none => exact hr.elim
          | some v =>
            obtain ⟨w, ew, -, b1, b2⟩ := an_in_ok h h2 hr
            exact ⟨w, by rw [ew], b1, b2⟩
        · cases h2
        · rename_i v g1 g2
          cases rc with
          | none => exact hr.elim
          | some v =>
            obtain ⟨w, ew⟩ := an_cv_long hr (Nat.eq_of_beq_eq_true h2)
            split
            · rename_i q; exact absurd q g1
            · rename_i q; exact absurd q g2
            · exact ⟨w, by rw [ew]⟩
        · cases h2
      have heads : ∀ xs : List Nat, xs.length = 4 → ∀ hd ∈ H, ∀ (σ : pm_S) (Lc : List Value), an_GB B σ → (∀ p j, an_inF e.2.2.2.2.2.1 p j = false → σ.1 p j = σ0.1 p j) → an_sargs Lc hd.2.1 → an_scel σ hd.2.2.1 → (∀ r ∈ hd.2.2.2.2, an_srel σ Lc r) → an_mcs σ Lc hd.2.2.2.1 = xs → Ok e.1 (d0 + 1) hd.1 Lc [] σ Q := by
        refine an_lex_wf 4 (fun xs hx ih => ?_)
        intro hd hhd σ Lc g1 g2 g3 g4 g6 g5
        have hk := List.all_eq_true.mp hH hd hhd
        unfold an_chkH at hk
        rw [Bool.and_eq_true] at hk
        obtain ⟨ρ1, A1, L, k1, k2, k3, k4, k5⟩ := an_init_ok (an_A0_ok hB g1 g2 (fun _ => 0)) g3 hk.2
        obtain ⟨ρ2, A3, m1, m2, m3, m4⟩ := an_pcs_ok k1 g4 k5
        have hL3 : an_ls A3.1 ρ2 Lc L := an_ls_x m2 m3 k4
        obtain ⟨A2, m1, mn, m4⟩ := an_rls_ok m1 hL3 g6 m4
        have hL2 : an_ls A2.1 ρ2 Lc L := by rw [mn]; exact hL3
        split at m4
        · cases m4
        · rename_i μ hμ
          obtain ⟨v1, v2, v3⟩ := an_ms_ok m1 hL2 hμ
          have run := an_run_ok (k0 := e.1) (d0 := d0) (n0 := A2.1) (ρ0 := ρ2) (σ0 := σ0) (Q := Q) hS (hfin ρ2 A2.1) (fun hd' hhd' ρ A σ' L' st' Lc' stc' q1 qx qn q2 q3 q4 => ?_) f d0 e.1 M [] [] hd.1 L [] A2 ρ2 σ Lc [] hM ⟨rfl, rfl⟩ m1 (an_ext_rf _ _) (Nat.le_refl _) hL2 trivial trivial m4
          · exact run
          · unfold an_cut at q4
            split at q4
            · rw [Bool.and_eq_true, Bool.and_eq_true, Bool.and_eq_true] at q4
              obtain ⟨⟨⟨c1, c2⟩, c4⟩, c3⟩ := q4
              dsimp only at c3
              split at c3
              · cases c3
              · rename_i new hnew
                obtain ⟨w1, w2, w3⟩ := an_ms_ok q1 q2 hnew
                have hlen := List.all_eq_true.mp hH hd' hhd'
                unfold an_chkH at hlen
                rw [Bool.and_eq_true] at hlen
                have hlex := an_lex_ok q1 w2 w3 (ys := μ) (fun y hy => by
                  rcases v2 y hy with z | z
                  · exact Or.inl z
                  · exact Or.inr ⟨z.1, an_vl_x z.2 qn⟩) (fun y hy => by
                  rcases v3 y hy with z | ⟨w, z⟩
                  · exact Or.inl z
                  · rcases v2 y hy with z2 | z2
                    · exact Or.inl z2
                    · exact Or.inr ⟨w, by rw [an_ev_x qx z2.2]; exact z⟩) c3
                rw [an_mvs_x qx v2, ← v1, ← w1, g5] at hlex
                match stc', q3 with
                | [], q3 => exact ih (an_mcs σ' Lc' hd'.2.2.2.1) (by rw [an_mcs_len]; exact Nat.eq_of_beq_eq_true hlen.1) hlex hd' hhd' σ' Lc' q1.2.2.2.2.1 q1.2.2.2.2.2 (an_args_ok q1 q2 c1) (an_cels_ok q1 c2) (fun r hr => an_crl_ok q1 q2 (List.all_eq_true.mp c4 r hr)) rfl
                | _ :: _, q3 => exact q3.elim
            · cases q4
      unfold an_chkE at hE
      obtain ⟨ρ1, A1, L, k1, k2, k3, k4, k5⟩ := an_init_ok (an_A0_ok (F := e.2.2.2.2.2.1) hB hB (fun _ _ _ => rfl) (fun _ => 0)) hA hE
      rw [Bool.and_eq_true] at k5
      obtain ⟨ρ2, A2, m1, m2, m3, m4⟩ := an_pcs_ok k1 hC k5.2
      have hL2 : an_ls A2.1 ρ2 As0 L := an_ls_x m2 m3 k4
      rw [ed]
      refine Sp.of hM' (an_ac_ok k4 k5.1) ?_
      have hL0 : an_ls A2.1 ρ2 (pm_L0 M.2.2.1 As0) (an_L0 M.2.2.1 L) := by
        unfold pm_L0 an_L0
        rw [an_ls_len hL2]
        exact an_L0_ok hL2
      have run := an_run_ok (k0 := e.1) (d0 := d0) (n0 := A2.1) (ρ0 := ρ2) (σ0 := σ0) (Q := Q) hS (hfin ρ2 A2.1) (fun hd' hhd' ρ A σ' L' st' Lc' stc' q1 qx qn q2 q3 q4 => ?_) f d0 e.1 M [] [] 0 _ [] A2 ρ2 σ0 _ [] hM ⟨rfl, rfl⟩ m1 (an_ext_rf _ _) (Nat.le_refl _) hL0 trivial trivial m4
      · exact run
      · unfold an_cut at q4
        split at q4
        · rw [Bool.and_eq_true, Bool.and_eq_true, Bool.and_eq_true] at q4
          obtain ⟨⟨⟨c1, c2⟩, c4⟩, -⟩ := q4
          have hlen := List.all_eq_true.mp hH hd' hhd'
          unfold an_chkH at hlen
          rw [Bool.and_eq_true] at hlen
          match stc', q3 with
          | [], q3 => exact heads (an_mcs σ' Lc' hd'.2.2.2.1) (by rw [an_mcs_len]; exact Nat.eq_of_beq_eq_true hlen.1) hd' hhd' σ' Lc' q1.2.2.2.2.1 q1.2.2.2.2.2 (an_args_ok q1 q2 c1) (an_cels_ok q1 c2) (fun r hr => an_crl_ok q1 q2 (List.all_eq_true.mp c4 r hr)) rfl
          | _ :: _, q3 => exact q3.elim
        · cases q4
end ENT
