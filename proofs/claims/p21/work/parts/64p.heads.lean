/-! heads of loops as contracts, with exits -/
def an_chkHX (B : an_B) (T : List Nat) (S : List an_S) (H HX : List an_H) (e : an_S) (M : pm_M) (f d0 : Nat) : Bool := H.all (fun hd => an_chkH B T S (H ++ HX) e M f d0 hd) && HX.all (fun hd => Nat.beq hd.2.2.2.1.length 4)
def an_chkX (B : an_B) (T : List Nat) (S : List an_S) (H HX : List an_H) (e : an_S) (f d0 : Nat) : Bool := match pm_nth pm_tab e.1 with
  | none => false
  | some M => an_chkHX B T S H HX e M f d0
theorem an_hdX0 {B : an_B} {P : pm_S → Prop} {T : List Nat} {S : List an_S} {H HX : List an_H} {e : an_S} {M : pm_M} {f d0 : Nat} (hP : ∀ σ τ : pm_S, (∀ p j, an_inF e.2.2.2.2.2.1 p j = false → τ.1 p j = σ.1 p j) → P σ → P τ) (hS0 : ∀ e ∈ S, an_sokP P B e) (hM : pm_nth pm_tab e.1 = some M) (hk : an_chkHX B T S H HX e M f d0 = true) {σ0 : pm_S} (hB : an_GB B σ0) (hP0 : P σ0) {Q : Option Value → pm_S → Prop}
    (hQ : ∀ r τ, an_GB B τ → an_spost r e.2.2.2.2.1 → (∀ p j, an_inF e.2.2.2.2.2.1 p j = false → τ.1 p j = σ0.1 p j) → Q r τ)
    (hX : ∀ hd ∈ HX, ∀ (σ : pm_S) (Lc : List Value), an_GB B σ → (∀ p j, an_inF e.2.2.2.2.2.1 p j = false → σ.1 p j = σ0.1 p j) → an_sargs Lc hd.2.1 → an_scel σ hd.2.2.1 → (∀ r ∈ hd.2.2.2.2, an_srel σ Lc r) → Ok e.1 (d0 + 1) hd.1 Lc [] σ Q) :
    ∀ hd ∈ H, ∀ (σ : pm_S) (Lc : List Value), an_GB B σ → (∀ p j, an_inF e.2.2.2.2.2.1 p j = false → σ.1 p j = σ0.1 p j) → an_sargs Lc hd.2.1 → an_scel σ hd.2.2.1 → (∀ r ∈ hd.2.2.2.2, an_srel σ Lc r) → Ok e.1 (d0 + 1) hd.1 Lc [] σ Q := by
  unfold an_chkHX at hk
  rw [Bool.and_eq_true] at hk
  obtain ⟨hH, hHX⟩ := hk
  have hS : ∀ e' ∈ S, ∀ σ : pm_S, (∀ p j, an_inF e.2.2.2.2.2.1 p j = false → σ.1 p j = σ0.1 p j) → an_sokA B e' σ := fun e' he σ hf As g1 g2 g3 => hS0 e' he σ As g1 (hP σ0 σ hf hP0) g2 g3
  have hM' : pm_tab[e.1]? = some M := by rw [← pm_nth_eq]; exact hM
  have hfin : ∀ ρ0 n0 ρ A σ r rc, an_ok B e.2.2.2.2.2.1 σ0 ρ A σ → an_ext ρ0 ρ n0 → n0 ≤ A.1 → an_ro A.1 ρ rc r → an_finS B e r A = true → Q rc σ := by
    intro ρ0 n0 ρ A σ r rc h _ _ hr hk
    unfold an_finS at hk
    rw [Bool.and_eq_true] at hk
    refine hQ rc σ h.2.2.2.2.1 ?_ h.2.2.2.2.2
    have h2 := hk.1
    unfold an_spost
    split at h2
    · rename_i e0
      rw [e0]
      cases rc with
      | none => rfl
      | some v => exact hr.elim
    · cases h2
    · rename_i v e0
      rw [e0]
      cases rc with
      | none => exact hr.elim
      | some v =>
        obtain ⟨w, ew, -, b1, b2⟩ := an_in_ok h h2 hr
        exact ⟨w, by rw [ew], b1, b2⟩
    · cases h2
    · rename_i v g1 g2
      cases rc with
      | none => exact hr.elim
      | some v =>
        obtain ⟨w, ew⟩ := an_cv_long hr (Nat.eq_of_beq_eq_true h2)
        split
        · rename_i q; exact absurd q g1
        · rename_i q; exact absurd q g2
        · exact ⟨w, by rw [ew]⟩
    · cases h2
  have heads : ∀ xs : List Nat, xs.length = 4 → ∀ hd ∈ H, ∀ (σ : pm_S) (Lc : List Value), an_GB B σ → (∀ p j, an_inF e.2.2.2.2.2.1 p j = false → σ.1 p j = σ0.1 p j) → an_sargs Lc hd.2.1 → an_scel σ hd.2.2.1 → (∀ r ∈ hd.2.2.2.2, an_srel σ Lc r) → an_mcs σ Lc hd.2.2.2.1 = xs → Ok e.1 (d0 + 1) hd.1 Lc [] σ Q := by
    refine an_lex_wf 4 (fun xs hx ih => ?_)
    intro hd hhd σ Lc g1 g2 g3 g4 g6 g5
    have hk := List.all_eq_true.mp hH hd hhd
    unfold an_chkH at hk
    rw [Bool.and_eq_true] at hk
    obtain ⟨ρ1, A1, L, k1, k2, k3, k4, k5⟩ := an_init_ok (an_A0_ok hB g1 g2 (fun _ => 0)) g3 hk.2
    obtain ⟨ρ2, A3, m1, m2, m3, m4⟩ := an_pcs_ok k1 g4 k5
    have hL3 : an_ls A3.1 ρ2 Lc L := an_ls_x m2 m3 k4
    obtain ⟨A2, m1, mn, m4⟩ := an_rls_ok m1 hL3 g6 m4
    have hL2 : an_ls A2.1 ρ2 Lc L := by rw [mn]; exact hL3
    split at m4
    · cases m4
    · rename_i μ hμ
      obtain ⟨v1, v2, v3⟩ := an_ms_ok m1 hL2 hμ
      have run := an_run_okP (k0 := e.1) (d0 := d0) (n0 := A2.1) (ρ0 := ρ2) (σ0 := σ0) (Q := Q) hS (hfin ρ2 A2.1) (fun hd' hhd' ρ A σ' L' st' Lc' stc' q1 qx qn q2 q3 q4 => ?_) f d0 e.1 M [] [] hd.1 L [] A2 ρ2 σ Lc [] hM ⟨rfl, rfl⟩ m1 (an_ext_rf _ _) (Nat.le_refl _) hL2 trivial trivial m4
      · exact run
      · unfold an_cut at q4
        split at q4
        · rw [Bool.and_eq_true, Bool.and_eq_true, Bool.and_eq_true] at q4
          obtain ⟨⟨⟨c1, c2⟩, c4⟩, c3⟩ := q4
          rcases List.mem_append.mp hhd' with hhd' | hhX
          rotate_left
          · match stc', q3 with
            | [], q3 => exact hX hd' hhX σ' Lc' q1.2.2.2.2.1 q1.2.2.2.2.2 (an_args_ok q1 q2 c1) (an_cels_ok q1 c2) (fun r hr => an_crl_ok q1 q2 (List.all_eq_true.mp c4 r hr))
            | _ :: _, q3 => exact q3.elim
          dsimp only at c3
          split at c3
          · cases c3
          · rename_i new hnew
            obtain ⟨w1, w2, w3⟩ := an_ms_ok q1 q2 hnew
            have hlen := List.all_eq_true.mp hH hd' hhd'
            unfold an_chkH at hlen
            rw [Bool.and_eq_true] at hlen
            have hlex := an_lex_ok q1 w2 w3 (ys := μ) (fun y hy => by
              rcases v2 y hy with z | z
              · exact Or.inl z
              · exact Or.inr ⟨z.1, an_vl_x z.2 qn⟩) (fun y hy => by
              rcases v3 y hy with z | ⟨w, z⟩
              · exact Or.inl z
              · rcases v2 y hy with z2 | z2
                · exact Or.inl z2
                · exact Or.inr ⟨w, by rw [an_ev_x qx z2.2]; exact z⟩) c3
            rw [an_mvs_x qx v2, ← v1, ← w1, g5] at hlex
            match stc', q3 with
            | [], q3 => exact ih (an_mcs σ' Lc' hd'.2.2.2.1) (by rw [an_mcs_len]; exact Nat.eq_of_beq_eq_true hlen.1) hlex hd' hhd' σ' Lc' q1.2.2.2.2.1 q1.2.2.2.2.2 (an_args_ok q1 q2 c1) (an_cels_ok q1 c2) (fun r hr => an_crl_ok q1 q2 (List.all_eq_true.mp c4 r hr)) rfl
            | _ :: _, q3 => exact q3.elim
        · cases q4
  intro hd hhd σ Lc g1 g2 g3 g4 g6
  have hlen := List.all_eq_true.mp hH hd hhd
  unfold an_chkH at hlen
  rw [Bool.and_eq_true] at hlen
  exact heads (an_mcs σ Lc hd.2.2.2.1) (by rw [an_mcs_len]; exact Nat.eq_of_beq_eq_true hlen.1) hd hhd σ Lc g1 g2 g3 g4 g6 rfl
theorem an_hdX {B : an_B} {P : pm_S → Prop} {T : List Nat} {S : List an_S} {H HX : List an_H} {e : an_S} {f d0 : Nat} (hP : ∀ σ τ : pm_S, (∀ p j, an_inF e.2.2.2.2.2.1 p j = false → τ.1 p j = σ.1 p j) → P σ → P τ) (hS0 : ∀ e ∈ S, an_sokP P B e) (hk : an_chkX B T S H HX e f d0 = true) {σ0 : pm_S} (hB : an_GB B σ0) (hP0 : P σ0) {Q : Option Value → pm_S → Prop}
    (hQ : ∀ r τ, an_GB B τ → an_spost r e.2.2.2.2.1 → FQ e.2.2.2.2.2.1 σ0 τ → Q r τ)
    (hX : ∀ hd ∈ HX, ∀ (σ : pm_S) (Lc : List Value), an_GB B σ → FQ e.2.2.2.2.2.1 σ0 σ → an_sargs Lc hd.2.1 → an_scel σ hd.2.2.1 → (∀ r ∈ hd.2.2.2.2, an_srel σ Lc r) → Ok e.1 (d0 + 1) hd.1 Lc [] σ Q) :
    ∀ hd ∈ H, ∀ (σ : pm_S) (Lc : List Value), an_GB B σ → FQ e.2.2.2.2.2.1 σ0 σ → an_sargs Lc hd.2.1 → an_scel σ hd.2.2.1 → (∀ r ∈ hd.2.2.2.2, an_srel σ Lc r) → Ok e.1 (d0 + 1) hd.1 Lc [] σ Q := by
  unfold an_chkX at hk
  split at hk
  · cases hk
  · rename_i M hM
    exact an_hdX0 hP hS0 hM hk hB hP0 hQ hX
theorem Ok.loop {k D idx : Nat} {Q : Option Value → pm_S → Prop} (St : Int → List Value → pm_S → Prop) (N : Int) (hb : ∀ i L σ, St i L σ → i ≤ N) (h : ∀ i L σ, St i L σ → (∀ L' τ, St (i + 1) L' τ → Ok k D idx L' [] τ Q) → Ok k D idx L [] σ Q) : ∀ i L σ, St i L σ → Ok k D idx L [] σ Q := by
  have main : ∀ m : Nat, ∀ i L σ, St i L σ → (N + 1 - i).toNat ≤ m → Ok k D idx L [] σ Q := by
    intro m
    induction m with
    | zero =>
      intro i L σ hS hm
      have := hb i L σ hS
      omega
    | succ m ih =>
      intro i L σ hS hm
      refine h i L σ hS (fun L' τ hS' => ih (i + 1) L' τ hS' ?_)
      have := hb i L σ hS
      omega
  exact fun i L σ hS => main _ i L σ hS (Nat.le_refl _)
theorem sgI {x l h : Int} (h1 : l ≤ x) (h2 : x ≤ h) (l1 : -2147483648 ≤ l) (h3 : h ≤ 2147483647) : an_sarg (.int (Int32.ofInt x)) (1, 0, l, h) := ⟨_, rfl, by rw [ti_of (by omega) (by omega)]; exact h1, by rw [ti_of (by omega) (by omega)]; exact h2⟩
