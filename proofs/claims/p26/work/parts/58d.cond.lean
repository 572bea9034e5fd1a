/-! SUMMARIES UNDER A CONDITION: what is so of cells that are not written stays so -/
def an_sokA (B : an_B) (e : an_S) (σ : pm_S) : Prop := ∀ (As : List Value), an_GB B σ → an_sargs As e.2.2.1 → an_scel σ e.2.2.2.1 → Sp e.1 e.2.1 As σ (fun r τ => an_GB B τ ∧ an_spost r e.2.2.2.2.1 ∧ (∀ p j, an_inF e.2.2.2.2.2.1 p j = false → τ.1 p j = σ.1 p j) ∧ an_scel τ e.2.2.2.2.2.2)
def an_sokP (P : pm_S → Prop) (B : an_B) (e : an_S) : Prop := ∀ (σ : pm_S) (As : List Value), an_GB B σ → P σ → an_sargs As e.2.2.1 → an_scel σ e.2.2.2.1 → Sp e.1 e.2.1 As σ (fun r τ => an_GB B τ ∧ an_spost r e.2.2.2.2.1 ∧ (∀ p j, an_inF e.2.2.2.2.2.1 p j = false → τ.1 p j = σ.1 p j) ∧ an_scel τ e.2.2.2.2.2.2)
theorem an_sokP_of {P : pm_S → Prop} {B : an_B} {e : an_S} (h : an_sok B e) : an_sokP P B e := fun σ As h1 _ h3 h4 => h σ As h1 h3 h4
section SOUND
variable {B : an_B} {F : List (Nat × Nat)} {T : List Nat} {S : List an_S} {H : List an_H} {μ : Option (List an_M)} {fin : Option an_V → an_A → Bool} {σ0 : pm_S} {Q : Option Value → pm_S → Prop} {k0 d0 n0 : Nat} {ρ0 : Nat → Int}
theorem an_run_okP (hS : ∀ e ∈ S, ∀ σ : pm_S, (∀ p j, an_inF F p j = false → σ.1 p j = σ0.1 p j) → an_sokA B e σ)
    (hfin : ∀ ρ A σ r rc, an_ok B F σ0 ρ A σ → an_ext ρ0 ρ n0 → n0 ≤ A.1 → an_ro A.1 ρ rc r → fin r A = true → Q rc σ)
    (hcut : ∀ hd ∈ H, ∀ ρ A σ L st Lc stc, an_ok B F σ0 ρ A σ → an_ext ρ0 ρ n0 → n0 ≤ A.1 → an_ls A.1 ρ Lc L → an_ls A.1 ρ stc st → an_cut B μ hd L st A = true → Ok k0 (d0 + 1) hd.1 Lc stc σ Q) :
    ∀ (f d k : Nat) (M : pm_M) (fs : List an_fr) (fsc : List (Nat × Nat × List Value × List Value)) (idx : Nat) (L st : List an_V) (A : an_A) (ρ : Nat → Int) (σ : pm_S) (Lc stc : List Value), pm_nth pm_tab k = some M → an_bot k0 d0 d k fs → an_ok B F σ0 ρ A σ → an_ext ρ0 ρ n0 → n0 ≤ A.1 → an_ls A.1 ρ Lc L → an_ls A.1 ρ stc st → an_frs A.1 ρ fsc fs → an_run B F T S H μ fin f d k M.2.2.2.2.2 M.2.2.2.1 fs idx L st A = true → Ok k (d + 1) idx Lc stc σ (an_K Q d fsc) := by
  intro f
  induction f with
  | zero => intro d k M fs fsc idx L st A ρ σ Lc stc _ _ _ _ _ _ _ _ h; cases h
  | succ f ih =>
    intro d k M fs fsc idx L st A ρ σ Lc stc hM hbot h hx hn hL hs hfr hk
    unfold an_run at hk
    split at hk
    · cases hk
    · rename_i i hi
      have hM' : pm_tab[k]? = some M := by rw [← pm_nth_eq]; exact hM
      -- where a run goes on in this frame
      have at1 : ∀ (fs : List an_fr) (fsc : List (Nat × Nat × List Value × List Value)) (d k : Nat) (M : pm_M), pm_nth pm_tab k = some M → an_bot k0 d0 d k fs → ∀ ρ' A' idx' L' st' Lc' stc' σ', an_ok B F σ0 ρ' A' σ' → an_ext ρ0 ρ' n0 → n0 ≤ A'.1 → an_ls A'.1 ρ' Lc' L' → an_ls A'.1 ρ' stc' st' → an_frs A'.1 ρ' fsc fs → (match an_hd fs idx' H with
          | some hd => an_cut B μ hd L' st' A'
          | none => an_run B F T S H μ fin f d k M.2.2.2.2.2 M.2.2.2.1 fs idx' L' st' A') = true → Ok k (d + 1) idx' Lc' stc' σ' (an_K Q d fsc) := by
        intro fs fsc d k M hM hbot ρ' A' idx' L' st' Lc' stc' σ' q1 qx qn q2 q3 q4 q5
        split at q5
        · rename_i hd e
          obtain ⟨e1, e2, e3⟩ := an_hd_ok e
          subst e1
          match fsc, q4 with
          | _ :: _, q4 => exact q4.elim
          | [], q4 =>
            obtain ⟨b1, b2⟩ := hbot
            subst b1
            subst b2
            rw [← e3]
            exact hcut hd e2 ρ' A' σ' L' st' Lc' stc' q1 qx qn q2 q3 q5
        · exact ih d k M fs fsc idx' L' st' A' ρ' σ' Lc' stc' hM hbot q1 qx qn q2 q3 q4 q5
      refine Ok.one hM' hi (an_go_ok h hL hs ?_ ?_ ?_ hk)
      · intro ρ' A' idx' L' st' Lc' stc' σ' q1 q2 q3 q4 q5 q6
        exact at1 fs fsc d k M hM hbot ρ' A' idx' L' st' Lc' stc' σ' q1 (an_ext_tr hx q2 hn) (Nat.le_trans hn q3) q4 q5 (an_frs_x q2 q3 hfr) q6
      · intro k' As rest Asc restc g1 g2 g3
        split at g3
        · rename_i a ha
          obtain ⟨w, hw, hsp⟩ := an_pure_ok h g1 ha
          refine hsp.mono (fun r τ hr => ?_)
          obtain ⟨rfl, rfl⟩ := hr
          obtain ⟨ρ', A', c, k1, k2, k3, k4, k5⟩ := an_bin_ok (y := 0) h hw (an_w1 rfl) g3
          exact at1 fs fsc d k M hM hbot ρ' A' (idx + 1) L (c :: rest) Lc (.int (an_f 16 w 0) :: restc) τ k1 (an_ext_tr hx k2 hn) (Nat.le_trans hn k3) (an_ls_x k2 k3 hL) (an_ls_c (an_cv_of k4) (an_ls_x k2 k3 g2)) (an_frs_x k2 k3 hfr) k5
        split at g3
        · rename_i e he
          obtain ⟨m1, m2, m3, m4, m5⟩ := an_find_ok he
          have hsp := hS e m1 σ h.2.2.2.2.2 Asc h.2.2.2.2.1 (an_args_ok h g1 m4) (an_cels_ok h m5)
          rw [m2] at hsp
          refine hsp.use m3 (fun r τ hr => ?_)
          obtain ⟨r1, r2, r3, r4⟩ := hr
          obtain ⟨ρ', A', a, k1, k2, k3, k4, k5⟩ := an_app_ok h g3 r1 r2 r3 r4
          exact at1 fs fsc d k M hM hbot ρ' A' (idx + 1) L (an_rv a rest) Lc (pm_rv r restc) τ k1 (an_ext_tr hx k2 hn) (Nat.le_trans hn k3) (an_ls_x k2 k3 hL) (an_rv_ok k4 (an_ls_x k2 k3 g2)) (an_frs_x k2 k3 hfr) k5
        · split at g3
          · cases g3
          · rename_i d' hpu hfn
            split at g3
            · cases g3
            · rename_i M' hM2
              split at g3
              · rename_i hac
                have hM2' : pm_tab[k']? = some M' := by rw [← pm_nth_eq]; exact hM2
                refine Sp.of hM2' (an_ac_ok g1 hac) ?_
                have hL0 : an_ls A.1 ρ (pm_L0 M'.2.2.1 Asc) (an_L0 M'.2.2.1 As) := by
                  unfold pm_L0 an_L0
                  rw [an_ls_len g1]
                  exact an_L0_ok g1
                exact ih d' k' M' ((k, idx + 1, L, rest) :: fs) ((k, idx + 1, Lc, restc) :: fsc) 0 _ [] A ρ σ _ [] hM2 hbot h hx hn hL0 trivial ⟨rfl, rfl, hL, g2, hfr⟩ g3
              · cases g3
      · intro r rc g1 g2
        split at g2
        · match fsc, hfr with
          | _ :: _, hfr => exact hfr.elim
          | [], hfr => exact hfin ρ A σ r rc h hx hn g1 g2
        · rename_i k2 idx2 L2 st2 fs'
          match fsc, hfr with
          | [], hfr => exact hfr.elim
          | (c1, c2, c3, c4) :: fsc', hfr =>
            obtain ⟨f1, f2, f3, f4, f5⟩ := hfr
            dsimp only at f1 f2 f3 f4
            subst f1
            subst f2
            split at g2
            · cases g2
            · rename_i M2 hM2
              exact at1 fs' fsc' (d + 1) c1 M2 hM2 hbot ρ A c2 L2 (an_rv r st2) c3 (pm_rv rc c4) σ h hx hn f3 (an_rv_ok g1 f4) f5 g2
end SOUND
section ENT
variable {B : an_B} {F : List (Nat × Nat)} {σ0 : pm_S}
theorem an_sumP {P : pm_S → Prop} {T : List Nat} {S : List an_S} {H : List an_H} {e : an_S} {f : Nat} (hP : ∀ σ τ : pm_S, (∀ p j, an_inF e.2.2.2.2.2.1 p j = false → τ.1 p j = σ.1 p j) → P σ → P τ) (hS0 : ∀ e ∈ S, an_sokP P B e) (hk : an_chk B T S H e f = true) : an_sokP P B e := by
  unfold an_chk at hk
  split at hk
  · cases hk
  · rename_i d0 ed
    split at hk
    · cases hk
    · rename_i M hM
      rw [Bool.and_eq_true] at hk
      obtain ⟨hE, hH⟩ := hk
      intro σ0 As0 hB hP0 hA hC
      have hS : ∀ e' ∈ S, ∀ σ : pm_S, (∀ p j, an_inF e.2.2.2.2.2.1 p j = false → σ.1 p j = σ0.1 p j) → an_sokA B e' σ := fun e' he σ hf As g1 g2 g3 => hS0 e' he σ As g1 (hP σ0 σ hf hP0) g2 g3
      let Q : Option Value → pm_S → Prop := fun r τ => an_GB B τ ∧ an_spost r e.2.2.2.2.1 ∧ (∀ p j, an_inF e.2.2.2.2.2.1 p j = false → τ.1 p j = σ0.1 p j) ∧ an_scel τ e.2.2.2.2.2.2
      have hM' : pm_tab[e.1]? = some M := by rw [← pm_nth_eq]; exact hM
      have hfin : ∀ ρ0 n0 ρ A σ r rc, an_ok B e.2.2.2.2.2.1 σ0 ρ A σ → an_ext ρ0 ρ n0 → n0 ≤ A.1 → an_ro A.1 ρ rc r → an_finS B e r A = true → Q rc σ := by
        intro ρ0 n0 ρ A σ r rc h _ _ hr hk
        unfold an_finS at hk
        rw [Bool.and_eq_true] at hk
        refine ⟨h.2.2.2.2.1, ?_, h.2.2.2.2.2, an_cels_ok h hk.2⟩
        have h2 := hk.1
        unfold an_spost
        split at h2
        · rename_i e0
          rw [e0]
          cases rc with
          | none => rfl
          | some v => exact hr.elim
        · cases h2
        · rename_i v e0
          rw [e0]
          cases rc with
          | none => exact hr.elim
          | some v =>
            obtain ⟨w, ew, -, b1, b2⟩ := an_in_ok h h2 hr
            exact ⟨w, by rw [ew], b1, b2⟩
        · cases h2
        · rename_i v g1 g2
          cases rc with
          | none => exact hr.elim
          | some v =>
            obtain ⟨w, ew⟩ := an_cv_long hr (Nat.eq_of_beq_eq_true h2)
            split
            · rename_i q; exact absurd q g1
            · rename_i q; exact absurd q g2
            · exact ⟨w, by rw [ew]⟩
        · cases h2
      have heads : ∀ xs : List Nat, xs.length = 4 → ∀ hd ∈ H, ∀ (σ : pm_S) (Lc : List Value), an_GB B σ → (∀ p j, an_inF e.2.2.2.2.2.1 p j = false → σ.1 p j = σ0.1 p j) → an_sargs Lc hd.2.1 → an_scel σ hd.2.2.1 → (∀ r ∈ hd.2.2.2.2, an_srel σ Lc r) → an_mcs σ Lc hd.2.2.2.1 = xs → Ok e.1 (d0 + 1) hd.1 Lc [] σ Q := by
        refine an_lex_wf 4 (fun xs hx ih => ?_)
        intro hd hhd σ Lc g1 g2 g3 g4 g6 g5
        have hk := List.all_eq_true.mp hH hd hhd
        unfold an_chkH at hk
        rw [Bool.and_eq_true] at hk
        obtain ⟨ρ1, A1, L, k1, k2, k3, k4, k5⟩ := an_init_ok (an_A0_ok hB g1 g2 (fun _ => 0)) g3 hk.2
        obtain ⟨ρ2, A3, m1, m2, m3, m4⟩ := an_pcs_ok k1 g4 k5
        have hL3 : an_ls A3.1 ρ2 Lc L := an_ls_x m2 m3 k4
        obtain ⟨A2, m1, mn, m4⟩ := an_rls_ok m1 hL3 g6 m4
        have hL2 : an_ls A2.1 ρ2 Lc L := by rw [mn]; exact hL3
        split at m4
        · cases m4
        · rename_i μ hμ
          obtain ⟨v1, v2, v3⟩ := an_ms_ok m1 hL2 hμ
          have run := an_run_okP (k0 := e.1) (d0 := d0) (n0 := A2.1) (ρ0 := ρ2) (σ0 := σ0) (Q := Q) hS (hfin ρ2 A2.1) (fun hd' hhd' ρ A σ' L' st' Lc' stc' q1 qx qn q2 q3 q4 => ?_) f d0 e.1 M [] [] hd.1 L [] A2 ρ2 σ Lc [] hM ⟨rfl, rfl⟩ m1 (an_ext_rf _ _) (Nat.le_refl _) hL2 trivial trivial m4
          · exact run
          · unfold an_cut at q4
            split at q4
            · rw [Bool.and_eq_true, Bool.and_eq_true, Bool.and_eq_true] at q4
              obtain ⟨⟨⟨c1, c2⟩, c4⟩, c3⟩ := q4
              dsimp only at c3
              split at c3
              · cases c3
              · rename_i new hnew
                obtain ⟨w1, w2, w3⟩ := an_ms_ok q1 q2 hnew
                have hlen := List.all_eq_true.mp hH hd' hhd'
                unfold an_chkH at hlen
                rw [Bool.and_eq_true] at hlen
                have hlex := an_lex_ok q1 w2 w3 (ys := μ) (fun y hy => by
                  rcases v2 y hy with z | z
                  · exact Or.inl z
                  · exact Or.inr ⟨z.1, an_vl_x z.2 qn⟩) (fun y hy => by
                  rcases v3 y hy with z | ⟨w, z⟩
                  · exact Or.inl z
                  · rcases v2 y hy with z2 | z2
                    · exact Or.inl z2
                    · exact Or.inr ⟨w, by rw [an_ev_x qx z2.2]; exact z⟩) c3
                rw [an_mvs_x qx v2, ← v1, ← w1, g5] at hlex
                match stc', q3 with
                | [], q3 => exact ih (an_mcs σ' Lc' hd'.2.2.2.1) (by rw [an_mcs_len]; exact Nat.eq_of_beq_eq_true hlen.1) hlex hd' hhd' σ' Lc' q1.2.2.2.2.1 q1.2.2.2.2.2 (an_args_ok q1 q2 c1) (an_cels_ok q1 c2) (fun r hr => an_crl_ok q1 q2 (List.all_eq_true.mp c4 r hr)) rfl
                | _ :: _, q3 => exact q3.elim
            · cases q4
      unfold an_chkE at hE
      obtain ⟨ρ1, A1, L, k1, k2, k3, k4, k5⟩ := an_init_ok (an_A0_ok (F := e.2.2.2.2.2.1) hB hB (fun _ _ _ => rfl) (fun _ => 0)) hA hE
      rw [Bool.and_eq_true] at k5
      obtain ⟨ρ2, A2, m1, m2, m3, m4⟩ := an_pcs_ok k1 hC k5.2
      have hL2 : an_ls A2.1 ρ2 As0 L := an_ls_x m2 m3 k4
      rw [ed]
      refine Sp.of hM' (an_ac_ok k4 k5.1) ?_
      have hL0 : an_ls A2.1 ρ2 (pm_L0 M.2.2.1 As0) (an_L0 M.2.2.1 L) := by
        unfold pm_L0 an_L0
        rw [an_ls_len hL2]
        exact an_L0_ok hL2
      have run := an_run_okP (k0 := e.1) (d0 := d0) (n0 := A2.1) (ρ0 := ρ2) (σ0 := σ0) (Q := Q) hS (hfin ρ2 A2.1) (fun hd' hhd' ρ A σ' L' st' Lc' stc' q1 qx qn q2 q3 q4 => ?_) f d0 e.1 M [] [] 0 _ [] A2 ρ2 σ0 _ [] hM ⟨rfl, rfl⟩ m1 (an_ext_rf _ _) (Nat.le_refl _) hL0 trivial trivial m4
      · exact run
      · unfold an_cut at q4
        split at q4
        · rw [Bool.and_eq_true, Bool.and_eq_true, Bool.and_eq_true] at q4
          obtain ⟨⟨⟨c1, c2⟩, c4⟩, -⟩ := q4
          have hlen := List.all_eq_true.mp hH hd' hhd'
          unfold an_chkH at hlen
          rw [Bool.and_eq_true] at hlen
          match stc', q3 with
          | [], q3 => exact heads (an_mcs σ' Lc' hd'.2.2.2.1) (by rw [an_mcs_len]; exact Nat.eq_of_beq_eq_true hlen.1) hd' hhd' σ' Lc' q1.2.2.2.2.1 q1.2.2.2.2.2 (an_args_ok q1 q2 c1) (an_cels_ok q1 c2) (fun r hr => an_crl_ok q1 q2 (List.all_eq_true.mp c4 r hr)) rfl
          | _ :: _, q3 => exact q3.elim
        · cases q4
end ENT
