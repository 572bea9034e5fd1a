/-! segments at any greater depth -/
section SOUNDE
variable {B : an_B} {F : List (Nat × Nat)} {T : List Nat} {S : List an_S} {cs : List Nat} {lf : Nat → List an_V → List an_V → an_A → Bool} {σ0 : pm_S} {Q : Option Value → pm_S → Prop} {k0 d0 n0 : Nat} {ρ0 : Nat → Int}
theorem an_ru_okE {e0 : Nat} (hS : ∀ e ∈ S, an_sok B e)
    (hfin : ∀ ρ A σ r rc, an_ok B F σ0 ρ A σ → an_ext ρ0 ρ n0 → n0 ≤ A.1 → an_ro A.1 ρ rc r → lf 9999 [] (an_rv r []) A = true → Q rc σ)
    (hcut : ∀ idx ρ A σ L st Lc stc, cs.any (fun c => Nat.beq c idx) = true → an_ok B F σ0 ρ A σ → an_ext ρ0 ρ n0 → n0 ≤ A.1 → an_ls A.1 ρ Lc L → an_ls A.1 ρ stc st → lf idx L st A = true → Ok k0 (e0 + d0 + 1) idx Lc stc σ Q) :
    ∀ (f d k : Nat) (M : pm_M) (fs : List an_fr) (fsc : List (Nat × Nat × List Value × List Value)) (idx : Nat) (L st : List an_V) (A : an_A) (ρ : Nat → Int) (σ : pm_S) (Lc stc : List Value), pm_nth pm_tab k = some M → an_bot k0 d0 d k fs → an_ok B F σ0 ρ A σ → an_ext ρ0 ρ n0 → n0 ≤ A.1 → an_ls A.1 ρ Lc L → an_ls A.1 ρ stc st → an_frs A.1 ρ fsc fs → an_ru B F T S cs lf f d k M.2.2.2.2.2 M.2.2.2.1 fs idx L st A = true → Ok k (e0 + d + 1) idx Lc stc σ (an_K Q (e0 + d) fsc) := by
  intro f
  induction f with
  | zero => intro d k M fs fsc idx L st A ρ σ Lc stc _ _ _ _ _ _ _ _ h; cases h
  | succ f ih =>
    intro d k M fs fsc idx L st A ρ σ Lc stc hM hbot h hx hn hL hs hfr hk
    unfold an_ru at hk
    split at hk
    · cases hk
    · rename_i i hi
      have hM' : pm_tab[k]? = some M := by rw [← pm_nth_eq]; exact hM
      have at1 : ∀ (fs : List an_fr) (fsc : List (Nat × Nat × List Value × List Value)) (d k : Nat) (M : pm_M), pm_nth pm_tab k = some M → an_bot k0 d0 d k fs → ∀ ρ' A' idx' L' st' Lc' stc' σ', an_ok B F σ0 ρ' A' σ' → an_ext ρ0 ρ' n0 → n0 ≤ A'.1 → an_ls A'.1 ρ' Lc' L' → an_ls A'.1 ρ' stc' st' → an_frs A'.1 ρ' fsc fs → (match an_cu fs idx' cs with
          | true => lf idx' L' st' A'
          | false => an_ru B F T S cs lf f d k M.2.2.2.2.2 M.2.2.2.1 fs idx' L' st' A') = true → Ok k (e0 + d + 1) idx' Lc' stc' σ' (an_K Q (e0 + d) fsc) := by
        intro fs fsc d k M hM hbot ρ' A' idx' L' st' Lc' stc' σ' q1 qx qn q2 q3 q4 q5
        split at q5
        · rename_i e
          obtain ⟨e1, e2⟩ := an_cu_ok e
          subst e1
          match fsc, q4 with
          | _ :: _, q4 => exact q4.elim
          | [], q4 =>
            obtain ⟨b1, b2⟩ := hbot
            subst b1
            subst b2
            exact hcut idx' ρ' A' σ' L' st' Lc' stc' e2 q1 qx qn q2 q3 q5
        · exact ih d k M fs fsc idx' L' st' A' ρ' σ' Lc' stc' hM hbot q1 qx qn q2 q3 q4 q5
      refine Ok.one hM' hi (an_go_ok h hL hs ?_ ?_ ?_ hk)
      · intro ρ' A' idx' L' st' Lc' stc' σ' q1 q2 q3 q4 q5 q6
        exact at1 fs fsc d k M hM hbot ρ' A' idx' L' st' Lc' stc' σ' q1 (an_ext_tr hx q2 hn) (Nat.le_trans hn q3) q4 q5 (an_frs_x q2 q3 hfr) q6
      · intro k' As rest Asc restc g1 g2 g3
        split at g3
        · rename_i a ha
          obtain ⟨w, hw, hsp⟩ := an_pure_ok h g1 ha
          refine (hsp.up (Nat.le_add_left _ e0)).mono (fun r τ hr => ?_)
          obtain ⟨rfl, rfl⟩ := hr
          obtain ⟨ρ', A', c, k1, k2, k3, k4, k5⟩ := an_bin_ok (y := 0) h hw (an_w1 rfl) g3
          exact at1 fs fsc d k M hM hbot ρ' A' (idx + 1) L (c :: rest) Lc (.int (an_f 16 w 0) :: restc) τ k1 (an_ext_tr hx k2 hn) (Nat.le_trans hn k3) (an_ls_x k2 k3 hL) (an_ls_c (an_cv_of k4) (an_ls_x k2 k3 g2)) (an_frs_x k2 k3 hfr) k5
        split at g3
        · rename_i e he
          obtain ⟨m1, m2, m3, m4, m5⟩ := an_find_ok he
          have hsp := hS e m1 σ Asc h.2.2.2.2.1 (an_args_ok h g1 m4) (an_cels_ok h m5)
          rw [m2] at hsp
          refine hsp.use (Nat.le_trans m3 (Nat.le_add_left _ _)) (fun r τ hr => ?_)
          obtain ⟨r1, r2, r3, r4⟩ := hr
          obtain ⟨ρ', A', a, k1, k2, k3, k4, k5⟩ := an_app_ok h g3 r1 r2 r3 r4
          exact at1 fs fsc d k M hM hbot ρ' A' (idx + 1) L (an_rv a rest) Lc (pm_rv r restc) τ k1 (an_ext_tr hx k2 hn) (Nat.le_trans hn k3) (an_ls_x k2 k3 hL) (an_rv_ok k4 (an_ls_x k2 k3 g2)) (an_frs_x k2 k3 hfr) k5
        · split at g3
          · cases g3
          · rename_i d' hpu hfn
            split at g3
            · cases g3
            · rename_i M' hM2
              split at g3
              · rename_i hac
                have hM2' : pm_tab[k']? = some M' := by rw [← pm_nth_eq]; exact hM2
                refine Sp.of hM2' (an_ac_ok g1 hac) ?_
                have hL0 : an_ls A.1 ρ (pm_L0 M'.2.2.1 Asc) (an_L0 M'.2.2.1 As) := by
                  unfold pm_L0 an_L0
                  rw [an_ls_len g1]
                  exact an_L0_ok g1
                exact ih d' k' M' ((k, idx + 1, L, rest) :: fs) ((k, idx + 1, Lc, restc) :: fsc) 0 _ [] A ρ σ _ [] hM2 hbot h hx hn hL0 trivial ⟨rfl, rfl, hL, g2, hfr⟩ g3
              · cases g3
      · intro r rc g1 g2
        split at g2
        · match fsc, hfr with
          | _ :: _, hfr => exact hfr.elim
          | [], hfr => exact hfin ρ A σ r rc h hx hn g1 g2
        · rename_i k2 idx2 L2 st2 fs'
          match fsc, hfr with
          | [], hfr => exact hfr.elim
          | (c1, c2, c3, c4) :: fsc', hfr =>
            obtain ⟨f1, f2, f3, f4, f5⟩ := hfr
            dsimp only at f1 f2 f3 f4
            subst f1
            subst f2
            split at g2
            · cases g2
            · rename_i M2 hM2
              exact at1 fs' fsc' (d + 1) c1 M2 hM2 hbot ρ A c2 L2 (an_rv r st2) c3 (pm_rv rc c4) σ h hx hn f3 (an_rv_ok g1 f4) f5 g2
end SOUNDE
theorem an_segE {e0 : Nat} {B : an_B} {F : List (Nat × Nat)} {T : List Nat} {S : List an_S} (hS : ∀ e ∈ S, an_sok B e) {k d : Nat} {cs : List Nat} (f idx n : Nat) (F0 : List (Nat × Int × Int)) (C0 : an_C) (L st : List an_V) (ts : List an_T)
    (hk : (match pm_nth pm_tab k with
      | none => false
      | some M => cs.all (fun c => Nat.ble c 9998) && an_ew n F0 C0 L st && an_ru B F T S cs (an_lf ts) f d k M.2.2.2.2.2 M.2.2.2.1 [] idx L st (n, F0, [], [], C0)) = true)
    {ρ0 : Nat → Int} {σ : pm_S} {Q : Option Value → pm_S → Prop} {Lc stc : List Value} (hB : an_GB B σ) (hF : an_pF ρ0 F0) (hC : an_pC ρ0 σ C0) (hL : an_pL ρ0 L Lc) (hs : an_pL ρ0 st stc)
    (hl : ∀ t ∈ ts, ∀ (ρ : Nat → Int) (τ : pm_S) (Lc stc : List Value), (∀ s, s < n → ρ s = ρ0 s) → an_GB B τ → (∀ p j, an_inF F p j = false → τ.1 p j = σ.1 p j) → an_pF ρ t.2.2.2.1 → an_pR ρ t.2.2.2.2.1 → an_pD ρ t.2.2.2.2.2.1 → an_pC ρ τ t.2.2.2.2.2.2 → (t.1 ≠ 9999 → an_pL ρ t.2.1 Lc) → an_pL ρ t.2.2.1 stc → an_gl k (e0 + d) Q t.1 Lc stc τ) : Ok k (e0 + d + 1) idx Lc stc σ Q := by
  split at hk
  · cases hk
  rename_i M hM
  rw [Bool.and_eq_true, Bool.and_eq_true] at hk
  obtain ⟨⟨hcs, hw⟩, hr⟩ := hk
  unfold an_ew at hw
  rw [Bool.and_eq_true, Bool.and_eq_true, Bool.and_eq_true] at hw
  obtain ⟨⟨⟨w1, w2⟩, w3⟩, w4⟩ := hw
  have hA : an_ok B F σ ρ0 (n, F0, [], [], C0) σ := by
    refine ⟨fun q hq => ?_, fun q hq => absurd hq List.not_mem_nil, fun q hq => absurd hq List.not_mem_nil, fun q hq => ?_, hB, fun _ _ _ => rfl⟩
    · exact ⟨Nat.le_of_ble_eq_true (List.all_eq_true.mp w1 q hq), an_pF_mem hF q hq⟩
    · have h1 := List.all_eq_true.mp w2 q hq
      simp only [Bool.and_eq_true, Bool.or_eq_true, an_le_iff] at h1
      obtain ⟨⟨⟨⟨z1, z2⟩, z3⟩, z4⟩, z5⟩ := h1
      have y1 := Nat.le_of_ble_eq_true z1
      have y2 := Nat.le_of_ble_eq_true z2
      refine ⟨y1, fun e0 => ?_, ?_, y2, fun e0 => ?_, an_pC_mem hC q hq⟩
      · rcases z3 with z3 | z3
        · have := Nat.eq_of_beq_eq_true z3; omega
        · exact Nat.le_of_ble_eq_true z3
      · have := an_ei_ok hF y1 (by omega)
        omega
      · rcases z4 with z4 | z4
        · have := Nat.eq_of_beq_eq_true z4; omega
        · exact Nat.le_of_ble_eq_true z4
  refine an_ru_okE (e0 := e0) (k0 := k) (d0 := d) (n0 := n) (ρ0 := ρ0) (Q := Q) hS ?_ ?_ f d k M [] [] idx L st (n, F0, [], [], C0) ρ0 σ Lc stc hM ⟨rfl, rfl⟩ hA (an_ext_rf _ _) (Nat.le_refl _) (an_ls_en hF hL w3) (an_ls_en hF hs w4) trivial hr
  · intro ρ A τ r rc h hx hn hro hlf
    unfold an_lf at hlf
    obtain ⟨t, ht, hm⟩ := List.any_eq_true.mp hlf
    unfold an_tm at hm
    split at hm
    · cases hm
    · rename_i e
      have e1 := Nat.eq_of_beq_eq_true e
      simp only [Bool.and_eq_true] at hm
      obtain ⟨⟨⟨⟨⟨m1, m2⟩, m3⟩, m4⟩, m5⟩, m6⟩ := hm
      have := hl t ht ρ τ [] rc.toList hx h.2.2.2.2.1 h.2.2.2.2.2 (an_tF_ok h m3) (an_tR_ok h m4) (an_tD_ok h m5) (an_tC_ok h m6) (fun z => absurd e1 z) (by
        rw [← an_vls_ok m2]
        cases r with
        | none =>
          cases rc with
          | none => trivial
          | some v => exact hro.elim
        | some a =>
          cases rc with
          | none => exact hro.elim
          | some v => exact ⟨an_pv_ok hro, trivial⟩)
      rw [e1] at this
      have t2 : Q rc.toList.head? τ := this
      cases rc with
      | none => exact t2
      | some v => exact t2
  · intro i ρ A τ L' st' Lc' stc' hci h hx hn q1 q2 hlf
    unfold an_lf at hlf
    obtain ⟨t, ht, hm⟩ := List.any_eq_true.mp hlf
    unfold an_tm at hm
    split at hm
    · cases hm
    · rename_i e
      have e1 := Nat.eq_of_beq_eq_true e
      simp only [Bool.and_eq_true] at hm
      obtain ⟨⟨⟨⟨⟨m1, m2⟩, m3⟩, m4⟩, m5⟩, m6⟩ := hm
      have := hl t ht ρ τ Lc' stc' hx h.2.2.2.2.1 h.2.2.2.2.2 (an_tF_ok h m3) (an_tR_ok h m4) (an_tD_ok h m5) (an_tC_ok h m6) (fun _ => by rw [← an_vls_ok m1]; exact an_pL_ok q1) (by rw [← an_vls_ok m2]; exact an_pL_ok q2)
      rw [e1] at this
      unfold an_gl at this
      split at this
      · exfalso
        obtain ⟨c, c1, c2⟩ := List.any_eq_true.mp hci
        have c3 := Nat.le_of_ble_eq_true (List.all_eq_true.mp hcs c c1)
        have c4 := Nat.eq_of_beq_eq_true c2
        omega
      · exact this
