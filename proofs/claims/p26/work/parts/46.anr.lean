/-! THE ANALYSER, 7: one instruction is sound; summaries; runs -/
def an_ro (n : Nat) (ρ : Nat → Int) (r : Option Value) (a : Option an_V) : Prop := match r, a with
  | none, none => True
  | some v, some a => an_cv n ρ v a
  | _, _ => False
theorem an_popn_ok {m : Nat} {ρ : Nat → Int} : ∀ (n : Nat) {acc : List Value} {aacc : List an_V} {stc : List Value} {st As rest : List an_V}, an_ls m ρ acc aacc → an_ls m ρ stc st → an_popn n aacc st = some (As, rest) → ∃ Asc restc, pm_pop n acc stc = some (Asc, restc) ∧ an_ls m ρ Asc As ∧ an_ls m ρ restc rest
  | 0, acc, aacc, stc, st, As, rest, ha, hs, h => by cases h; exact ⟨acc, stc, rfl, ha, hs⟩
  | n + 1, acc, aacc, [], [], As, rest, ha, hs, h => by cases h
  | n + 1, acc, aacc, v :: stc, a :: st, As, rest, ha, hs, h => an_popn_ok n (acc := v :: acc) (aacc := a :: aacc) (an_ls_c hs.1 ha) hs.2 h
  | n + 1, acc, aacc, [], _ :: _, As, rest, ha, hs, h => hs.elim
  | n + 1, acc, aacc, _ :: _, [], As, rest, ha, hs, h => hs.elim
section GO
variable {B : an_B} {F : List (Nat × Nat)} {σ0 : pm_S} {ρ : Nat → Int} {A : an_A} {σ : pm_S} {Lc stc : List Value} {L st : List an_V}
theorem an_sw_ok {a : an_V} {w : Int32} {nx : Nat → an_A → Bool} {NX : Nat → Prop} {d : Nat} : ∀ {ks : List Int} {ts : List Nat} {A : an_A}, an_ok B F σ0 ρ A σ → an_w A.1 ρ w a → (∀ t A', an_ok B F σ0 ρ A' σ → A'.1 = A.1 → nx t A' = true → NX t) → an_sw a nx d ks ts A = true → pm_sw pm_br w NX d ks ts
  | [], ts, A, h, hw, hN, hk => by
    have : pm_sw pm_br w NX d [] ts = NX d := by cases ts <;> rfl
    rw [this]
    exact hN d A h rfl (by cases ts <;> exact hk)
  | k :: ks, [], A, h, hw, hN, hk => hN d A h rfl hk
  | k :: ks, t :: ts, A, h, hw, hN, hk => by
    unfold an_sw at hk
    simp only [Bool.and_eq_true, an_le_iff] at hk
    obtain ⟨⟨h1, h2⟩, hk⟩ := hk
    have e := pm_ofInt h1 h2 (a := w)
    obtain ⟨b1, b2⟩ := an_br_ok (y := Int32.ofInt k) h hw (an_w1 (ai_of (by omega) (by omega))) hk
    have e2 : (Int32.ofInt k).toInt = k := ai_of (by omega) (by omega)
    refine ⟨fun q => ?_, fun q => ?_⟩
    · obtain ⟨A', g1, g2, g3⟩ := b1 (by show w.toInt = (Int32.ofInt k).toInt; rw [e2]; exact e.mp q)
      exact hN t A' g1 g2 g3
    · obtain ⟨A', g1, g2, g3⟩ := b2 (by show w.toInt ≠ (Int32.ofInt k).toInt; rw [e2]; exact fun z => q (e.mpr z))
      exact an_sw_ok g1 (by rw [g2]; exact hw) (fun t A2 q1 q2 q3 => hN t A2 q1 (by omega) q3) g3
theorem an_pu_go {α η : Type} (O : pm_O η) (bad : α) (br : (c : Prop) → Decidable c → α → α → α) {rty : Option FieldType} {idx pc len x y : Nat} {zs : List Nat} {ins : Instr} {k : an_k} (hk : an_pu ins x y L st A k = true) (Lc stc : List Value) (h : η) (nx : Nat → List Value → List Value → η → α) (cl : Nat → List Value → η → (Option Value → η → α) → α) (rt : Option Value → η → α) :
    pm_go O bad br rty idx (pc, ins, len, x, y, zs) Lc stc h nx cl rt = (match pm_pu ins x y Lc stc with
      | some (L1, st1) => nx (idx + 1) L1 st1 h
      | none => bad) := by
  unfold an_pu at hk
  split at hk <;> first | rfl | cases hk
set_option maxHeartbeats 4000000 in
theorem an_go_ok (h : an_ok B F σ0 ρ A σ) (hL : an_ls A.1 ρ Lc L) (hs : an_ls A.1 ρ stc st) {T : List Nat} {rty : Option FieldType} {idx : Nat} {i : pm_I} {nx : Nat → an_k} {cl : an_kC} {rt : Option an_V → an_A → Bool}
    {NX : Nat → List Value → List Value → pm_S → Prop} {CL : Nat → List Value → pm_S → (Option Value → pm_S → Prop) → Prop} {RT : Option Value → pm_S → Prop}
    (hN : ∀ ρ' A' idx' L' st' Lc' stc' σ', an_ok B F σ0 ρ' A' σ' → an_ext ρ ρ' A.1 → A.1 ≤ A'.1 → an_ls A'.1 ρ' Lc' L' → an_ls A'.1 ρ' stc' st' → nx idx' L' st' A' = true → NX idx' Lc' stc' σ')
    (hC : ∀ k' As rest Asc restc, an_ls A.1 ρ Asc As → an_ls A.1 ρ restc rest → cl k' As rest A = true → CL k' Asc σ (fun r h1 => NX (idx + 1) Lc (pm_rv r restc) h1))
    (hR : ∀ r rc, an_ro A.1 ρ rc r → rt r A = true → RT rc σ)
    (hk : an_go B F T rty idx i L st A nx cl rt = true) : pm_go (pm_OS none) False pm_br rty idx i Lc stc σ NX CL RT := by
  obtain ⟨pc, ins, len, x, y, zs⟩ := i
  have hNs : an_N B F σ0 ρ A (nx (idx + 1) L) (NX (idx + 1) Lc) := fun ρ' A' st' stc' σ' q1 q2 q3 q4 q5 => hN ρ' A' _ _ _ _ _ σ' q1 q2 q3 (an_ls_x q2 q3 hL) q4 q5
  unfold an_go at hk
  dsimp only at hk
  split at hk
  · exact hN ρ A _ _ _ _ _ σ h (an_ext_rf _ _) (Nat.le_refl _) hL hs hk
  · rename_i c off
    split at hk
    · rename_i a st'
      match stc, hs with
      | [], hs => exact hs.elim
      | v :: stc, hs =>
        split at hk
        · rename_i hi
          obtain ⟨w, ew, hw⟩ := an_cv_int hs.1 hi
          rw [ew]
          obtain ⟨b1, b2⟩ := an_br_ok (y := 0) h hw (an_w1 rfl) hk
          refine ⟨fun q => ?_, fun q => ?_⟩
          · obtain ⟨A', g1, g2, g3⟩ := b1 (an_cc_sem.1 q)
            exact hN ρ A' _ _ _ _ _ σ g1 (an_ext_rf _ _) (by omega) (by rw [g2]; exact hL) (by rw [g2]; exact hs.2) g3
          · obtain ⟨A', g1, g2, g3⟩ := b2 (an_cc_sem.2 q)
            exact hN ρ A' _ _ _ _ _ σ g1 (an_ext_rf _ _) (by omega) (by rw [g2]; exact hL) (by rw [g2]; exact hs.2) g3
        · cases hk
    · cases hk
  · rename_i c off
    split at hk
    · rename_i b a st'
      match stc, hs with
      | [], hs => exact hs.elim
      | [_], hs => exact hs.2.elim
      | u :: v :: stc, hs =>
        split at hk
        · rename_i hi
          rw [Bool.and_eq_true] at hi
          obtain ⟨w, ew, hw⟩ := an_cv_int hs.2.1 hi.1
          obtain ⟨w2, ew2, hw2⟩ := an_cv_int hs.1 hi.2
          rw [ew, ew2]
          obtain ⟨b1, b2⟩ := an_br_ok h hw hw2 hk
          refine ⟨fun q => ?_, fun q => ?_⟩
          · obtain ⟨A', g1, g2, g3⟩ := b1 (an_cc_sem.1 q)
            exact hN ρ A' _ _ _ _ _ σ g1 (an_ext_rf _ _) (by omega) (by rw [g2]; exact hL) (by rw [g2]; exact hs.2.2) g3
          · obtain ⟨A', g1, g2, g3⟩ := b2 (an_cc_sem.2 q)
            exact hN ρ A' _ _ _ _ _ σ g1 (an_ext_rf _ _) (by omega) (by rw [g2]; exact hL) (by rw [g2]; exact hs.2.2) g3
        · cases hk
    · cases hk
  · split at hk
    · rename_i a st'
      match stc, hs with
      | [], hs => exact hs.elim
      | v :: stc, hs =>
        split at hk
        · rename_i hi
          obtain ⟨w, ew, hw⟩ := an_cv_int hs.1 hi
          rw [ew]
          exact an_sw_ok (NX := fun t => NX t Lc stc σ) h hw (fun t A' g1 g2 g3 => hN ρ A' _ _ _ _ _ σ g1 (an_ext_rf _ _) (by omega) (by rw [g2]; exact hL) (by rw [g2]; exact hs.2) g3) hk
        · cases hk
    · cases hk
  · split at hk
    · rename_i a st'
      match stc, hs with
      | [], hs => exact hs.elim
      | v :: stc, hs =>
        split at hk
        · rename_i hi
          obtain ⟨w, ew, hw⟩ := an_cv_int hs.1 hi
          rw [ew]
          exact an_sw_ok (NX := fun t => NX t Lc stc σ) h hw (fun t A' g1 g2 g3 => hN ρ A' _ _ _ _ _ σ g1 (an_ext_rf _ _) (by omega) (by rw [g2]; exact hL) (by rw [g2]; exact hs.2) g3) hk
        · cases hk
    · cases hk
  · exact an_gget_ok h hs hNs hk
  · exact an_gput_ok h hs hNs hk
  · exact an_gald_ok h hs hNs hk
  · exact an_gald_ok h hs hNs hk
  · exact an_gast_ok h hs hNs hk
  · exact an_gast_ok h hs hNs hk
  · exact an_glld_ok h hs hNs hk
  · exact an_glst_ok h hs hNs hk
  · exact an_glen_ok h hs hNs hk
  · exact an_gdiv_ok (o := 9) h hs (fun _ _ => rfl) hNs hk
  · exact an_gdiv_ok (o := 10) h hs (fun _ _ => rfl) hNs hk
  · unfold an_gcV at hk
    show pm_gcV (pm_OS none) False x y zs stc σ (NX (idx + 1) Lc) CL
    unfold pm_gcV
    split at hk
    · cases hk
    · rename_i hx
      rw [hx]
      dsimp only
      split at hk
      · cases hk
      · rename_i As rest hp
        obtain ⟨Asc, restc, e1, g1, g2⟩ := an_popn_ok y (acc := []) (aacc := []) trivial hs hp
        rw [e1]
        dsimp only
        split at hk
        · rename_i b rest'
          match restc, g2 with
          | [], g2 => exact g2.elim
          | v :: restc, g2 =>
            dsimp only
            split at hk
            · rename_i h8
              rw [an_cs_ok g2.2 h8]
              dsimp only
              split at hk
              · rename_i e
                have ev := an_cv_ref g2.1 e
                subst ev
                dsimp only
                split at hk
                · rename_i ci fs cj hl
                  have el : (pm_OS none).2.2.2.2.2.2.2.1 σ b.2.1 = some ci := by dsimp only [pm_OS]; rw [hl]
                  rw [el]
                  dsimp only
                  split at hk
                  · rename_i hc
                    rw [hc]
                    exact hC x (b :: As) rest' _ restc (an_ls_c g2.1 g1) g2.2 hk
                  · cases hk
                · cases hk
              · rename_i e
                have ev := an_cv_txt g2.1 e
                subst ev
                dsimp only
                split at hk
                · rename_i hb
                  rw [hb]
                  exact hC x (b :: As) rest' _ restc (an_ls_c g2.1 g1) g2.2 hk
                · cases hk
              · cases hk
            · cases hk
        · cases hk
  · rename_i ix
    split at hk
    · rename_i hx
      have e : pm_go (pm_OS none) False pm_br rty idx (pc, Instr.invokestatic ix, len, x, y, zs) Lc stc σ NX CL RT = pm_gint (pm_OS none) False pm_br x stc σ (NX (idx + 1) Lc) := by
        unfold pm_go
        dsimp only
        rw [hx]
      rw [e]
      exact an_gint_ok h hs hNs hk
    · rename_i hx
      have e : pm_go (pm_OS none) False pm_br rty idx (pc, Instr.invokestatic ix, len, x, y, zs) Lc stc σ NX CL RT = pm_gcS False x y stc σ (NX (idx + 1) Lc) CL := by
        unfold pm_go
        dsimp only
        rw [hx]
      rw [e]
      unfold an_gcS at hk
      unfold pm_gcS
      split at hk
      · cases hk
      · rename_i hx2
        rw [hx2]
        dsimp only
        split at hk
        · cases hk
        · rename_i As rest hp
          obtain ⟨Asc, restc, e1, g1, g2⟩ := an_popn_ok y (acc := []) (aacc := []) trivial hs hp
          rw [e1]
          dsimp only
          split at hk
          · rename_i h8
            rw [an_cs_ok g2 h8]
            exact hC x As rest Asc restc g1 g2 hk
          · cases hk
  · unfold an_gret at hk
    show pm_gret False pm_br rty stc σ RT
    split at hk
    · rename_i v
      match stc, hs with
      | [], hs => exact hs.elim
      | _ :: _ :: _, hs => exact hs.2.elim
      | [u], hs =>
        split at hk
        · rename_i hi
          obtain ⟨w, ew, hw⟩ := an_cv_int hs.1 hi
          subst ew
          have fin : rt (some v) A = true → RT (some (.int w)) σ := fun q => hR _ _ (show an_ro A.1 ρ (some (.int w)) (some v) from hs.1) q
          split at hk
          · exact fin hk
          · split at hk
            · rename_i hb
              obtain ⟨w2, ew2, -, c1, c2⟩ := an_in_ok h hb hs.1
              cases ew2
              exact ⟨fun _ => fin hk, fun q => absurd (an_b01 c1 c2) q⟩
            · cases hk
          · split at hk
            · rename_i hb
              obtain ⟨w2, ew2, -, c1, c2⟩ := an_in_ok h hb hs.1
              cases ew2
              exact ⟨fun _ => fin hk, fun q => absurd (Int32.toInt_inj.mp (show w.toInt = (0 : Int32).toInt by rw [show (0 : Int32).toInt = 0 from rfl]; omega)) q⟩
            · cases hk
          · split at hk
            · rename_i hb
              obtain ⟨w2, ew2, -, c1, c2⟩ := an_in_ok h hb hs.1
              cases ew2
              refine ⟨fun _ => fin hk, fun q => absurd ⟨?_, ?_⟩ q⟩
              · rw [Int32.lt_iff_toInt_lt, show (0 : Int32).toInt = 0 from rfl]; omega
              · rw [Int32.lt_iff_toInt_lt, show (256 : Int32).toInt = 256 from rfl]; omega
            · cases hk
          · cases hk
        · cases hk
    · cases hk
  · split at hk
    · rename_i v
      match stc, hs with
      | [], hs => exact hs.elim
      | _ :: _ :: _, hs => exact hs.2.elim
      | [u], hs =>
        split at hk
        · rename_i e
          obtain ⟨w, ew⟩ := an_cv_long hs.1 e
          subst ew
          exact hR _ _ (show an_ro A.1 ρ (some (.long w)) (some v) from hs.1) hk
        · cases hk
    · cases hk
  · split at hk
    · match stc, hs with
      | _ :: _, hs => exact hs.elim
      | [], hs =>
        split at hk
        · exact hR none none trivial hk
        · cases hk
    · cases hk
  · obtain ⟨ρ', A', L', st', Lc', stc', e1, g1, g2, g3, g4, g5, g6⟩ := an_pu_ok h hL hs hk
    rw [an_pu_go (pm_OS none) False pm_br hk, e1]
    exact hN ρ' A' _ _ _ _ _ σ g1 g2 g3 g4 g5 g6
end GO
