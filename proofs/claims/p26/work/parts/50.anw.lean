/-! THE ANALYSER, 11: both sides of a call -/
/-- cells that share a number: least, greatest, cells (place, index, what is added) -/
abbrev an_G : Type := Int × Int × List (Nat × Nat × Int)
def an_sg (σ : pm_S) (g : an_G) : Prop := ∃ v : Int, g.1 ≤ v ∧ v ≤ g.2.1 ∧ ∀ q ∈ g.2.2, (σ.1 q.1 q.2.1).toInt = v + q.2.2
def an_Inv (B : an_B) (G : List an_G) (σ : pm_S) : Prop := an_GB B σ ∧ ∀ g ∈ G, an_sg σ g
def an_gc (v : an_V) : List (Nat × Nat × Int) → an_C → an_C
  | [], C => C
  | q :: qs, C => (q.1, an_nj q.2.1, (v.1, v.2.1, v.2.2 + q.2.2)) :: an_gc v qs C
def an_grps : List an_G → an_A → (an_A → Bool) → Bool
  | [], A, k => k A
  | g :: gs, A, k => an_new A g.1 g.2.1 (fun A v => an_grps gs (an_setC A (an_gc v g.2.2 A.2.2.2.2)) k)
/-- the first cell of a group, then the others against it -/
def an_gch1 (B : an_B) (A : an_A) (g : an_G) : Bool := match g.2.2 with
  | [] => an_le g.1 g.2.1
  | q :: qs => match an_cell A.2.2.2.2 q.1 (an_nj q.2.1) with
    | some v => an_in A v (g.1 + q.2.2) (g.2.1 + q.2.2) && qs.all (fun r => match an_cell A.2.2.2.2 r.1 (an_nj r.2.1) with
      | some u => an_isI u && an_veq (u.1, u.2.1, u.2.2 - r.2.2) (v.1, v.2.1, v.2.2 - q.2.2)
      | none => false)
    | none => match qs with
      | [] => an_cels B A [(q.1, q.2.1, g.1 + q.2.2, g.2.1 + q.2.2)]
      | _ => false
def an_alike (A : an_A) (a b : an_V) : Bool := an_isI a && an_isI b && (an_veq a b || (match an_rg A.2.1 a, an_rg A.2.1 b with
  | (la, ha), (lb, hb) => an_eq la ha && an_eq lb hb && an_eq la lb))
def an_shv (t : Nat) (a : an_V) : Bool := match t with
  | 1 => an_isI a
  | _ => Nat.beq a.1 4
/-- answers are compared: ints, long constants -/
def an_cmp (t : Nat) (c : Bool) (A : an_A) (a b : an_V) : Bool := match c with
  | false => true
  | true => match t with
    | 1 => an_alike A a b
    | _ => Nat.beq a.1 4 && Nat.beq a.2.1 1 && an_veq a b
abbrev an_all : List (Nat × Nat) := [(9999, 9999)]
def an_two (B : an_B) (T : List Nat) (S : List an_S) (G G' : List an_G) (t : Nat) (c : Bool) (kC kM : Nat) (qs : List an_P) (f : Nat) : Bool := match pm_nth pm_tab kC, pm_nth pm_tab kM with
  | some MC, some MM => an_grps G an_A0 (fun A => an_init qs A (fun As A =>
    an_ac MC.2.2.1 ((2, 0, 0) :: As) && an_ac MM.2.2.1 ((2, 93, 0) :: As) && an_run B an_all T S [] none (fun r A1 => match r with
      | some v => an_shv t v && an_run B an_all T S [] none (fun r' A2 => match r' with
        | some v' => an_shv t v' && an_cmp t c A2 v v' && G'.all (an_gch1 B A2)
        | none => false) f 1199 kM MM.2.2.2.2.2 MM.2.2.2.1 [] 0 (an_L0 MM.2.2.1 ((2, 93, 0) :: As)) [] A1
      | none => false) f 1199 kC MC.2.2.2.2.2 MC.2.2.2.1 [] 0 (an_L0 MC.2.2.1 ((2, 0, 0) :: As)) [] A))
  | _, _ => false
section TWO
variable {B : an_B} {F : List (Nat × Nat)} {σ0 : pm_S} {ρ : Nat → Int} {A : an_A} {σ : pm_S}
theorem an_gc_ok {w : Int} {v : an_V} (hv : v.1 ≤ 1 ∧ an_vl A.1 v ∧ an_ev ρ v = w) : ∀ {cs : List (Nat × Nat × Int)} {C : an_C}, (∀ q ∈ cs, (σ.1 q.1 q.2.1).toInt = w + q.2.2) → (∀ q ∈ C, an_cw A.1 ρ σ q) → ∀ q ∈ an_gc v cs C, an_cw A.1 ρ σ q
  | [], C, _, hC => hC
  | c :: cs, C, hc, hC => by
    intro q hq
    rcases List.mem_cons.mp hq with e | e
    · rw [e]
      have nj := an_njw A.1 c.2.1 ρ
      refine ⟨nj.1, nj.2.1, nj.2.2.1, hv.1, hv.2.1, ?_⟩
      show (σ.1 c.1 c.2.1).toInt = an_ev ρ (v.1, v.2.1, v.2.2 + c.2.2)
      rw [hc c List.mem_cons_self, ← hv.2.2]
      unfold an_ev
      dsimp only
      split
      · omega
      · rfl
    · exact an_gc_ok hv (fun q hq => hc q (List.mem_cons_of_mem _ hq)) hC q e
theorem an_grps_ok {k : an_A → Bool} : ∀ {gs : List an_G} {ρ : Nat → Int} {A : an_A}, an_ok B F σ0 ρ A σ → (∀ g ∈ gs, an_sg σ g) → an_grps gs A k = true → ∃ ρ' A', an_ok B F σ0 ρ' A' σ ∧ k A' = true
  | [], ρ, A, h, _, hk => ⟨ρ, A, h, hk⟩
  | g :: gs, ρ, A, h, hg, hk => by
    obtain ⟨v, v1, v2, v3⟩ := hg g List.mem_cons_self
    unfold an_grps at hk
    unfold an_new at hk
    rw [an_fI_eq, an_fI_eq] at hk
    split at hk
    · rename_i e
      rw [an_eq_iff] at e
      refine an_grps_ok (A := an_setC A (an_gc (1, 0, g.1) g.2.2 A.2.2.2.2)) ⟨h.1, h.2.1, h.2.2.1, ?_, h.2.2.2.2⟩ (fun g' hg' => hg g' (List.mem_cons_of_mem _ hg')) hk
      exact an_gc_ok (w := v) ⟨Nat.le_refl 1, fun z => absurd (show (1 : Nat) = 0 from z) (by decide), by show g.1 = v; omega⟩ v3 h.2.2.2.1
    · rw [an_fN_eq] at hk
      obtain ⟨p1, p2⟩ := an_push h v
      have p3 := an_addF (A := (A.1 + 1, A.2)) (s := A.1) (l := g.1) (g := g.2.1) p1 (by show A.1 < A.1 + 1; omega) (by show g.1 ≤ (if A.1 = A.1 then v else ρ A.1); rw [if_pos rfl]; exact v1) (by show (if A.1 = A.1 then v else ρ A.1) ≤ g.2.1; rw [if_pos rfl]; exact v2)
      refine an_grps_ok (ρ := fun s => if s = A.1 then v else ρ s) (A := an_setC (A.1 + 1, (A.1, g.1, g.2.1) :: A.2.1, A.2.2) (an_gc (0, A.1, 0) g.2.2 A.2.2.2.2)) ⟨p3.1, p3.2.1, p3.2.2.1, ?_, p3.2.2.2.2⟩ (fun g' hg' => hg g' (List.mem_cons_of_mem _ hg')) hk
      exact an_gc_ok (A := (A.1 + 1, (A.1, g.1, g.2.1) :: A.2.1, A.2.2)) (w := v) ⟨Nat.zero_le 1, fun _ => by show A.1 < A.1 + 1; omega, by show (if A.1 = A.1 then v else ρ A.1) + 0 = v; rw [if_pos rfl]; omega⟩ v3 p3.2.2.2.1
theorem an_ev_sub {v : an_V} (c : Int) : an_ev ρ (v.1, v.2.1, v.2.2 - c) = an_ev ρ v - c := by
  unfold an_ev
  dsimp only
  split
  · omega
  · rfl
theorem an_gch1_ok (h : an_ok B F σ0 ρ A σ) {g : an_G} (hk : an_gch1 B A g = true) : an_sg σ g := by
  unfold an_gch1 at hk
  split at hk
  · rename_i e
    rw [an_le_iff] at hk
    exact ⟨g.1, Int.le_refl _, hk, fun q hq => by rw [e] at hq; exact absurd hq List.not_mem_nil⟩
  · rename_i q qs e
    split at hk
    · rename_i v ev
      rw [Bool.and_eq_true] at hk
      have hw := an_cnj h ev
      obtain ⟨w, e1, -, b1, b2⟩ := an_in_ok h hk.1 (an_cv_of hw)
      cases e1
      refine ⟨(σ.1 q.1 q.2.1).toInt - q.2.2, by omega, by omega, fun r hr => ?_⟩
      rw [e] at hr
      rcases List.mem_cons.mp hr with hr | hr
      · rw [hr]; omega
      · have := List.all_eq_true.mp hk.2 r hr
        split at this
        · rename_i u eu
          rw [Bool.and_eq_true] at this
          have hu := an_cnj h eu
          have e2 := congrArg (an_ev ρ) (an_veq_ok this.2)
          rw [an_ev_sub, an_ev_sub, ← hw.2.2, ← hu.2.2] at e2
          omega
        · cases this
    · split at hk
      · have := an_cels_ok h hk (q.1, q.2.1, g.1 + q.2.2, g.2.1 + q.2.2) List.mem_cons_self
        simp only at this
        refine ⟨(σ.1 q.1 q.2.1).toInt - q.2.2, by omega, by omega, fun r hr => ?_⟩
        rw [e] at hr
        rcases List.mem_cons.mp hr with hr | hr
        · rw [hr]; omega
        · exact absurd hr List.not_mem_nil
      · cases hk
theorem an_alike_ok (h : an_ok B F σ0 ρ A σ) {a b : an_V} {v u : Value} (hv : an_cv A.1 ρ v a) (hu : an_cv A.1 ρ u b) (hk : an_alike A a b = true) : ∃ w, v = .int w ∧ u = .int w := by
  unfold an_alike at hk
  rw [Bool.and_eq_true, Bool.and_eq_true, Bool.or_eq_true] at hk
  obtain ⟨w1, e1, h1⟩ := an_cv_int hv hk.1.1
  obtain ⟨w2, e2, h2⟩ := an_cv_int hu hk.1.2
  have key : w1.toInt = w2.toInt := by
    rcases hk.2 with q | q
    · rw [h1.2.2, h2.2.2, an_veq_ok q]
    · have r1 := an_rg_ok h h1
      have r2 := an_rg_ok h h2
      split at q
      rename_i la ha lb hb q1 q2
      rw [q1] at r1
      rw [q2] at r2
      simp only [Bool.and_eq_true, an_eq_iff] at q r1 r2
      omega
  have key2 := Int32.toInt_inj.mp key
  exact ⟨w1, e1, by rw [e2, key2]⟩
theorem an_shv_ok {n t : Nat} {a : an_V} {v : Value} (hv : an_cv n ρ v a) (hk : an_shv t a = true) : an_sh t (some v) := by
  unfold an_shv at hk
  unfold an_sh
  split at hk
  · obtain ⟨w, e, -⟩ := an_cv_int hv hk
    exact ⟨w, by rw [e]⟩
  · rename_i g
    obtain ⟨w, e⟩ := an_cv_long hv (Nat.eq_of_beq_eq_true hk)
    split
    · exact absurd rfl g
    · exact ⟨w, by rw [e]⟩
theorem an_cmp_ok (h : an_ok B F σ0 ρ A σ) {t : Nat} {c : Bool} {a b : an_V} {v u : Value} (hv : an_cv A.1 ρ v a) (hu : an_cv A.1 ρ u b) (hk : an_cmp t c A a b = true) : c = true → some v = some u := by
  intro hc
  unfold an_cmp at hk
  split at hk
  · cases hc
  · split at hk
    · obtain ⟨w, e1, e2⟩ := an_alike_ok h hv hu hk
      rw [e1, e2]
    · rw [Bool.and_eq_true, Bool.and_eq_true] at hk
      have k1 := Nat.eq_of_beq_eq_true hk.1.1
      have k2 := Nat.eq_of_beq_eq_true hk.1.2
      have k3 := an_veq_ok hk.2
      unfold an_cv at hv hu
      rw [k1] at hv
      rw [← k3, k1] at hu
      obtain ⟨w1, e1, g1⟩ := hv
      obtain ⟨w2, e2, g2⟩ := hu
      have : w1 = w2 := Int64.toInt_inj.mp (by rw [g1 k2, g2 k2])
      rw [e1, e2, this]
theorem an_two_ok {T : List Nat} {S : List an_S} {G G' : List an_G} {t kC kM f : Nat} {c : Bool} {qs : List an_P} (hS : ∀ e ∈ S, an_sok B e) (hk : an_two B T S G G' t c kC kM qs f = true) {as : List Value} (has : an_sargs as qs) : Two t c (an_Inv B G) (an_Inv B G') kC kM as := by
  intro σ0 hI
  unfold an_two at hk
  split at hk
  · rename_i MC MM hC hM
    have hC' : pm_tab[kC]? = some MC := by rw [← pm_nth_eq]; exact hC
    have hM' : pm_tab[kM]? = some MM := by rw [← pm_nth_eq]; exact hM
    obtain ⟨ρ1, A1, h1, hk⟩ := an_grps_ok (an_A0_ok (F := an_all) hI.1 hI.1 (fun _ _ _ => rfl) (fun _ => 0)) hI.2 hk
    obtain ⟨ρ2, A2, As, h2, -, -, h3, hk⟩ := an_init_ok h1 has hk
    rw [Bool.and_eq_true, Bool.and_eq_true] at hk
    obtain ⟨⟨a1, a2⟩, hk⟩ := hk
    have hCl : an_ls A2.1 ρ2 (.ref 0 :: as) ((2, 0, 0) :: As) := an_ls_c (an_cv2 _ _) h3
    have hC0 : an_ls A2.1 ρ2 (pm_L0 MC.2.2.1 (.ref 0 :: as)) (an_L0 MC.2.2.1 ((2, 0, 0) :: As)) := by
      unfold pm_L0 an_L0
      rw [an_ls_len hCl]
      exact an_L0_ok hCl
    refine Sp.of hC' (an_ac_ok hCl a1) ?_
    refine an_run_ok (k0 := kC) (d0 := 1199) (n0 := A2.1) (ρ0 := ρ2) (σ0 := σ0) hS (fun ρ A σ r rc q1 qx qn qr qk => ?_) (fun hd hhd => absurd hhd List.not_mem_nil) f 1199 kC MC [] [] 0 _ [] A2 ρ2 σ0 _ [] hC ⟨rfl, rfl⟩ h2 (an_ext_rf _ _) (Nat.le_refl _) hC0 trivial trivial hk
    split at qk
    · rename_i v
      cases rc with
      | none => exact qr.elim
      | some vc =>
        rw [Bool.and_eq_true] at qk
        refine ⟨an_shv_ok qr qk.1, ?_⟩
        have qk := qk.2
        have hMl : an_ls A.1 ρ (.ref 93 :: as) ((2, 93, 0) :: As) := an_ls_c (an_cv2 _ _) (an_ls_x qx qn h3)
        have hM0 : an_ls A.1 ρ (pm_L0 MM.2.2.1 (.ref 93 :: as)) (an_L0 MM.2.2.1 ((2, 93, 0) :: As)) := by
          unfold pm_L0 an_L0
          rw [an_ls_len hMl]
          exact an_L0_ok hMl
        refine Sp.of hM' (an_ac_ok hMl a2) ?_
        refine an_run_ok (k0 := kM) (d0 := 1199) (n0 := A.1) (ρ0 := ρ) (σ0 := σ0) hS (fun ρ' A' σ' r' rc' z1 zx zn zr zk => ?_) (fun hd hhd => absurd hhd List.not_mem_nil) f 1199 kM MM [] [] 0 _ [] A ρ σ _ [] hM ⟨rfl, rfl⟩ q1 (an_ext_rf _ _) (Nat.le_refl _) hM0 trivial trivial qk
        split at zk
        · rename_i v'
          cases rc' with
          | none => exact zr.elim
          | some vc' =>
            rw [Bool.and_eq_true, Bool.and_eq_true] at zk
            exact ⟨an_shv_ok zr zk.1.1, an_cmp_ok z1 (an_cv_x qr zx zn) zr zk.1.2, z1.2.2.2.2.1, fun g hg => an_gch1_ok z1 (List.all_eq_true.mp zk.2 g hg)⟩
        · cases zk
    · cases qk
  · cases hk
/-- both sides out of two summaries with one and the same answer -/
theorem an_two_S {G : List an_G} {eC eM : an_S} {c : Int} {cmp : Bool} (hC : an_sok B eC) (hM : an_sok B eM) (hD : eC.2.1 ≤ 1200) (hD' : eM.2.1 ≤ 1200) (h1 : eC.2.2.2.2.1 = (1, c, c)) (h2 : eM.2.2.2.2.1 = (1, c, c)) (hcC : ∀ σ, an_Inv B G σ → an_scel σ eC.2.2.2.1) (hcM : ∀ σ, an_Inv B G σ → an_scel σ eM.2.2.2.1) (hf : ∀ q ∈ eM.2.2.2.1, an_inF eC.2.2.2.2.2.1 q.1 q.2.1 = false) {as : List Value} (hasC : an_sargs (.ref 0 :: as) eC.2.2.1) (hasM : an_sargs (.ref 93 :: as) eM.2.2.1) : Two 1 cmp (an_Inv B G) (an_Inv B []) eC.1 eM.1 as := by
  intro σ hI
  refine (hC σ _ hI.1 hasC (hcC σ hI)).use hD (fun r τ hr => ?_)
  obtain ⟨k1, k2, k5, -⟩ := hr
  rw [h1] at k2
  obtain ⟨w, e, k3, k4⟩ := k2
  refine ⟨⟨w, e⟩, ?_⟩
  have hc : an_scel τ eM.2.2.2.1 := by
    intro q hq
    rw [k5 _ _ (hf q hq)]
    exact hcM σ hI q hq
  refine (hM τ _ k1 hasM hc).use hD' (fun r' τ' hr' => ?_)
  obtain ⟨m1, m2, -, -⟩ := hr'
  rw [h2] at m2
  obtain ⟨w', e', m3, m4⟩ := m2
  simp only at k3 k4 m3 m4
  have ew : w = w' := Int32.toInt_inj.mp (by omega)
  exact ⟨⟨w', e'⟩, fun _ => by rw [e, e', ew], m1, fun g hg => absurd hg List.not_mem_nil⟩
end TWO
