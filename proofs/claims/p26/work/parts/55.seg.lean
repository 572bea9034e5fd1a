/-! SEGMENTS: runs from one place of a method to given others; what is known there is handed on -/
/-- an end of a run: place (9999: a return), locals, stack (or what comes back), intervals, relations, computed symbols, cells -/
abbrev an_T : Type := Nat × List an_V × List an_V × List (Nat × Int × Int) × List (Nat × Nat × Nat × Int) × List (Nat × an_V × an_V × Nat) × an_C
def an_vls : List an_V → List an_V → Bool
  | [], [] => true
  | a :: as, b :: bs => an_veq a b && an_vls as bs
  | _, _ => false
def an_tF (A : an_A) (F : List (Nat × Int × Int)) : Bool := F.all (fun q => match an_fd A.2.1 q.1 with
  | some r => an_le q.2.1 r.1 && an_le r.2 q.2.2
  | none => false)
def an_tR (A : an_A) (R : List (Nat × Nat × Nat × Int)) : Bool := R.all (fun q => an_rlk A.2.2.1 q.1 q.2.1 q.2.2.1 q.2.2.2)
def an_tD (A : an_A) (R : List (Nat × an_V × an_V × Nat)) : Bool := R.all (fun q => match an_cse A.2.2.2.1 q.1 q.2.1 q.2.2.1 with
  | some s => Nat.beq s q.2.2.2
  | none => false)
def an_tC (A : an_A) (C : an_C) : Bool := C.all (fun q => match an_cell A.2.2.2.2 q.1 q.2.1 with
  | some v => an_veq v q.2.2
  | none => false)
def an_tm (idx : Nat) (L st : List an_V) (A : an_A) (t : an_T) : Bool := match Nat.beq t.1 idx with
  | false => false
  | true => an_vls L t.2.1 && an_vls st t.2.2.1 && an_tF A t.2.2.2.1 && an_tR A t.2.2.2.2.1 && an_tD A t.2.2.2.2.2.1 && an_tC A t.2.2.2.2.2.2
def an_lf (ts : List an_T) (idx : Nat) (L st : List an_V) (A : an_A) : Bool := ts.any (an_tm idx L st A)
def an_cu (fs : List an_fr) (idx : Nat) (cs : List Nat) : Bool := match fs with
  | [] => cs.any (fun c => Nat.beq c idx)
  | _ => false
def an_ru (B : an_B) (F : List (Nat × Nat)) (T : List Nat) (S : List an_S) (cs : List Nat) (lf : Nat → List an_V → List an_V → an_A → Bool) : Nat → Nat → Nat → List pm_I → Option FieldType → List an_fr → Nat → List an_V → List an_V → an_A → Bool
  | 0, _, _, _, _, _, _, _, _, _ => false
  | f + 1, d, k, C, rty, fs, idx, L, st, A => match pm_nth C idx with
    | none => false
    | some i => an_go B F T rty idx i L st A
      (fun idx' L' st' A' => match an_cu fs idx' cs with
        | true => lf idx' L' st' A'
        | false => an_ru B F T S cs lf f d k C rty fs idx' L' st' A')
      (fun k' As rest A' => match an_pure d k' As A' with
       | some a => an_bin 16 a (1, 0, 0) A' (fun A2 v => match an_cu fs (idx + 1) cs with
          | true => lf (idx + 1) L (v :: rest) A2
          | false => an_ru B F T S cs lf f d k C rty fs (idx + 1) L (v :: rest) A2)
       | none => match an_find B d k' As A' S with
        | some e => an_app F e A' (fun r A2 => match an_cu fs (idx + 1) cs with
          | true => lf (idx + 1) L (an_rv r rest) A2
          | false => an_ru B F T S cs lf f d k C rty fs (idx + 1) L (an_rv r rest) A2)
        | none => match d with
          | 0 => false
          | d' + 1 => match pm_nth pm_tab k' with
            | none => false
            | some M => match an_ac M.2.2.1 As with
              | true => an_ru B F T S cs lf f d' k' M.2.2.2.2.2 M.2.2.2.1 ((k, idx + 1, L, rest) :: fs) 0 (an_L0 M.2.2.1 As) [] A'
              | false => false)
      (fun r A' => match fs with
        | [] => lf 9999 [] (an_rv r []) A'
        | (k2, idx2, L2, st2) :: fs' => match pm_nth pm_tab k2 with
          | none => false
          | some M => match an_cu fs' idx2 cs with
            | true => lf idx2 L2 (an_rv r st2) A'
            | false => an_ru B F T S cs lf f (d + 1) k2 M.2.2.2.2.2 M.2.2.2.1 fs' idx2 L2 (an_rv r st2) A')
theorem an_cu_ok {fs : List an_fr} {idx : Nat} {cs : List Nat} (h : an_cu fs idx cs = true) : fs = [] ∧ cs.any (fun c => Nat.beq c idx) = true := by
  unfold an_cu at h
  split at h
  · exact ⟨rfl, h⟩
  · cases h
section SOUND
variable {B : an_B} {F : List (Nat × Nat)} {T : List Nat} {S : List an_S} {cs : List Nat} {lf : Nat → List an_V → List an_V → an_A → Bool} {σ0 : pm_S} {Q : Option Value → pm_S → Prop} {k0 d0 n0 : Nat} {ρ0 : Nat → Int}
theorem an_ru_ok (hS : ∀ e ∈ S, an_sok B e)
    (hfin : ∀ ρ A σ r rc, an_ok B F σ0 ρ A σ → an_ext ρ0 ρ n0 → n0 ≤ A.1 → an_ro A.1 ρ rc r → lf 9999 [] (an_rv r []) A = true → Q rc σ)
    (hcut : ∀ idx ρ A σ L st Lc stc, cs.any (fun c => Nat.beq c idx) = true → an_ok B F σ0 ρ A σ → an_ext ρ0 ρ n0 → n0 ≤ A.1 → an_ls A.1 ρ Lc L → an_ls A.1 ρ stc st → lf idx L st A = true → Ok k0 (d0 + 1) idx Lc stc σ Q) :
    ∀ (f d k : Nat) (M : pm_M) (fs : List an_fr) (fsc : List (Nat × Nat × List Value × List Value)) (idx : Nat) (L st : List an_V) (A : an_A) (ρ : Nat → Int) (σ : pm_S) (Lc stc : List Value), pm_nth pm_tab k = some M → an_bot k0 d0 d k fs → an_ok B F σ0 ρ A σ → an_ext ρ0 ρ n0 → n0 ≤ A.1 → an_ls A.1 ρ Lc L → an_ls A.1 ρ stc st → an_frs A.1 ρ fsc fs → an_ru B F T S cs lf f d k M.2.2.2.2.2 M.2.2.2.1 fs idx L st A = true → Ok k (d + 1) idx Lc stc σ (an_K Q d fsc) := by
  intro f
  induction f with
  | zero => intro d k M fs fsc idx L st A ρ σ Lc stc _ _ _ _ _ _ _ _ h; cases h
  | succ f ih =>
    intro d k M fs fsc idx L st A ρ σ Lc stc hM hbot h hx hn hL hs hfr hk
    unfold an_ru at hk
    split at hk
    · cases hk
    · rename_i i hi
      have hM' : pm_tab[k]? = some M := by rw [← pm_nth_eq]; exact hM
      have at1 : ∀ (fs : List an_fr) (fsc : List (Nat × Nat × List Value × List Value)) (d k : Nat) (M : pm_M), pm_nth pm_tab k = some M → an_bot k0 d0 d k fs → ∀ ρ' A' idx' L' st' Lc' stc' σ', an_ok B F σ0 ρ' A' σ' → an_ext ρ0 ρ' n0 → n0 ≤ A'.1 → an_ls A'.1 ρ' Lc' L' → an_ls A'.1 ρ' stc' st' → an_frs A'.1 ρ' fsc fs → (match an_cu fs idx' cs with
          | true => lf idx' L' st' A'
          | false => an_ru B F T S cs lf f d k M.2.2.2.2.2 M.2.2.2.1 fs idx' L' st' A') = true → Ok k (d + 1) idx' Lc' stc' σ' (an_K Q d fsc) := by
        intro fs fsc d k M hM hbot ρ' A' idx' L' st' Lc' stc' σ' q1 qx qn q2 q3 q4 q5
        split at q5
        · rename_i e
          obtain ⟨e1, e2⟩ := an_cu_ok e
          subst e1
          match fsc, q4 with
          | _ :: _, q4 => exact q4.elim
          | [], q4 =>
            obtain ⟨b1, b2⟩ := hbot
            subst b1
            subst b2
            exact hcut idx' ρ' A' σ' L' st' Lc' stc' e2 q1 qx qn q2 q3 q5
        · exact ih d k M fs fsc idx' L' st' A' ρ' σ' Lc' stc' hM hbot q1 qx qn q2 q3 q4 q5
      refine Ok.one hM' hi (an_go_ok h hL hs ?_ ?_ ?_ hk)
      · intro ρ' A' idx' L' st' Lc' stc' σ' q1 q2 q3 q4 q5 q6
        exact at1 fs fsc d k M hM hbot ρ' A' idx' L' st' Lc' stc' σ' q1 (an_ext_tr hx q2 hn) (Nat.le_trans hn q3) q4 q5 (an_frs_x q2 q3 hfr) q6
      · intro k' As rest Asc restc g1 g2 g3
        split at g3
        · rename_i a ha
          obtain ⟨w, hw, hsp⟩ := an_pure_ok h g1 ha
          refine hsp.mono (fun r τ hr => ?_)
          obtain ⟨rfl, rfl⟩ := hr
          obtain ⟨ρ', A', c, k1, k2, k3, k4, k5⟩ := an_bin_ok (y := 0) h hw (an_w1 rfl) g3
          exact at1 fs fsc d k M hM hbot ρ' A' (idx + 1) L (c :: rest) Lc (.int (an_f 16 w 0) :: restc) τ k1 (an_ext_tr hx k2 hn) (Nat.le_trans hn k3) (an_ls_x k2 k3 hL) (an_ls_c (an_cv_of k4) (an_ls_x k2 k3 g2)) (an_frs_x k2 k3 hfr) k5
        split at g3
        · rename_i e he
          obtain ⟨m1, m2, m3, m4, m5⟩ := an_find_ok he
          have hsp := hS e m1 σ Asc h.2.2.2.2.1 (an_args_ok h g1 m4) (an_cels_ok h m5)
          rw [m2] at hsp
          refine hsp.use m3 (fun r τ hr => ?_)
          obtain ⟨r1, r2, r3, r4⟩ := hr
          obtain ⟨ρ', A', a, k1, k2, k3, k4, k5⟩ := an_app_ok h g3 r1 r2 r3 r4
          exact at1 fs fsc d k M hM hbot ρ' A' (idx + 1) L (an_rv a rest) Lc (pm_rv r restc) τ k1 (an_ext_tr hx k2 hn) (Nat.le_trans hn k3) (an_ls_x k2 k3 hL) (an_rv_ok k4 (an_ls_x k2 k3 g2)) (an_frs_x k2 k3 hfr) k5
        · split at g3
          · cases g3
          · rename_i d' hpu hfn
            split at g3
            · cases g3
            · rename_i M' hM2
              split at g3
              · rename_i hac
                have hM2' : pm_tab[k']? = some M' := by rw [← pm_nth_eq]; exact hM2
                refine Sp.of hM2' (an_ac_ok g1 hac) ?_
                have hL0 : an_ls A.1 ρ (pm_L0 M'.2.2.1 Asc) (an_L0 M'.2.2.1 As) := by
                  unfold pm_L0 an_L0
                  rw [an_ls_len g1]
                  exact an_L0_ok g1
                exact ih d' k' M' ((k, idx + 1, L, rest) :: fs) ((k, idx + 1, Lc, restc) :: fsc) 0 _ [] A ρ σ _ [] hM2 hbot h hx hn hL0 trivial ⟨rfl, rfl, hL, g2, hfr⟩ g3
              · cases g3
      · intro r rc g1 g2
        split at g2
        · match fsc, hfr with
          | _ :: _, hfr => exact hfr.elim
          | [], hfr => exact hfin ρ A σ r rc h hx hn g1 g2
        · rename_i k2 idx2 L2 st2 fs'
          match fsc, hfr with
          | [], hfr => exact hfr.elim
          | (c1, c2, c3, c4) :: fsc', hfr =>
            obtain ⟨f1, f2, f3, f4, f5⟩ := hfr
            dsimp only at f1 f2 f3 f4
            subst f1
            subst f2
            split at g2
            · cases g2
            · rename_i M2 hM2
              exact at1 fs' fsc' (d + 1) c1 M2 hM2 hbot ρ A c2 L2 (an_rv r st2) c3 (pm_rv rc c4) σ h hx hn f3 (an_rv_ok g1 f4) f5 g2
end SOUND
/-! what is known at an end, in plain words -/
def an_e0 (x c : Int) : Int := match c with
  | .ofNat 0 => x
  | c => x + c
theorem an_e0_eq (x c : Int) : an_e0 x c = x + c := by
  unfold an_e0
  split
  · exact (Int.add_zero x).symm
  · rfl
def an_ez (ρ : Nat → Int) (a : an_V) : Int := match a.1 with
  | 0 => an_e0 (ρ a.2.1) a.2.2
  | _ => a.2.2
theorem an_ez_eq (ρ : Nat → Int) (a : an_V) : an_ez ρ a = an_ev ρ a := by
  obtain ⟨a1, a2, a3⟩ := a
  match a1 with
  | 0 => exact an_e0_eq _ _
  | _ + 1 => rfl
def an_pF (ρ : Nat → Int) : List (Nat × Int × Int) → Prop
  | [] => True
  | q :: qs => (q.2.1 ≤ ρ q.1 ∧ ρ q.1 ≤ q.2.2) ∧ an_pF ρ qs
def an_pR (ρ : Nat → Int) : List (Nat × Nat × Nat × Int) → Prop
  | [] => True
  | q :: qs => an_rs ρ q ∧ an_pR ρ qs
def an_pD (ρ : Nat → Int) : List (Nat × an_V × an_V × Nat) → Prop
  | [] => True
  | q :: qs => (an_f q.1 (Int32.ofInt (an_ez ρ q.2.1)) (Int32.ofInt (an_ez ρ q.2.2.1))).toInt = ρ q.2.2.2 ∧ an_pD ρ qs
def an_pC (ρ : Nat → Int) (σ : pm_S) : an_C → Prop
  | [] => True
  | q :: qs => (σ.1 q.1 (an_ez ρ q.2.1).toNat).toInt = an_ez ρ q.2.2 ∧ an_pC ρ σ qs
def an_pv (ρ : Nat → Int) (a : an_V) (v : Value) : Prop := match a.1 with
  | 0 => v = .int (Int32.ofInt (an_e0 (ρ a.2.1) a.2.2))
  | 1 => v = .int (Int32.ofInt a.2.2)
  | 2 => v = .ref a.2.1
  | 3 => v = .retAddr a.2.1
  | 4 => ∃ w, v = .long w ∧ (a.2.1 = 1 → w.toInt = a.2.2)
  | 5 => v.category = 1
  | _ => True
def an_pL (ρ : Nat → Int) : List an_V → List Value → Prop
  | [], [] => True
  | a :: as, v :: vs => an_pv ρ a v ∧ an_pL ρ as vs
  | _, _ => False
theorem an_pv_ok {n : Nat} {ρ : Nat → Int} {v : Value} {a : an_V} (h : an_cv n ρ v a) : an_pv ρ a v := by
  obtain ⟨a1, a2, a3⟩ := a
  match a1, h with
  | 0, h =>
    obtain ⟨w, e, h2⟩ := h
    show v = .int (Int32.ofInt (an_e0 (ρ a2) a3))
    rw [an_e0_eq, e, show ρ a2 + a3 = an_ev ρ (0, a2, a3) from rfl, ← h2.2.2, ai_as]
  | 1, h =>
    obtain ⟨w, e, h2⟩ := h
    show v = .int (Int32.ofInt a3)
    rw [e, show a3 = an_ev ρ (1, a2, a3) from rfl, ← h2.2.2, ai_as]
  | 2, h => exact h
  | 3, h => exact h
  | 4, h => exact h
  | 5, h => exact h
  | _ + 6, h => trivial
theorem an_pL_ok {n : Nat} {ρ : Nat → Int} : ∀ {vs : List Value} {as : List an_V}, an_ls n ρ vs as → an_pL ρ as vs
  | [], [], _ => trivial
  | _ :: _, _ :: _, h => ⟨an_pv_ok h.1, an_pL_ok h.2⟩
  | [], _ :: _, h => h.elim
  | _ :: _, [], h => h.elim
theorem an_vls_ok : ∀ {as bs : List an_V}, an_vls as bs = true → as = bs
  | [], [], _ => rfl
  | a :: as, b :: bs, h => by
    unfold an_vls at h
    rw [Bool.and_eq_true] at h
    rw [an_veq_ok h.1, an_vls_ok h.2]
  | [], _ :: _, h => by cases h
  | _ :: _, [], h => by cases h
theorem an_rlk_in {n u s : Nat} {c : Int} : ∀ {R : List (Nat × Nat × Nat × Int)}, an_rlk R n u s c = true → (n, u, s, c) ∈ R
  | [], h => by cases h
  | q :: qs, h => by
    unfold an_rlk at h
    rw [Bool.or_eq_true] at h
    rcases h with h | h
    · simp only [Bool.and_eq_true, an_eq_iff] at h
      obtain ⟨⟨⟨h1, h2⟩, h3⟩, h4⟩ := h
      have : q = (n, u, s, c) := by
        rw [← Nat.eq_of_beq_eq_true h1, ← Nat.eq_of_beq_eq_true h2, ← Nat.eq_of_beq_eq_true h3, ← h4]
      rw [this]
      exact List.mem_cons_self
    · exact List.mem_cons_of_mem _ (an_rlk_in h)
section FACTS
variable {B : an_B} {F : List (Nat × Nat)} {σ0 : pm_S} {ρ : Nat → Int} {A : an_A} {σ : pm_S}
theorem an_tF_ok (h : an_ok B F σ0 ρ A σ) : ∀ {G : List (Nat × Int × Int)}, an_tF A G = true → an_pF ρ G
  | [], _ => trivial
  | q :: qs, hk => by
    unfold an_tF at hk
    rw [List.all_cons, Bool.and_eq_true] at hk
    refine ⟨?_, an_tF_ok h hk.2⟩
    have h1 := hk.1
    split at h1
    · rename_i r hr
      rw [Bool.and_eq_true, an_le_iff, an_le_iff] at h1
      have := h.1 _ (an_fd_ok hr)
      dsimp only at this
      omega
    · cases h1
theorem an_tR_ok (h : an_ok B F σ0 ρ A σ) : ∀ {G : List (Nat × Nat × Nat × Int)}, an_tR A G = true → an_pR ρ G
  | [], _ => trivial
  | q :: qs, hk => by
    unfold an_tR at hk
    rw [List.all_cons, Bool.and_eq_true] at hk
    exact ⟨(h.2.1 _ (an_rlk_in hk.1)).2.2, an_tR_ok h hk.2⟩
theorem an_tD_ok (h : an_ok B F σ0 ρ A σ) : ∀ {G : List (Nat × an_V × an_V × Nat)}, an_tD A G = true → an_pD ρ G
  | [], _ => trivial
  | q :: qs, hk => by
    unfold an_tD at hk
    rw [List.all_cons, Bool.and_eq_true] at hk
    refine ⟨?_, an_tD_ok h hk.2⟩
    have h1 := hk.1
    split at h1
    · rename_i s hs
      have := (h.2.2.1 _ (an_cse_ok hs)).2.2.2
      rw [← Nat.eq_of_beq_eq_true h1, an_ez_eq, an_ez_eq]
      exact this
    · cases h1
theorem an_tC_ok (h : an_ok B F σ0 ρ A σ) : ∀ {G : an_C}, an_tC A G = true → an_pC ρ σ G
  | [], _ => trivial
  | q :: qs, hk => by
    unfold an_tC at hk
    rw [List.all_cons, Bool.and_eq_true] at hk
    refine ⟨?_, an_tC_ok h hk.2⟩
    have h1 := hk.1
    split at h1
    · rename_i v hv
      have := (h.2.2.2.1 _ (an_cell_ok hv)).2.2.2.2.2
      rw [← an_veq_ok h1, an_ez_eq, an_ez_eq]
      exact this
    · cases h1
end FACTS
/-- what is asked at an end -/
def an_gl (k d : Nat) (Q : Option Value → pm_S → Prop) (i : Nat) (Lc stc : List Value) (τ : pm_S) : Prop := match i with
  | 9999 => Q stc.head? τ
  | i => Ok k (d + 1) i Lc stc τ Q
/-- the range of an entry's value: its symbol's, which must be told -/
def an_ei (F0 : List (Nat × Int × Int)) (a : an_V) : Int × Int := match a.1 with
  | 0 => match an_fd F0 a.2.1 with
    | some r => (r.1 + a.2.2, r.2 + a.2.2)
    | none => (-4294967296, 4294967296)
  | _ => (a.2.2, a.2.2)
def an_ea (n : Nat) (F0 : List (Nat × Int × Int)) (a : an_V) : Bool := match a.1 with
  | 0 => Nat.ble (a.2.1 + 1) n && an_le an_mn (an_ei F0 a).1 && an_le (an_ei F0 a).2 an_mx
  | 1 => an_le an_mn a.2.2 && an_le a.2.2 an_mx
  | _ => true
/-- entries: symbols are ints, cells hold them -/
def an_ew (n : Nat) (F0 : List (Nat × Int × Int)) (C0 : an_C) (L st : List an_V) : Bool :=
  F0.all (fun q => Nat.ble (q.1 + 1) n) && C0.all (fun q => Nat.ble q.2.1.1 1 && Nat.ble q.2.2.1 1 && (Nat.beq q.2.1.1 1 || Nat.ble (q.2.1.2.1 + 1) n) && (Nat.beq q.2.2.1 1 || Nat.ble (q.2.2.2.1 + 1) n) && an_le 0 (an_ei F0 q.2.1).1) && L.all (an_ea n F0) && st.all (an_ea n F0)
theorem an_pF_mem {ρ : Nat → Int} : ∀ {G : List (Nat × Int × Int)}, an_pF ρ G → ∀ q ∈ G, q.2.1 ≤ ρ q.1 ∧ ρ q.1 ≤ q.2.2
  | [], _, q, hq => absurd hq List.not_mem_nil
  | x :: xs, h, q, hq => by
    rcases List.mem_cons.mp hq with e | e
    · rw [e]; exact h.1
    · exact an_pF_mem h.2 q e
theorem an_pC_mem {ρ : Nat → Int} {σ : pm_S} : ∀ {G : an_C}, an_pC ρ σ G → ∀ q ∈ G, (σ.1 q.1 (an_ev ρ q.2.1).toNat).toInt = an_ev ρ q.2.2
  | [], _, q, hq => absurd hq List.not_mem_nil
  | x :: xs, h, q, hq => by
    rcases List.mem_cons.mp hq with e | e
    · rw [e, ← an_ez_eq, ← an_ez_eq]; exact h.1
    · exact an_pC_mem h.2 q e
theorem an_ei_ok {ρ : Nat → Int} {F0 : List (Nat × Int × Int)} (hF : an_pF ρ F0) {a : an_V} (h1 : a.1 ≤ 1) (h2 : -4294967296 < (an_ei F0 a).1) : (an_ei F0 a).1 ≤ an_ev ρ a ∧ an_ev ρ a ≤ (an_ei F0 a).2 := by
  obtain ⟨a1, a2, a3⟩ := a
  match a1, h1, h2 with
  | 0, _, h2 =>
    have e1 : an_ev ρ (0, a2, a3) = ρ a2 + a3 := rfl
    have e2 : an_ei F0 (0, a2, a3) = (match an_fd F0 a2 with
      | some r => (r.1 + a3, r.2 + a3)
      | none => (-4294967296, 4294967296)) := rfl
    rw [e1, e2]
    rw [e2] at h2
    cases hr : an_fd F0 a2 with
    | some r =>
      have := an_pF_mem hF _ (an_fd_ok hr)
      dsimp only at this ⊢
      omega
    | none =>
      rw [hr] at h2
      exact absurd (show (-4294967296 : Int) < -4294967296 from h2) (Int.lt_irrefl _)
  | 1, _, _ => exact ⟨Int.le_refl _, Int.le_refl _⟩
theorem an_cv_en {ρ : Nat → Int} {n : Nat} {F0 : List (Nat × Int × Int)} (hF : an_pF ρ F0) {a : an_V} {v : Value} (hv : an_pv ρ a v) (hw : an_ea n F0 a = true) : an_cv n ρ v a := by
  obtain ⟨a1, a2, a3⟩ := a
  match a1, hv, hw with
  | 0, hv, hw =>
    have hv' : v = .int (Int32.ofInt (ρ a2 + a3)) := by
      have hv0 : v = .int (Int32.ofInt (an_e0 (ρ a2) a3)) := hv
      rw [an_e0_eq] at hv0
      exact hv0
    unfold an_ea at hw
    dsimp only at hw
    simp only [Bool.and_eq_true, an_le_iff] at hw
    obtain ⟨⟨w1, w2⟩, w3⟩ := hw
    refine ⟨_, hv', Nat.zero_le _, fun _ => Nat.le_of_ble_eq_true w1, ?_⟩
    show (Int32.ofInt (ρ a2 + a3)).toInt = ρ a2 + a3
    have e1 : an_mn = -2147483648 := rfl
    have e2 : an_mx = 2147483647 := rfl
    have := an_ei_ok hF (a := (0, a2, a3)) (Nat.zero_le _) (by omega)
    have e3 : an_ev ρ (0, a2, a3) = ρ a2 + a3 := rfl
    exact ai_of (by omega) (by omega)
  | 1, hv, hw =>
    have hv' : v = .int (Int32.ofInt a3) := hv
    unfold an_ea at hw
    dsimp only at hw
    simp only [Bool.and_eq_true, an_le_iff] at hw
    refine ⟨_, hv', Nat.le_refl _, fun z => absurd (show (1 : Nat) = 0 from z) (by decide), ?_⟩
    exact ai_of hw.1 hw.2
  | 2, hv, _ => exact hv
  | 3, hv, _ => exact hv
  | 4, hv, _ => exact hv
  | 5, hv, _ => exact hv
  | _ + 6, _, _ => trivial
theorem an_ls_en {ρ : Nat → Int} {n : Nat} {F0 : List (Nat × Int × Int)} (hF : an_pF ρ F0) : ∀ {vs : List Value} {as : List an_V}, an_pL ρ as vs → as.all (an_ea n F0) = true → an_ls n ρ vs as
  | [], [], _, _ => trivial
  | v :: vs, a :: as, h, hw => by
    rw [List.all_cons, Bool.and_eq_true] at hw
    exact ⟨an_cv_en hF h.1 hw.1, an_ls_en hF h.2 hw.2⟩
  | [], _ :: _, h, _ => h.elim
  | _ :: _, [], h, _ => h.elim
/-- A SEGMENT -/
theorem an_seg {B : an_B} {F : List (Nat × Nat)} {T : List Nat} {S : List an_S} (hS : ∀ e ∈ S, an_sok B e) {k d : Nat} {cs : List Nat} (f idx n : Nat) (F0 : List (Nat × Int × Int)) (C0 : an_C) (L st : List an_V) (ts : List an_T)
    (hk : (match pm_nth pm_tab k with
      | none => false
      | some M => cs.all (fun c => Nat.ble c 9998) && an_ew n F0 C0 L st && an_ru B F T S cs (an_lf ts) f d k M.2.2.2.2.2 M.2.2.2.1 [] idx L st (n, F0, [], [], C0)) = true)
    {ρ0 : Nat → Int} {σ : pm_S} {Q : Option Value → pm_S → Prop} {Lc stc : List Value} (hB : an_GB B σ) (hF : an_pF ρ0 F0) (hC : an_pC ρ0 σ C0) (hL : an_pL ρ0 L Lc) (hs : an_pL ρ0 st stc)
    (hl : ∀ t ∈ ts, ∀ (ρ : Nat → Int) (τ : pm_S) (Lc stc : List Value), (∀ s, s < n → ρ s = ρ0 s) → an_GB B τ → (∀ p j, an_inF F p j = false → τ.1 p j = σ.1 p j) → an_pF ρ t.2.2.2.1 → an_pR ρ t.2.2.2.2.1 → an_pD ρ t.2.2.2.2.2.1 → an_pC ρ τ t.2.2.2.2.2.2 → (t.1 ≠ 9999 → an_pL ρ t.2.1 Lc) → an_pL ρ t.2.2.1 stc → an_gl k d Q t.1 Lc stc τ) : Ok k (d + 1) idx Lc stc σ Q := by
  split at hk
  · cases hk
  rename_i M hM
  rw [Bool.and_eq_true, Bool.and_eq_true] at hk
  obtain ⟨⟨hcs, hw⟩, hr⟩ := hk
  unfold an_ew at hw
  rw [Bool.and_eq_true, Bool.and_eq_true, Bool.and_eq_true] at hw
  obtain ⟨⟨⟨w1, w2⟩, w3⟩, w4⟩ := hw
  have hA : an_ok B F σ ρ0 (n, F0, [], [], C0) σ := by
    refine ⟨fun q hq => ?_, fun q hq => absurd hq List.not_mem_nil, fun q hq => absurd hq List.not_mem_nil, fun q hq => ?_, hB, fun _ _ _ => rfl⟩
    · exact ⟨Nat.le_of_ble_eq_true (List.all_eq_true.mp w1 q hq), an_pF_mem hF q hq⟩
    · have h1 := List.all_eq_true.mp w2 q hq
      simp only [Bool.and_eq_true, Bool.or_eq_true, an_le_iff] at h1
      obtain ⟨⟨⟨⟨z1, z2⟩, z3⟩, z4⟩, z5⟩ := h1
      have y1 := Nat.le_of_ble_eq_true z1
      have y2 := Nat.le_of_ble_eq_true z2
      refine ⟨y1, fun e0 => ?_, ?_, y2, fun e0 => ?_, an_pC_mem hC q hq⟩
      · rcases z3 with z3 | z3
        · have := Nat.eq_of_beq_eq_true z3; omega
        · exact Nat.le_of_ble_eq_true z3
      · have := an_ei_ok hF y1 (by omega)
        omega
      · rcases z4 with z4 | z4
        · have := Nat.eq_of_beq_eq_true z4; omega
        · exact Nat.le_of_ble_eq_true z4
  refine an_ru_ok (k0 := k) (d0 := d) (n0 := n) (ρ0 := ρ0) (Q := Q) hS ?_ ?_ f d k M [] [] idx L st (n, F0, [], [], C0) ρ0 σ Lc stc hM ⟨rfl, rfl⟩ hA (an_ext_rf _ _) (Nat.le_refl _) (an_ls_en hF hL w3) (an_ls_en hF hs w4) trivial hr
  · intro ρ A τ r rc h hx hn hro hlf
    unfold an_lf at hlf
    obtain ⟨t, ht, hm⟩ := List.any_eq_true.mp hlf
    unfold an_tm at hm
    split at hm
    · cases hm
    · rename_i e
      have e1 := Nat.eq_of_beq_eq_true e
      simp only [Bool.and_eq_true] at hm
      obtain ⟨⟨⟨⟨⟨m1, m2⟩, m3⟩, m4⟩, m5⟩, m6⟩ := hm
      have := hl t ht ρ τ [] rc.toList hx h.2.2.2.2.1 h.2.2.2.2.2 (an_tF_ok h m3) (an_tR_ok h m4) (an_tD_ok h m5) (an_tC_ok h m6) (fun z => absurd e1 z) (by
        rw [← an_vls_ok m2]
        cases r with
        | none =>
          cases rc with
          | none => trivial
          | some v => exact hro.elim
        | some a =>
          cases rc with
          | none => exact hro.elim
          | some v => exact ⟨an_pv_ok hro, trivial⟩)
      rw [e1] at this
      have t2 : Q rc.toList.head? τ := this
      cases rc with
      | none => exact t2
      | some v => exact t2
  · intro i ρ A τ L' st' Lc' stc' hci h hx hn q1 q2 hlf
    unfold an_lf at hlf
    obtain ⟨t, ht, hm⟩ := List.any_eq_true.mp hlf
    unfold an_tm at hm
    split at hm
    · cases hm
    · rename_i e
      have e1 := Nat.eq_of_beq_eq_true e
      simp only [Bool.and_eq_true] at hm
      obtain ⟨⟨⟨⟨⟨m1, m2⟩, m3⟩, m4⟩, m5⟩, m6⟩ := hm
      have := hl t ht ρ τ Lc' stc' hx h.2.2.2.2.1 h.2.2.2.2.2 (an_tF_ok h m3) (an_tR_ok h m4) (an_tD_ok h m5) (an_tC_ok h m6) (fun _ => by rw [← an_vls_ok m1]; exact an_pL_ok q1) (by rw [← an_vls_ok m2]; exact an_pL_ok q2)
      rw [e1] at this
      unfold an_gl at this
      split at this
      · exfalso
        obtain ⟨c, c1, c2⟩ := List.any_eq_true.mp hci
        have c3 := Nat.le_of_ble_eq_true (List.all_eq_true.mp hcs c c1)
        have c4 := Nat.eq_of_beq_eq_true c2
        omega
      · exact this
