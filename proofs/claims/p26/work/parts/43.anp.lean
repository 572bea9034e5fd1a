/-! THE ANALYSER, 4: instructions that touch neither heap nor control -/
def an_c1 (a : an_V) : Bool := match a.1 with
  | 4 => false
  | _ => Nat.ble a.1 5
def an_st1 (L : List an_V) (i : Nat) (v : an_V) : Option (List an_V) := match pm_nth L i with
  | none => none
  | some _ => match i with
    | 0 => some (L.set 0 v)
    | j + 1 => match pm_nth L j with
      | some a => match an_c1 a with
        | true => some (L.set (j + 1) v)
        | false => none
      | none => none
def an_st2 (L : List an_V) (i : Nat) : Option (List an_V) := match pm_nth L (i + 1) with
  | none => none
  | some _ => match an_st1 L i (4, 0, 0) with
    | none => none
    | some L1 => some (L1.set (i + 1) (5, 0, 0))
abbrev an_k : Type := List an_V → List an_V → an_A → Bool
def an_cst (x y : Nat) (k : an_V → Bool) : Bool := Nat.ble x 2147483647 && (match y with
  | 0 => k (1, 0, .ofNat x)
  | _ => k (1, 0, -.ofNat x))
def an_cstL (x y : Nat) (k : an_V → Bool) : Bool := Nat.ble x 2147483647 && (match y with
  | 0 => k (4, 1, .ofNat x)
  | _ => k (4, 1, -.ofNat x))
def an_ldi (L : List an_V) (i : Nat) (st : List an_V) (A : an_A) (k : an_k) : Bool := match pm_nth L i with
  | some a => match an_isI a with
    | true => an_nm A a (fun a => k L (a :: st) A)
    | false => false
  | none => false
def an_ldl (L : List an_V) (i : Nat) (st : List an_V) (A : an_A) (k : an_k) : Bool := match pm_nth L i with
  | some a => match a.1 with
    | 4 => k L (a :: st) A
    | _ => false
  | none => false
def an_lda (L : List an_V) (i : Nat) (st : List an_V) (A : an_A) (k : an_k) : Bool := match pm_nth L i with
  | some a => match a.1 with
    | 2 => k L (a :: st) A
    | 3 => match Nat.ble a.2.1 19 || Nat.beq a.2.1 30 with
      | true => k L (a :: st) A
      | false => false
    | _ => false
  | none => false
def an_sti (L : List an_V) (i : Nat) (st : List an_V) (A : an_A) (k : an_k) : Bool := match st with
  | a :: st => match an_isI a with
    | true => match an_st1 L i a with
      | some L1 => k L1 st A
      | none => false
    | false => false
  | [] => false
def an_sta (L : List an_V) (i : Nat) (st : List an_V) (A : an_A) (k : an_k) : Bool := match st with
  | a :: st => match a.1 with
    | 2 => match an_st1 L i a with
      | some L1 => k L1 st A
      | none => false
    | _ => false
  | [] => false
def an_stl (L : List an_V) (i : Nat) (st : List an_V) (A : an_A) (k : an_k) : Bool := match st with
  | a :: st => match a.1 with
    | 4 => match an_st2 L i with
      | some L1 => k L1 st A
      | none => false
    | _ => false
  | [] => false
def an_iinc (L : List an_V) (i : Nat) (n : Int) (st : List an_V) (A : an_A) (k : an_k) : Bool := match pm_nth L i with
  | some a => match an_isI a && an_le an_mn n && an_le n an_mx with
    | true => an_bin 0 a (1, 0, n) A (fun A v => match an_st1 L i v with
      | some L1 => k L1 st A
      | none => false)
    | false => false
  | none => false
def an_i2 (o : Nat) (L st : List an_V) (A : an_A) (k : an_k) : Bool := match st with
  | b :: a :: st => match an_isI a && an_isI b with
    | true => an_bin o a b A (fun A v => k L (v :: st) A)
    | false => false
  | _ => false
def an_i1 (o : Nat) (L st : List an_V) (A : an_A) (k : an_k) : Bool := match st with
  | a :: st => match an_isI a with
    | true => an_bin o a (1, 0, 0) A (fun A v => k L (v :: st) A)
    | false => false
  | _ => false
def an_l2 (L st : List an_V) (A : an_A) (k : an_k) : Bool := match st with
  | b :: a :: st => match Nat.beq b.1 4 && Nat.beq a.1 4 with
    | true => k L ((4, 0, 0) :: st) A
    | false => false
  | _ => false
def an_lsh (L st : List an_V) (A : an_A) (k : an_k) : Bool := match st with
  | b :: a :: st => match an_isI b && Nat.beq a.1 4 with
    | true => k L ((4, 0, 0) :: st) A
    | false => false
  | _ => false
def an_lcm (L st : List an_V) (A : an_A) (k : an_k) : Bool := match st with
  | b :: a :: st => match Nat.beq b.1 4 && Nat.beq a.1 4 with
    | true => an_new A (-1) 1 (fun A v => k L (v :: st) A)
    | false => false
  | _ => false
def an_i2l (L st : List an_V) (A : an_A) (k : an_k) : Bool := match st with
  | a :: st => match a.1 with
    | 0 => k L ((4, 0, 0) :: st) A
    | 1 => k L ((4, 1, a.2.2) :: st) A
    | _ => false
  | _ => false
def an_dup (L st : List an_V) (A : an_A) (k : an_k) : Bool := match st with
  | a :: st => match Nat.ble a.1 2 with
    | true => k L (a :: a :: st) A
    | false => false
  | _ => false
def an_dup2 (L st : List an_V) (A : an_A) (k : an_k) : Bool := match st with
  | b :: a :: st => match an_isI b && Nat.beq a.1 2 with
    | true => k L (b :: a :: b :: a :: st) A
    | false => false
  | _ => false
def an_pop1 (L st : List an_V) (A : an_A) (k : an_k) : Bool := match st with
  | a :: st => match an_isI a with
    | true => k L st A
    | false => false
  | _ => false
def an_pu (ins : Instr) (x y : Nat) (L st : List an_V) (A : an_A) (k : an_k) : Bool := match ins with
  | .iconst _ => an_cst x y (fun v => k L (v :: st) A)
  | .bipush _ => an_cst x y (fun v => k L (v :: st) A)
  | .sipush _ => an_cst x y (fun v => k L (v :: st) A)
  | .lconst _ => an_cstL x y (fun v => k L (v :: st) A)
  | .ldc _ => match y with
    | 7 => k L ((3, x, 0) :: st) A
    | _ => an_cst x 0 (fun v => k L (v :: st) A)
  | .ldc_w _ => an_cst x 0 (fun v => k L (v :: st) A)
  | .ldc2_w _ => an_cstL x y (fun v => k L (v :: st) A)
  | .getstatic _ => match x with
    | 0 => k L ((1, 0, 1) :: st) A
    | _ => k L ((3, 20, 0) :: st) A
  | .iload_n i => an_ldi L i.val st A k
  | .iload i => an_ldi L i st A k
  | .lload_n i => an_ldl L i.val st A k
  | .lload i => an_ldl L i st A k
  | .aload_n i => an_lda L i.val st A k
  | .aload i => an_lda L i st A k
  | .istore_n i => an_sti L i.val st A k
  | .istore i => an_sti L i st A k
  | .lstore_n i => an_stl L i.val st A k
  | .lstore i => an_stl L i st A k
  | .astore_n i => an_sta L i.val st A k
  | .astore i => an_sta L i st A k
  | .iinc i n => an_iinc L i n st A k
  | .iadd => an_i2 0 L st A k
  | .isub => an_i2 1 L st A k
  | .imul => an_i2 2 L st A k
  | .iand => an_i2 3 L st A k
  | .ior => an_i2 4 L st A k
  | .ixor => an_i2 5 L st A k
  | .ishl => an_i2 6 L st A k
  | .ishr => an_i2 7 L st A k
  | .iushr => an_i2 8 L st A k
  | .ineg => an_i1 15 L st A k
  | .ladd => an_l2 L st A k
  | .lsub => an_l2 L st A k
  | .lmul => an_l2 L st A k
  | .land => an_l2 L st A k
  | .lor => an_l2 L st A k
  | .lshl => an_lsh L st A k
  | .lshr => an_lsh L st A k
  | .lcmp => an_lcm L st A k
  | .i2l => an_i2l L st A k
  | .i2c => an_i1 14 L st A k
  | .dup => an_dup L st A k
  | .dup2 => an_dup2 L st A k
  | .pop => an_pop1 L st A k
  | _ => false
theorem an_ls_nth {n : Nat} {ρ : Nat → Int} : ∀ {vs : List Value} {as : List an_V} {i : Nat} {a : an_V}, an_ls n ρ vs as → pm_nth as i = some a → ∃ v, pm_nth vs i = some v ∧ an_cv n ρ v a
  | [], [], i, a, _, h => by cases i <;> cases h
  | v :: vs, b :: as, 0, a, hv, h => by cases h; exact ⟨v, rfl, hv.1⟩
  | v :: vs, b :: as, i + 1, a, hv, h => an_ls_nth (vs := vs) (as := as) (i := i) hv.2 h
  | [], _ :: _, _, _, hv, _ => hv.elim
  | _ :: _, [], _, _, hv, _ => hv.elim
theorem an_ls_set {n : Nat} {ρ : Nat → Int} {v : Value} {a : an_V} (hva : an_cv n ρ v a) : ∀ {vs : List Value} {as : List an_V} (i : Nat), an_ls n ρ vs as → an_ls n ρ (vs.set i v) (as.set i a)
  | [], [], i, _ => trivial
  | w :: vs, b :: as, 0, hv => ⟨hva, hv.2⟩
  | w :: vs, b :: as, i + 1, hv => ⟨hv.1, an_ls_set hva i hv.2⟩
  | [], _ :: _, _, hv => hv.elim
  | _ :: _, [], _, hv => hv.elim
theorem an_ls_c {n : Nat} {ρ : Nat → Int} {v : Value} {a : an_V} {vs : List Value} {as : List an_V} (h1 : an_cv n ρ v a) (h2 : an_ls n ρ vs as) : an_ls n ρ (v :: vs) (a :: as) := ⟨h1, h2⟩
theorem an_c1_ok {n : Nat} {ρ : Nat → Int} {v : Value} {a : an_V} (h : an_cv n ρ v a) (hc : an_c1 a = true) : v.category = 1 := by
  unfold an_cv at h
  unfold an_c1 at hc
  split at h
  · obtain ⟨w, e, -⟩ := h; rw [e]; rfl
  · obtain ⟨w, e, -⟩ := h; rw [e]; rfl
  · rw [h]; rfl
  · rw [h]; rfl
  · rename_i e; rw [e] at hc; cases hc
  · exact h
  · rename_i g0 g1 g2 g3 g4 g5
    split at hc
    · rename_i e; exact absurd e g4
    · have := Nat.le_of_ble_eq_true hc
      exfalso
      rcases (show a.1 = 0 ∨ a.1 = 1 ∨ a.1 = 2 ∨ a.1 = 3 ∨ a.1 = 4 ∨ a.1 = 5 by omega) with q | q | q | q | q | q
      · exact g0 q
      · exact g1 q
      · exact g2 q
      · exact g3 q
      · exact g4 q
      · exact g5 q
theorem an_st1_ok {n : Nat} {ρ : Nat → Int} {Lc : List Value} {L L1 : List an_V} {i : Nat} {v : Value} {a : an_V} (hL : an_ls n ρ Lc L) (h : an_st1 L i a = some L1) (hv : an_cv n ρ v a) : ∃ L1c, pm_s1 Lc i v = some L1c ∧ an_ls n ρ L1c L1 := by
  unfold an_st1 at h
  split at h
  · cases h
  · rename_i b hb
    obtain ⟨w, hw, -⟩ := an_ls_nth hL hb
    split at h
    · cases h
      refine ⟨Lc.set 0 v, ?_, an_ls_set hv 0 hL⟩
      unfold pm_s1
      rw [hw]
    · rename_i j
      split at h
      · rename_i c hc
        obtain ⟨u, hu, huv⟩ := an_ls_nth hL hc
        split at h
        · rename_i hc1
          cases h
          refine ⟨Lc.set (j + 1) v, ?_, an_ls_set hv (j + 1) hL⟩
          unfold pm_s1
          rw [hw]
          simp only
          rw [hu]
          simp only
          rw [an_c1_ok huv hc1]
        · cases h
      · cases h
theorem an_cv4 {n : Nat} {ρ : Nat → Int} (w : Int64) : an_cv n ρ (.long w) (4, 0, 0) := ⟨w, rfl, fun h => absurd (show (0 : Nat) = 1 from h) (by decide)⟩
theorem an_cv41 {n : Nat} {ρ : Nat → Int} {w : Int64} {c : Int} (h : w.toInt = c) : an_cv n ρ (.long w) (4, 1, c) := ⟨w, rfl, fun _ => h⟩
theorem an_cv3 {n : Nat} {ρ : Nat → Int} (k : Nat) (c : Int) : an_cv n ρ (.retAddr k) (3, k, c) := rfl
theorem an_cv_long {n : Nat} {ρ : Nat → Int} {v : Value} {a : an_V} (h : an_cv n ρ v a) (e : a.1 = 4) : ∃ w, v = .long w := by
  unfold an_cv at h
  rw [e] at h
  obtain ⟨w, hw, -⟩ := h
  exact ⟨w, hw⟩
theorem an_cv_ref {n : Nat} {ρ : Nat → Int} {v : Value} {a : an_V} (h : an_cv n ρ v a) (e : a.1 = 2) : v = .ref a.2.1 := by
  unfold an_cv at h
  rw [e] at h
  exact h
theorem an_cv_txt {n : Nat} {ρ : Nat → Int} {v : Value} {a : an_V} (h : an_cv n ρ v a) (e : a.1 = 3) : v = .retAddr a.2.1 := by
  unfold an_cv at h
  rw [e] at h
  exact h
theorem an_st2_ok {n : Nat} {ρ : Nat → Int} {Lc : List Value} {L L1 : List an_V} {i : Nat} {w : Int64} (hL : an_ls n ρ Lc L) (h : an_st2 L i = some L1) : ∃ L1c, pm_s2 Lc i w = some L1c ∧ an_ls n ρ L1c L1 := by
  unfold an_st2 at h
  split at h
  · cases h
  · rename_i b hb
    obtain ⟨u, hu, -⟩ := an_ls_nth hL hb
    split at h
    · cases h
    · rename_i L2 h2
      cases h
      obtain ⟨L2c, e2, g2⟩ := an_st1_ok hL h2 (an_cv4 w)
      refine ⟨L2c.set (i + 1) pm_un, ?_, an_ls_set (show an_cv n ρ pm_un (5, 0, 0) from rfl) (i + 1) g2⟩
      unfold pm_s2
      rw [hu]
      simp only
      rw [e2]
theorem an_iv_ti {x : Nat} (h : Nat.ble x 2147483647 = true) : (nI x).toInt = (x : Int) ∧ (-nI x).toInt = -(x : Int) := by
  have h1 := Nat.le_of_ble_eq_true h
  exact ⟨nI_toInt (by omega), by rw [Int32.toInt_neg, nI_toInt (by omega), ai_bmod (by omega) (by omega)]⟩
theorem an_cst_ok {x y : Nat} {k : an_V → Bool} (h : an_cst x y k = true) (n : Nat) (ρ : Nat → Int) : ∃ a, an_w n ρ (pm_iv x y) a ∧ k a = true := by
  unfold an_cst at h
  rw [Bool.and_eq_true] at h
  obtain ⟨e1, e2⟩ := an_iv_ti h.1
  have h2 := h.2
  split at h2
  · exact ⟨_, an_w1 e1, h2⟩
  · rename_i hy
    refine ⟨_, an_w1 ?_, h2⟩
    unfold pm_iv
    split
    · exact absurd rfl hy
    · exact e2
theorem an_cstL_ok {x y : Nat} {k : an_V → Bool} (h : an_cstL x y k = true) (n : Nat) (ρ : Nat → Int) : ∃ a, an_cv n ρ (.long (pm_lv x y)) a ∧ k a = true := by
  unfold an_cstL at h
  rw [Bool.and_eq_true] at h
  have h1 := Nat.le_of_ble_eq_true h.1
  have e1 : (lN x).toInt = (x : Int) := lN_toInt (by omega)
  have h2 := h.2
  split at h2
  · exact ⟨_, an_cv41 e1, h2⟩
  · rename_i hy
    refine ⟨_, an_cv41 ?_, h2⟩
    unfold pm_lv
    split
    · exact absurd rfl hy
    · rw [Int64.toInt_neg, e1, Int.bmod_eq_of_le (by omega) (by omega)]
      rfl
section PU
variable {B : an_B} {F : List (Nat × Nat)} {σ0 : pm_S} {ρ : Nat → Int} {A : an_A} {σ : pm_S} {Lc stc : List Value} {L st : List an_V} {k : an_k}
/-- what a pure instruction comes to -/
abbrev an_pr (B : an_B) (F : List (Nat × Nat)) (σ0 : pm_S) (ρ : Nat → Int) (A : an_A) (σ : pm_S) (k : an_k) (r : Option (List Value × List Value)) : Prop := ∃ ρ' A' L' st' Lc' stc', r = some (Lc', stc') ∧ an_ok B F σ0 ρ' A' σ ∧ an_ext ρ ρ' A.1 ∧ A.1 ≤ A'.1 ∧ an_ls A'.1 ρ' Lc' L' ∧ an_ls A'.1 ρ' stc' st' ∧ k L' st' A' = true
theorem an_pr_of (h : an_ok B F σ0 ρ A σ) {L' st' : List an_V} {Lc' stc' : List Value} {r : Option (List Value × List Value)} (e : r = some (Lc', stc')) (hL : an_ls A.1 ρ Lc' L') (hs : an_ls A.1 ρ stc' st') (hk : k L' st' A = true) : an_pr B F σ0 ρ A σ k r := ⟨ρ, A, L', st', Lc', stc', e, h, an_ext_rf _ _, Nat.le_refl _, hL, hs, hk⟩
theorem an_ldi_ok (h : an_ok B F σ0 ρ A σ) (hL : an_ls A.1 ρ Lc L) (hs : an_ls A.1 ρ stc st) {i : Nat} (hk : an_ldi L i st A k = true) : an_pr B F σ0 ρ A σ k (pm_ldi Lc i stc) := by
  unfold an_ldi at hk
  split at hk
  · rename_i a ha
    obtain ⟨v, hv, hva⟩ := an_ls_nth hL ha
    split at hk
    · rename_i hi
      obtain ⟨w, e, hw⟩ := an_cv_int hva hi
      obtain ⟨a', k1, k2, k3⟩ := an_nm_ok h hk
      refine an_pr_of h (Lc' := Lc) (stc' := .int w :: stc) ?_ hL (an_ls_c (an_cv_of (k3 w hw)) hs) k1
      unfold pm_ldi
      rw [hv, e]
    · cases hk
  · cases hk
theorem an_ldl_ok (h : an_ok B F σ0 ρ A σ) (hL : an_ls A.1 ρ Lc L) (hs : an_ls A.1 ρ stc st) {i : Nat} (hk : an_ldl L i st A k = true) : an_pr B F σ0 ρ A σ k (pm_ldl Lc i stc) := by
  unfold an_ldl at hk
  split at hk
  · rename_i a ha
    obtain ⟨v, hv, hva⟩ := an_ls_nth hL ha
    split at hk
    · rename_i hi
      obtain ⟨w, e⟩ := an_cv_long hva hi
      refine an_pr_of h (Lc' := Lc) (stc' := .long w :: stc) ?_ hL (an_ls_c (by rw [e] at hva; exact hva) hs) hk
      unfold pm_ldl
      rw [hv, e]
    · cases hk
  · cases hk
theorem an_lda_ok (h : an_ok B F σ0 ρ A σ) (hL : an_ls A.1 ρ Lc L) (hs : an_ls A.1 ρ stc st) {i : Nat} (hk : an_lda L i st A k = true) : an_pr B F σ0 ρ A σ k (pm_lda Lc i stc) := by
  unfold an_lda at hk
  split at hk
  · rename_i a ha
    obtain ⟨v, hv, hva⟩ := an_ls_nth hL ha
    split at hk
    · rename_i hi
      have e := an_cv_ref hva hi
      refine an_pr_of h (Lc' := Lc) (stc' := v :: stc) ?_ hL (an_ls_c hva hs) hk
      unfold pm_lda
      rw [hv, e]
    · rename_i hi
      have e := an_cv_txt hva hi
      split at hk
      · rename_i hb
        refine an_pr_of h (Lc' := Lc) (stc' := v :: stc) ?_ hL (an_ls_c hva hs) hk
        unfold pm_lda
        rw [hv, e]
        simp only
        rw [hb]
      · cases hk
    · cases hk
  · cases hk
theorem an_sti_ok (h : an_ok B F σ0 ρ A σ) (hL : an_ls A.1 ρ Lc L) (hs : an_ls A.1 ρ stc st) {i : Nat} (hk : an_sti L i st A k = true) : an_pr B F σ0 ρ A σ k (pm_sti Lc i stc) := by
  unfold an_sti at hk
  split at hk
  · rename_i a st'
    match stc, hs with
    | v :: stc, hs =>
      split at hk
      · rename_i hi
        obtain ⟨w, e, hw⟩ := an_cv_int hs.1 hi
        split at hk
        · rename_i L1 h1
          obtain ⟨L1c, e1, g1⟩ := an_st1_ok hL h1 (an_cv_of hw)
          refine an_pr_of h (Lc' := L1c) (stc' := stc) ?_ g1 hs.2 hk
          unfold pm_sti
          rw [e]
          simp only
          rw [e1]
        · cases hk
      · cases hk
    | [], hs => exact hs.elim
  · cases hk
theorem an_sta_ok (h : an_ok B F σ0 ρ A σ) (hL : an_ls A.1 ρ Lc L) (hs : an_ls A.1 ρ stc st) {i : Nat} (hk : an_sta L i st A k = true) : an_pr B F σ0 ρ A σ k (pm_sta Lc i stc) := by
  unfold an_sta at hk
  split at hk
  · rename_i a st'
    match stc, hs with
    | v :: stc, hs =>
      split at hk
      · rename_i hi
        have e := an_cv_ref hs.1 hi
        split at hk
        · rename_i L1 h1
          obtain ⟨L1c, e1, g1⟩ := an_st1_ok hL h1 hs.1
          refine an_pr_of h (Lc' := L1c) (stc' := stc) ?_ g1 hs.2 hk
          rw [e] at e1
          unfold pm_sta
          rw [e]
          simp only
          rw [e1]
        · cases hk
      · cases hk
    | [], hs => exact hs.elim
  · cases hk
theorem an_stl_ok (h : an_ok B F σ0 ρ A σ) (hL : an_ls A.1 ρ Lc L) (hs : an_ls A.1 ρ stc st) {i : Nat} (hk : an_stl L i st A k = true) : an_pr B F σ0 ρ A σ k (pm_stl Lc i stc) := by
  unfold an_stl at hk
  split at hk
  · rename_i a st'
    match stc, hs with
    | v :: stc, hs =>
      split at hk
      · rename_i hi
        obtain ⟨w, e⟩ := an_cv_long hs.1 hi
        split at hk
        · rename_i L1 h1
          obtain ⟨L1c, e1, g1⟩ := an_st2_ok (w := w) hL h1
          refine an_pr_of h (Lc' := L1c) (stc' := stc) ?_ g1 hs.2 hk
          unfold pm_stl
          rw [e]
          simp only
          rw [e1]
        · cases hk
      · cases hk
    | [], hs => exact hs.elim
  · cases hk
theorem an_iinc_ok (h : an_ok B F σ0 ρ A σ) (hL : an_ls A.1 ρ Lc L) (hs : an_ls A.1 ρ stc st) {i : Nat} {n : Int} (hk : an_iinc L i n st A k = true) : an_pr B F σ0 ρ A σ k (pm_iinc Lc i n stc) := by
  unfold an_iinc at hk
  split at hk
  · rename_i a ha
    obtain ⟨v, hv, hva⟩ := an_ls_nth hL ha
    split at hk
    · rename_i hi
      simp only [Bool.and_eq_true, an_le_iff, an_mn_eq, an_mx_eq] at hi
      obtain ⟨w, e, hw⟩ := an_cv_int hva hi.1.1
      obtain ⟨ρ', A', c, g1, g2, g3, g4, g5⟩ := an_bin_ok (y := Int32.ofInt n) h hw (an_w1 (ai_of hi.1.2 hi.2)) hk
      dsimp only at g5
      split at g5
      · rename_i L1 h1
        obtain ⟨L1c, e1, g6⟩ := an_st1_ok (an_ls_x g2 g3 hL) h1 (an_cv_of g4)
        refine ⟨ρ', A', L1, st, L1c, stc, ?_, g1, g2, g3, g6, an_ls_x g2 g3 hs, g5⟩
        unfold pm_iinc
        rw [hv, e]
        simp only
        rw [show w + Int32.ofInt n = an_f 0 w (Int32.ofInt n) from rfl, e1]
      · cases g5
    · cases hk
  · cases hk
theorem an_i2_ok (h : an_ok B F σ0 ρ A σ) (hL : an_ls A.1 ρ Lc L) (hs : an_ls A.1 ρ stc st) {o : Nat} {f : Int32 → Int32 → Int32} (hf : ∀ a b, f a b = an_f o a b) (hk : an_i2 o L st A k = true) : an_pr B F σ0 ρ A σ k (pm_i2 f Lc stc) := by
  unfold an_i2 at hk
  split at hk
  · rename_i b a st'
    match stc, hs with
    | u :: v :: stc, hs =>
      split at hk
      · rename_i hi
        rw [Bool.and_eq_true] at hi
        obtain ⟨w1, e1, hw1⟩ := an_cv_int hs.1 hi.2
        obtain ⟨w2, e2, hw2⟩ := an_cv_int hs.2.1 hi.1
        obtain ⟨ρ', A', c, g1, g2, g3, g4, g5⟩ := an_bin_ok h hw2 hw1 hk
        refine ⟨ρ', A', L, _, Lc, .int (an_f o w2 w1) :: stc, ?_, g1, g2, g3, an_ls_x g2 g3 hL, an_ls_c (an_cv_of g4) (an_ls_x g2 g3 hs.2.2), g5⟩
        unfold pm_i2
        rw [e1, e2]
        simp only
        rw [hf]
      · cases hk
    | [], hs => exact hs.elim
    | [_], hs => exact hs.2.elim
  · cases hk
theorem an_i1_ok (h : an_ok B F σ0 ρ A σ) (hL : an_ls A.1 ρ Lc L) (hs : an_ls A.1 ρ stc st) {o : Nat} {r : Option (List Value × List Value)} (hf : ∀ w st1, stc = .int w :: st1 → r = some (Lc, .int (an_f o w 0) :: st1)) (hk : an_i1 o L st A k = true) : an_pr B F σ0 ρ A σ k r := by
  unfold an_i1 at hk
  split at hk
  · rename_i a st'
    match stc, hs with
    | v :: stc, hs =>
      split at hk
      · rename_i hi
        obtain ⟨w, e, hw⟩ := an_cv_int hs.1 hi
        obtain ⟨ρ', A', c, g1, g2, g3, g4, g5⟩ := an_bin_ok (y := 0) h hw (an_w1 rfl) hk
        exact ⟨ρ', A', L, _, Lc, .int (an_f o w 0) :: stc, hf w stc (by rw [e]), g1, g2, g3, an_ls_x g2 g3 hL, an_ls_c (an_cv_of g4) (an_ls_x g2 g3 hs.2), g5⟩
      · cases hk
    | [], hs => exact hs.elim
  · cases hk
theorem an_l2_ok (h : an_ok B F σ0 ρ A σ) (hL : an_ls A.1 ρ Lc L) (hs : an_ls A.1 ρ stc st) {f : Int64 → Int64 → Int64} (hk : an_l2 L st A k = true) : an_pr B F σ0 ρ A σ k (pm_l2 f Lc stc) := by
  unfold an_l2 at hk
  split at hk
  · rename_i b a st'
    match stc, hs with
    | u :: v :: stc, hs =>
      split at hk
      · rename_i hi
        rw [Bool.and_eq_true] at hi
        obtain ⟨w1, e1⟩ := an_cv_long hs.1 (Nat.eq_of_beq_eq_true hi.1)
        obtain ⟨w2, e2⟩ := an_cv_long hs.2.1 (Nat.eq_of_beq_eq_true hi.2)
        refine an_pr_of h (Lc' := Lc) (stc' := .long (f w2 w1) :: stc) ?_ hL (an_ls_c (an_cv4 _) hs.2.2) hk
        unfold pm_l2
        rw [e1, e2]
      · cases hk
    | [], hs => exact hs.elim
    | [_], hs => exact hs.2.elim
  · cases hk
theorem an_lsh_ok (h : an_ok B F σ0 ρ A σ) (hL : an_ls A.1 ρ Lc L) (hs : an_ls A.1 ρ stc st) {f : Int64 → Int64 → Int64} (hk : an_lsh L st A k = true) : an_pr B F σ0 ρ A σ k (pm_lsh f Lc stc) := by
  unfold an_lsh at hk
  split at hk
  · rename_i b a st'
    match stc, hs with
    | u :: v :: stc, hs =>
      split at hk
      · rename_i hi
        rw [Bool.and_eq_true] at hi
        obtain ⟨w1, e1, -⟩ := an_cv_int hs.1 hi.1
        obtain ⟨w2, e2⟩ := an_cv_long hs.2.1 (Nat.eq_of_beq_eq_true hi.2)
        refine an_pr_of h (Lc' := Lc) (stc' := .long (f w2 (w1.toInt64 &&& 63)) :: stc) ?_ hL (an_ls_c (an_cv4 _) hs.2.2) hk
        unfold pm_lsh
        rw [e1, e2]
      · cases hk
    | [], hs => exact hs.elim
    | [_], hs => exact hs.2.elim
  · cases hk
theorem an_cmp_rng (a b : Int64) : -1 ≤ (lg_cmp a b).toInt ∧ (lg_cmp a b).toInt ≤ 1 := by
  unfold lg_cmp
  split
  · exact ⟨by decide, by decide⟩
  · split
    · exact ⟨by decide, by decide⟩
    · exact ⟨by decide, by decide⟩
theorem an_lcm_ok (h : an_ok B F σ0 ρ A σ) (hL : an_ls A.1 ρ Lc L) (hs : an_ls A.1 ρ stc st) {r : Option (List Value × List Value)} (hf : ∀ w1 w2 st1, stc = .long w1 :: .long w2 :: st1 → r = some (Lc, .int (lg_cmp w2 w1) :: st1)) (hk : an_lcm L st A k = true) : an_pr B F σ0 ρ A σ k r := by
  unfold an_lcm at hk
  split at hk
  · rename_i b a st'
    match stc, hs with
    | u :: v :: stc, hs =>
      split at hk
      · rename_i hi
        rw [Bool.and_eq_true] at hi
        obtain ⟨w1, e1⟩ := an_cv_long hs.1 (Nat.eq_of_beq_eq_true hi.1)
        obtain ⟨w2, e2⟩ := an_cv_long hs.2.1 (Nat.eq_of_beq_eq_true hi.2)
        obtain ⟨q1, q2⟩ := an_cmp_rng w2 w1
        obtain ⟨ρ', A', c, g1, g2, g3, g4, g5, -⟩ := an_new_ok h hk q1 q2
        exact ⟨ρ', A', L, _, Lc, .int (lg_cmp w2 w1) :: stc, hf w1 w2 stc (by rw [e1, e2]), g1, g2, g3, an_ls_x g2 g3 hL, an_ls_c (an_cv_of g4) (an_ls_x g2 g3 hs.2.2), g5⟩
      · cases hk
    | [], hs => exact hs.elim
    | [_], hs => exact hs.2.elim
  · cases hk
theorem an_i2l_ok (h : an_ok B F σ0 ρ A σ) (hL : an_ls A.1 ρ Lc L) (hs : an_ls A.1 ρ stc st) {r : Option (List Value × List Value)} (hf : ∀ w st1, stc = .int w :: st1 → r = some (Lc, .long w.toInt64 :: st1)) (hk : an_i2l L st A k = true) : an_pr B F σ0 ρ A σ k r := by
  unfold an_i2l at hk
  split at hk
  · rename_i a st'
    match stc, hs with
    | v :: stc, hs =>
      split at hk
      · rename_i hi
        obtain ⟨w, e, hw⟩ := an_cv_int hs.1 (Nat.ble_eq_true_of_le (show a.1 ≤ 1 by omega))
        exact an_pr_of h (hf w stc (by rw [e])) hL (an_ls_c (an_cv4 _) hs.2) hk
      · rename_i hi
        obtain ⟨w, e, hw⟩ := an_cv_int hs.1 (Nat.ble_eq_true_of_le (show a.1 ≤ 1 by omega))
        refine an_pr_of h (hf w stc (by rw [e])) hL (an_ls_c (an_cv41 ?_) hs.2) hk
        rw [Int32.toInt_toInt64, an_w_num hw hi]
      · cases hk
    | [], hs => exact hs.elim
  · cases hk
theorem an_dup_ok (h : an_ok B F σ0 ρ A σ) (hL : an_ls A.1 ρ Lc L) (hs : an_ls A.1 ρ stc st) {r : Option (List Value × List Value)} (hf : ∀ v st1, stc = v :: st1 → ((∃ w, v = .int w) ∨ ∃ p, v = .ref p) → r = some (Lc, v :: v :: st1)) (hk : an_dup L st A k = true) : an_pr B F σ0 ρ A σ k r := by
  unfold an_dup at hk
  split at hk
  · rename_i a st'
    match stc, hs with
    | v :: stc, hs =>
      split at hk
      · rename_i hi
        have hi2 := Nat.le_of_ble_eq_true hi
        refine an_pr_of h (hf v stc rfl ?_) hL (an_ls_c hs.1 (an_ls_c hs.1 hs.2)) hk
        rcases (show a.1 ≤ 1 ∨ a.1 = 2 by omega) with q | q
        · obtain ⟨w, e, -⟩ := an_cv_int hs.1 (Nat.ble_eq_true_of_le q); exact Or.inl ⟨w, e⟩
        · exact Or.inr ⟨_, an_cv_ref hs.1 q⟩
      · cases hk
    | [], hs => exact hs.elim
  · cases hk
theorem an_dup2_ok (h : an_ok B F σ0 ρ A σ) (hL : an_ls A.1 ρ Lc L) (hs : an_ls A.1 ρ stc st) {r : Option (List Value × List Value)} (hf : ∀ w p st1, stc = .int w :: .ref p :: st1 → r = some (Lc, .int w :: .ref p :: .int w :: .ref p :: st1)) (hk : an_dup2 L st A k = true) : an_pr B F σ0 ρ A σ k r := by
  unfold an_dup2 at hk
  split at hk
  · rename_i b a st'
    match stc, hs with
    | u :: v :: stc, hs =>
      split at hk
      · rename_i hi
        rw [Bool.and_eq_true] at hi
        obtain ⟨w1, e1, -⟩ := an_cv_int hs.1 hi.1
        have e2 := an_cv_ref hs.2.1 (Nat.eq_of_beq_eq_true hi.2)
        subst e1
        subst e2
        exact an_pr_of h (hf w1 _ stc rfl) hL (an_ls_c hs.1 (an_ls_c hs.2.1 (an_ls_c hs.1 (an_ls_c hs.2.1 hs.2.2)))) hk
      · cases hk
    | [], hs => exact hs.elim
    | [_], hs => exact hs.2.elim
  · cases hk
theorem an_pop1_ok (h : an_ok B F σ0 ρ A σ) (hL : an_ls A.1 ρ Lc L) (hs : an_ls A.1 ρ stc st) {r : Option (List Value × List Value)} (hf : ∀ w st1, stc = .int w :: st1 → r = some (Lc, st1)) (hk : an_pop1 L st A k = true) : an_pr B F σ0 ρ A σ k r := by
  unfold an_pop1 at hk
  split at hk
  · rename_i a st'
    match stc, hs with
    | v :: stc, hs =>
      split at hk
      · rename_i hi
        obtain ⟨w, e, hw⟩ := an_cv_int hs.1 hi
        exact an_pr_of h (hf w stc (by rw [e])) hL hs.2 hk
      · cases hk
    | [], hs => exact hs.elim
  · cases hk
theorem an_pcstL (h : an_ok B F σ0 ρ A σ) (hL : an_ls A.1 ρ Lc L) (hs : an_ls A.1 ρ stc st) {x y : Nat} (hk : an_cstL x y (fun v => k L (v :: st) A) = true) : an_pr B F σ0 ρ A σ k (some (Lc, .long (pm_lv x y) :: stc)) := by
  obtain ⟨a, h1, h2⟩ := an_cstL_ok hk A.1 ρ
  exact an_pr_of h rfl hL (an_ls_c h1 hs) h2
theorem an_pcst (h : an_ok B F σ0 ρ A σ) (hL : an_ls A.1 ρ Lc L) (hs : an_ls A.1 ρ stc st) {x y : Nat} (hk : an_cst x y (fun v => k L (v :: st) A) = true) : an_pr B F σ0 ρ A σ k (some (Lc, .int (pm_iv x y) :: stc)) := by
  obtain ⟨a, h1, h2⟩ := an_cst_ok hk A.1 ρ
  exact an_pr_of h rfl hL (an_ls_c (an_cv_of h1) hs) h2
set_option maxHeartbeats 2000000 in
theorem an_pu_ok (h : an_ok B F σ0 ρ A σ) (hL : an_ls A.1 ρ Lc L) (hs : an_ls A.1 ρ stc st) {ins : Instr} {x y : Nat} (hk : an_pu ins x y L st A k = true) : an_pr B F σ0 ρ A σ k (pm_pu ins x y Lc stc) := by
  unfold an_pu at hk
  split at hk
  · exact an_pcst h hL hs hk
  · exact an_pcst h hL hs hk
  · exact an_pcst h hL hs hk
  · exact an_pcstL h hL hs hk
  · unfold pm_pu
    simp only
    split at hk
    · exact an_pr_of h rfl hL (an_ls_c (an_cv3 _ _) hs) hk
    · rename_i g
      split
      · exact absurd rfl g
      · exact an_pcst h hL hs hk
  · exact an_pcst h hL hs hk
  · exact an_pcstL h hL hs hk
  · unfold pm_pu
    simp only
    split at hk
    · exact an_pr_of h rfl hL (an_ls_c (an_cv_of (an_w1 rfl)) hs) hk
    · rename_i g
      split
      · exact absurd rfl g
      · exact an_pr_of h rfl hL (an_ls_c (an_cv3 _ _) hs) hk
  · exact an_ldi_ok h hL hs hk
  · exact an_ldi_ok h hL hs hk
  · exact an_ldl_ok h hL hs hk
  · exact an_ldl_ok h hL hs hk
  · exact an_lda_ok h hL hs hk
  · exact an_lda_ok h hL hs hk
  · exact an_sti_ok h hL hs hk
  · exact an_sti_ok h hL hs hk
  · exact an_stl_ok h hL hs hk
  · exact an_stl_ok h hL hs hk
  · exact an_sta_ok h hL hs hk
  · exact an_sta_ok h hL hs hk
  · exact an_iinc_ok h hL hs hk
  · exact an_i2_ok h hL hs (fun _ _ => rfl) hk
  · exact an_i2_ok h hL hs (fun _ _ => rfl) hk
  · exact an_i2_ok h hL hs (fun _ _ => rfl) hk
  · exact an_i2_ok h hL hs (fun _ _ => rfl) hk
  · exact an_i2_ok h hL hs (fun _ _ => rfl) hk
  · exact an_i2_ok h hL hs (fun _ _ => rfl) hk
  · exact an_i2_ok h hL hs (fun _ _ => rfl) hk
  · exact an_i2_ok h hL hs (fun _ _ => rfl) hk
  · exact an_i2_ok h hL hs (fun _ _ => rfl) hk
  · exact an_i1_ok (o := 15) h hL hs (fun w st1 e => by rw [e]; rfl) hk
  · exact an_l2_ok h hL hs hk
  · exact an_l2_ok h hL hs hk
  · exact an_l2_ok h hL hs hk
  · exact an_l2_ok h hL hs hk
  · exact an_l2_ok h hL hs hk
  · exact an_lsh_ok h hL hs hk
  · exact an_lsh_ok h hL hs hk
  · exact an_lcm_ok h hL hs (fun w1 w2 st1 e => by rw [e]; rfl) hk
  · exact an_i2l_ok h hL hs (fun w st1 e => by rw [e]; rfl) hk
  · exact an_i1_ok (o := 14) h hL hs (fun w st1 e => by rw [e]; rfl) hk
  · exact an_dup_ok h hL hs (fun v st1 e q => by
      rw [e]
      rcases q with ⟨w, rfl⟩ | ⟨p, rfl⟩
      · rfl
      · rfl) hk
  · exact an_dup2_ok h hL hs (fun w p st1 e => by rw [e]; rfl) hk
  · exact an_pop1_ok h hL hs (fun w st1 e => by rw [e]; rfl) hk
  · cases hk
end PU
