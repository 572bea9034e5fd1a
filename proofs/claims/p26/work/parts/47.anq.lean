/-! THE ANALYSER, 8: summaries of methods, loops, runs -/
/-- what an argument, a local, a cell is: (1, _, l, h): an int within; (2, p, ..): the object p; (3, k, ..): a text; (4, ..): a long; else anything of one word -/
abbrev an_P : Type := Nat × Nat × Int × Int
/-- method, depth, arguments, cells before, answer (0 none, 1 int within, 4 long), cells that may change, cells behind -/
abbrev an_S : Type := Nat × Nat × List an_P × List an_P × (Nat × Int × Int) × List (Nat × Nat) × List an_P
def an_arg (A : an_A) (a : an_V) (q : an_P) : Bool := match q.1 with
  | 1 => an_in A a q.2.2.1 q.2.2.2
  | 2 => Nat.beq a.1 2 && Nat.beq a.2.1 q.2.1
  | 3 => Nat.beq a.1 3 && Nat.beq a.2.1 q.2.1
  | 4 => Nat.beq a.1 4
  | 5 => an_c1 a
  | 7 => an_in A a q.2.2.1 q.2.2.2 && an_nz A a
  | _ => true
def an_args (A : an_A) : List an_V → List an_P → Bool
  | [], [] => true
  | a :: as, q :: qs => an_arg A a q && an_args A as qs
  | _, _ => false
def an_kin (A : an_A) (v : an_V) (l h : Int) : Bool := an_isI v && (match an_kv A v with
  | some x => an_le l x && an_le x h
  | none => false)
/-- cells: (place, index, l, h) -/
def an_cels (B : an_B) (A : an_A) (cs : List an_P) : Bool := cs.all (fun q => match an_cell A.2.2.2.2 q.1 (an_nj q.2.1) with
  | some v => an_in A v q.2.2.1 q.2.2.2 || an_kin A v q.2.2.1 q.2.2.2
  | none => an_le q.2.2.1 (an_bd B q.1 q.2.1).1 && an_le (an_bd B q.1 q.2.1).2 q.2.2.2 && Nat.ble (q.2.1 + 1) (an_len q.1))
def an_sarg (v : Value) (q : an_P) : Prop := match q.1 with
  | 1 => ∃ w, v = .int w ∧ q.2.2.1 ≤ w.toInt ∧ w.toInt ≤ q.2.2.2
  | 2 => v = .ref q.2.1
  | 3 => v = .retAddr q.2.1
  | 4 => ∃ w, v = .long w
  | 5 => v.category = 1
  | 7 => ∃ w, v = .int w ∧ q.2.2.1 ≤ w.toInt ∧ w.toInt ≤ q.2.2.2 ∧ ¬ w = 0
  | _ => True
def an_sargs : List Value → List an_P → Prop
  | [], [] => True
  | v :: vs, q :: qs => an_sarg v q ∧ an_sargs vs qs
  | _, _ => False
def an_scel (σ : pm_S) (cs : List an_P) : Prop := ∀ q ∈ cs, q.2.2.1 ≤ (σ.1 q.1 q.2.1).toInt ∧ (σ.1 q.1 q.2.1).toInt ≤ q.2.2.2
def an_spost (r : Option Value) (q : Nat × Int × Int) : Prop := match q.1 with
  | 0 => r = none
  | 1 => ∃ w, r = some (.int w) ∧ q.2.1 ≤ w.toInt ∧ w.toInt ≤ q.2.2
  | _ => ∃ w, r = some (.long w)
def an_sok (B : an_B) (e : an_S) : Prop := ∀ (σ : pm_S) (As : List Value), an_GB B σ → an_sargs As e.2.2.1 → an_scel σ e.2.2.2.1 → Sp e.1 e.2.1 As σ (fun r τ => an_GB B τ ∧ an_spost r e.2.2.2.2.1 ∧ (∀ p j, an_inF e.2.2.2.2.2.1 p j = false → τ.1 p j = σ.1 p j) ∧ an_scel τ e.2.2.2.2.2.2)
def an_find (B : an_B) (d k : Nat) (As : List an_V) (A : an_A) : List an_S → Option an_S
  | [] => none
  | e :: es => match Nat.beq e.1 k with
    | false => an_find B d k As A es
    | true => match Nat.ble e.2.1 d && an_args A As e.2.2.1 && an_cels B A e.2.2.2.1 with
      | true => some e
      | false => an_find B d k As A es
def an_subF (G F : List (Nat × Nat)) : Bool := G.all (fun q => match Nat.beq q.2 9999 with
  | true => an_inR F q.1
  | false => an_inF F q.1 q.2)
def an_pcs : List an_P → an_A → (an_A → Bool) → Bool
  | [], A, k => k A
  | q :: cs, A, k => an_new A q.2.2.1 q.2.2.2 (fun A v => an_pcs cs (an_setC A ((q.1, an_nj q.2.1, v) :: A.2.2.2.2)) k)
def an_app (F : List (Nat × Nat)) (e : an_S) (A : an_A) (k : Option an_V → an_A → Bool) : Bool := an_subF e.2.2.2.2.2.1 F && an_pcs e.2.2.2.2.2.2 (an_setC A (an_dropF e.2.2.2.2.2.1 A.2.2.2.2)) (fun A => match e.2.2.2.2.1.1 with
  | 0 => k none A
  | 1 => an_new A e.2.2.2.2.1.2.1 e.2.2.2.2.1.2.2 (fun A v => k (some v) A)
  | _ => k (some (4, 0, 0)) A)
/-! measures: (0, _, c): c; (1, a, c): a + c; (2, a, c): c - a; (3, a, _): |a| -/
abbrev an_M : Type := Nat × an_V × Int
def an_mval (ρ : Nat → Int) (m : an_M) : Nat := match m.1 with
  | 0 => m.2.2.toNat
  | 1 => (an_ev ρ m.2.1 + m.2.2).toNat
  | 2 => (m.2.2 - an_ev ρ m.2.1).toNat
  | _ => (an_ev ρ m.2.1).natAbs
def an_rl1 : List (Nat × Nat × Nat × Int) → Nat → Nat → Option Int
  | [], _, _ => none
  | q :: qs, s, t => match Nat.beq q.1 1 && Nat.beq q.2.1 s && Nat.beq q.2.2.1 t with
    | true => match an_rl1 qs s t with
      | none => some q.2.2.2
      | some c => some (an_min q.2.2.2 c)
    | false => an_rl1 qs s t
/-- the least that x may be, the greatest -/
def an_mlo (A : an_A) (x : an_M) : Int := match x.1 with
  | 0 => x.2.2
  | 1 => (an_rg A.2.1 x.2.1).1 + x.2.2
  | _ => x.2.2 - (an_rg A.2.1 x.2.1).2
def an_mhi (A : an_A) (x : an_M) : Int := match x.1 with
  | 0 => x.2.2
  | 1 => (an_rg A.2.1 x.2.1).2 + x.2.2
  | _ => x.2.2 - (an_rg A.2.1 x.2.1).1
/-- how much less x is than y at least (as whole numbers) -/
def an_md (A : an_A) (x y : an_M) : Option Int := match x.1, y.1 with
  | 0, 0 => some (y.2.2 - x.2.2)
  | 1, 1 => match Nat.beq (x.2.1.1 + y.2.1.1) 0 with
    | true => match Nat.beq x.2.1.2.1 y.2.1.2.1 with
      | true => some (y.2.1.2.2 + y.2.2 - (x.2.1.2.2 + x.2.2))
      | false => match an_rl1 A.2.2.1 x.2.1.2.1 y.2.1.2.1 with
        | some c => some (y.2.1.2.2 + y.2.2 - (c + x.2.1.2.2 + x.2.2))
        | none => some ((an_rg A.2.1 y.2.1).1 + y.2.2 - ((an_rg A.2.1 x.2.1).2 + x.2.2))
    | false => some ((an_rg A.2.1 y.2.1).1 + y.2.2 - ((an_rg A.2.1 x.2.1).2 + x.2.2))
  | 2, 2 => match Nat.beq (x.2.1.1 + y.2.1.1) 0 && Nat.beq x.2.1.2.1 y.2.1.2.1 with
    | true => some (y.2.2 - y.2.1.2.2 - (x.2.2 - x.2.1.2.2))
    | false => some (y.2.2 - (an_rg A.2.1 y.2.1).2 - (x.2.2 - (an_rg A.2.1 x.2.1).1))
  | _, _ => match Nat.ble x.1 2 && Nat.ble y.1 2 with
    | true => some (an_mlo A y - an_mhi A x)
    | false => none
def an_mabs : List (Nat × Nat × Nat × Int) → an_V → an_V → Bool
  | [], _, _ => false
  | q :: qs, a, b => (Nat.beq q.1 2 && Nat.beq a.1 0 && Nat.beq b.1 0 && Nat.beq q.2.1 a.2.1 && Nat.beq q.2.2.1 b.2.1 && an_eq a.2.2 0 && an_eq b.2.2 0) || an_mabs qs a b
def an_lex (A : an_A) : List an_M → List an_M → Bool
  | x :: xs, y :: ys => match x.1, y.1 with
    | 3, 3 => match an_mabs A.2.2.1 x.2.1 y.2.1 with
      | true => true
      | false => an_veq x.2.1 y.2.1 && an_lex A xs ys
    | _, _ => match an_md A x y with
      | some dd => match an_le 1 dd && an_le 0 (an_mlo A x) with
        | true => true
        | false => an_le 0 dd && an_lex A xs ys
      | none => false
  | _, _ => false
/-- (0, x, y, m, i, c, _): cell (x, y) is m times local i and c; (1, x, _, m, i, c, lo): local x is at least lo, at most m times local i and c; (2, x, y, m, i, c, lo): the same of cell (x, y) -/
abbrev an_R : Type := Nat × Nat × Nat × Nat × Nat × Int × Int
def an_tgt (r : an_R) (L : List an_V) (C : an_C) : Option an_V := match r.1 with
  | 0 => an_cell C r.2.1 (an_nj r.2.2.1)
  | 2 => an_cell C r.2.1 (an_nj r.2.2.1)
  | _ => pm_nth L r.2.1
def an_rls : List an_R → List an_V → an_A → (an_A → Bool) → Bool
  | [], _, A, k => k A
  | r :: rs, L, A, k => match an_tgt r L A.2.2.2.2, pm_nth L r.2.2.2.2.1 with
    | some v, some a => match Nat.beq (v.1 + a.1) 0 && an_eq v.2.2 0 && an_eq a.2.2 0 && Nat.ble 1 r.2.2.2.1 && Nat.ble r.2.2.2.1 99 with
      | true => match r.1 with
        | 0 => an_fI (.ofNat r.2.2.2.1 * (an_rg A.2.1 a).1 + r.2.2.2.2.2.1) (fun l => an_fI (.ofNat r.2.2.2.1 * (an_rg A.2.1 a).2 + r.2.2.2.2.2.1) (fun h => an_rls rs L (A.1, (v.2.1, l, h) :: A.2.1, (100 + r.2.2.2.1, v.2.1, a.2.1, r.2.2.2.2.2.1) :: A.2.2.1, A.2.2.2) k))
        | _ => an_fI (.ofNat r.2.2.2.1 * (an_rg A.2.1 a).2 + r.2.2.2.2.2.1) (fun h => an_rls rs L (A.1, (v.2.1, r.2.2.2.2.2.2, h) :: A.2.1, (200 + r.2.2.2.1, v.2.1, a.2.1, r.2.2.2.2.2.1) :: A.2.2.1, A.2.2.2) k)
      | false => false
    | _, _ => false
def an_rlk : List (Nat × Nat × Nat × Int) → Nat → Nat → Nat → Int → Bool
  | [], _, _, _, _ => false
  | q :: qs, n, u, s, c => (Nat.beq q.1 n && Nat.beq q.2.1 u && Nat.beq q.2.2.1 s && an_eq q.2.2.2 c) || an_rlk qs n u s c
def an_crl (A : an_A) (L : List an_V) (r : an_R) : Bool := match an_tgt r L A.2.2.2.2, pm_nth L r.2.2.2.2.1 with
  | some v, some a => an_isI v && an_isI a && Nat.ble 1 r.2.2.2.1 && Nat.ble r.2.2.2.1 99 && (match r.1 with
    | 0 => (Nat.beq a.1 1 && an_kin A v (.ofNat r.2.2.2.1 * a.2.2 + r.2.2.2.2.2.1) (.ofNat r.2.2.2.1 * a.2.2 + r.2.2.2.2.2.1)) || (Nat.beq (v.1 + a.1) 0 && an_rlk A.2.2.1 (100 + r.2.2.2.1) v.2.1 a.2.1 r.2.2.2.2.2.1 && an_eq v.2.2 (.ofNat r.2.2.2.1 * a.2.2))
    | _ => an_le r.2.2.2.2.2.2 (an_rg A.2.1 v).1 && (an_le (an_rg A.2.1 v).2 (.ofNat r.2.2.2.1 * (an_rg A.2.1 a).1 + r.2.2.2.2.2.1) || (Nat.beq (v.1 + a.1) 0 && an_rlk A.2.2.1 (200 + r.2.2.2.1) v.2.1 a.2.1 r.2.2.2.2.2.1 && an_le v.2.2 (.ofNat r.2.2.2.1 * a.2.2))))
  | _, _ => false
/-- a loop's head: place, locals, cells, measure (four: form, local, number), relations -/
abbrev an_H : Type := Nat × List an_P × List an_P × List (Nat × Nat × Int) × List an_R
/-- (4, 1000 p + j, c): c less the cell (p, j) -/
def an_ms (L : List an_V) (C : an_C) : List (Nat × Nat × Int) → Option (List an_M)
  | [] => some []
  | m :: ms => match an_ms L C ms with
    | none => none
    | some r => match m.1 with
      | 0 => some ((0, (1, 0, 0), m.2.2) :: r)
      | 4 => match an_cell C (m.2.1 / 1000) (an_nj (m.2.1 % 1000)) with
        | some a => match an_isI a with
          | true => some ((2, a, m.2.2) :: r)
          | false => none
        | none => none
      | f => match pm_nth L m.2.1 with
        | some a => match an_isI a with
          | true => some ((f, a, m.2.2) :: r)
          | false => none
        | none => none
def an_cut (B : an_B) (μ : Option (List an_M)) (hd : an_H) (L st : List an_V) (A : an_A) : Bool := match st with
  | [] => an_args A L hd.2.1 && an_cels B A hd.2.2.1 && hd.2.2.2.2.all (an_crl A L) && (match μ with
    | none => true
    | some old => match an_ms L A.2.2.2.2 hd.2.2.2.1 with
      | none => false
      | some new => an_lex A new old)
  | _ => false
def an_hd (fs : List (Nat × Nat × List an_V × List an_V)) (idx : Nat) : List an_H → Option an_H
  | [] => none
  | h :: hs => match fs with
    | [] => match Nat.beq h.1 idx with
      | true => some h
      | false => an_hd fs idx hs
    | _ => none
abbrev an_fr : Type := Nat × Nat × List an_V × List an_V
def an_rv (r : Option an_V) (st : List an_V) : List an_V := match r with
  | none => st
  | some v => v :: st
def an_ac (n : Nat) (As : List an_V) : Bool := Nat.ble As.length n && As.all an_c1
def an_L0 (n : Nat) (As : List an_V) : List an_V := As ++ List.replicate (n - As.length) (5, 0, 0)
/-- counts of bits are operations -/
def an_pure (d k : Nat) (As : List an_V) (A : an_A) : Option an_V := match k with
  | 255 => match As with
    | [a] => match an_in A a 0 1023 && Nat.ble 1 d with
      | true => some a
      | false => none
    | _ => none
  | 160 => match As with
    | [b, a] => match Nat.beq b.1 2 && Nat.beq b.2.1 93 && an_in A a 0 1023 && Nat.ble 1 d with
      | true => some a
      | false => none
    | _ => none
  | _ => none
def an_run (B : an_B) (F : List (Nat × Nat)) (T : List Nat) (S : List an_S) (H : List an_H) (μ : Option (List an_M)) (fin : Option an_V → an_A → Bool) : Nat → Nat → Nat → List pm_I → Option FieldType → List an_fr → Nat → List an_V → List an_V → an_A → Bool
  | 0, _, _, _, _, _, _, _, _, _ => false
  | f + 1, d, k, C, rty, fs, idx, L, st, A => match pm_nth C idx with
    | none => false
    | some i => an_go B F T rty idx i L st A
      (fun idx' L' st' A' => match an_hd fs idx' H with
        | some hd => an_cut B μ hd L' st' A'
        | none => an_run B F T S H μ fin f d k C rty fs idx' L' st' A')
      (fun k' As rest A' => match an_pure d k' As A' with
       | some a => an_bin 16 a (1, 0, 0) A' (fun A2 v => match an_hd fs (idx + 1) H with
          | some hd => an_cut B μ hd L (v :: rest) A2
          | none => an_run B F T S H μ fin f d k C rty fs (idx + 1) L (v :: rest) A2)
       | none => match an_find B d k' As A' S with
        | some e => an_app F e A' (fun r A2 => match an_hd fs (idx + 1) H with
          | some hd => an_cut B μ hd L (an_rv r rest) A2
          | none => an_run B F T S H μ fin f d k C rty fs (idx + 1) L (an_rv r rest) A2)
        | none => match d with
          | 0 => false
          | d' + 1 => match pm_nth pm_tab k' with
            | none => false
            | some M => match an_ac M.2.2.1 As with
              | true => an_run B F T S H μ fin f d' k' M.2.2.2.2.2 M.2.2.2.1 ((k, idx + 1, L, rest) :: fs) 0 (an_L0 M.2.2.1 As) [] A'
              | false => false)
      (fun r A' => match fs with
        | [] => fin r A'
        | (k2, idx2, L2, st2) :: fs' => match pm_nth pm_tab k2 with
          | none => false
          | some M => match an_hd fs' idx2 H with
            | some hd => an_cut B μ hd L2 (an_rv r st2) A'
            | none => an_run B F T S H μ fin f (d + 1) k2 M.2.2.2.2.2 M.2.2.2.1 fs' idx2 L2 (an_rv r st2) A')
/-! soundness -/
theorem Ok.one {k D : Nat} {M : pm_M} (hM : pm_tab[k]? = some M) {Q : Option Value → pm_S → Prop} {idx : Nat} {L st : List Value} {σ : pm_S} {i : pm_I} (hi : pm_nth M.2.2.2.2.2 idx = some i)
    (h : pm_go (pm_OS none) False pm_br M.2.2.2.1 idx i L st σ (fun idx' L' st' σ' => Ok k (D + 1) idx' L' st' σ' Q) (fun k' As σ kont => Sp k' D As σ kont) Q) : Ok k (D + 1) idx L st σ Q := by
  refine Ok.wp hM [] 1 idx L st σ ?_
  unfold pm_wp
  rw [hi]
  exact h
def an_K (Q : Option Value → pm_S → Prop) : Nat → List (Nat × Nat × List Value × List Value) → Option Value → pm_S → Prop
  | _, [] => Q
  | d, (k, idx, L, st) :: fs => fun r τ => Ok k (d + 2) idx L (pm_rv r st) τ (an_K Q (d + 1) fs)
def an_frs (n : Nat) (ρ : Nat → Int) : List (Nat × Nat × List Value × List Value) → List an_fr → Prop
  | [], [] => True
  | c :: cs, a :: as => c.1 = a.1 ∧ c.2.1 = a.2.1 ∧ an_ls n ρ c.2.2.1 a.2.2.1 ∧ an_ls n ρ c.2.2.2 a.2.2.2 ∧ an_frs n ρ cs as
  | _, _ => False
theorem an_frs_x {ρ ρ' : Nat → Int} {n n' : Nat} (h : an_ext ρ ρ' n) (hn : n ≤ n') : ∀ {cs : List (Nat × Nat × List Value × List Value)} {as : List an_fr}, an_frs n ρ cs as → an_frs n' ρ' cs as
  | [], [], _ => trivial
  | _ :: _, _ :: _, q => ⟨q.1, q.2.1, an_ls_x h hn q.2.2.1, an_ls_x h hn q.2.2.2.1, an_frs_x h hn q.2.2.2.2⟩
  | [], _ :: _, q => q.elim
  | _ :: _, [], q => q.elim
def an_bot (k0 d0 : Nat) : Nat → Nat → List an_fr → Prop
  | d, k, [] => k = k0 ∧ d = d0
  | d, _, fr :: fs => an_bot k0 d0 (d + 1) fr.1 fs
theorem an_hd_ok {fs : List an_fr} {idx : Nat} {hd : an_H} : ∀ {H : List an_H}, an_hd fs idx H = some hd → fs = [] ∧ hd ∈ H ∧ hd.1 = idx := by
  intro H
  induction H with
  | nil => intro h; cases h
  | cons x xs ih =>
    intro h
    unfold an_hd at h
    split at h
    · split at h
      · rename_i e
        cases h
        exact ⟨rfl, List.mem_cons_self, Nat.eq_of_beq_eq_true e⟩
      · obtain ⟨-, h2, h3⟩ := ih h
        exact ⟨rfl, List.mem_cons_of_mem _ h2, h3⟩
    · cases h
theorem an_find_ok {B : an_B} {d k : Nat} {As : List an_V} {A : an_A} {e : an_S} : ∀ {S : List an_S}, an_find B d k As A S = some e → e ∈ S ∧ e.1 = k ∧ e.2.1 ≤ d ∧ an_args A As e.2.2.1 = true ∧ an_cels B A e.2.2.2.1 = true := by
  intro S
  induction S with
  | nil => intro h; cases h
  | cons x xs ih =>
    intro h
    unfold an_find at h
    split at h
    · have := ih h
      exact ⟨List.mem_cons_of_mem _ this.1, this.2⟩
    · rename_i hk
      split at h
      · rename_i hc
        cases h
        rw [Bool.and_eq_true, Bool.and_eq_true] at hc
        exact ⟨List.mem_cons_self, Nat.eq_of_beq_eq_true hk, Nat.le_of_ble_eq_true hc.1.1, hc.1.2, hc.2⟩
      · have := ih h
        exact ⟨List.mem_cons_of_mem _ this.1, this.2⟩
theorem an_inF_mem {F : List (Nat × Nat)} {p j : Nat} : an_inF F p j = true ↔ ∃ q ∈ F, (q.1 = p ∨ q.1 = 9999) ∧ (q.2 = j ∨ q.2 = 9999) := by
  unfold an_inF
  rw [List.any_eq_true]
  constructor
  · rintro ⟨q, h1, h2⟩
    rw [Bool.and_eq_true, Bool.or_eq_true, Bool.or_eq_true] at h2
    refine ⟨q, h1, ?_, ?_⟩
    · rcases h2.1 with e | e
      · exact Or.inl (Nat.eq_of_beq_eq_true e)
      · exact Or.inr (Nat.eq_of_beq_eq_true e)
    · rcases h2.2 with e | e
      · exact Or.inl (Nat.eq_of_beq_eq_true e)
      · exact Or.inr (Nat.eq_of_beq_eq_true e)
  · rintro ⟨q, h1, h2, h3⟩
    refine ⟨q, h1, ?_⟩
    rw [Bool.and_eq_true, Bool.or_eq_true, Bool.or_eq_true]
    refine ⟨?_, ?_⟩
    · rcases h2 with e | e
      · exact Or.inl (by rw [e]; exact Nat.beq_refl _)
      · exact Or.inr (by rw [e]; exact Nat.beq_refl _)
    · rcases h3 with e | e
      · exact Or.inl (by rw [e]; exact Nat.beq_refl _)
      · exact Or.inr (by rw [e]; exact Nat.beq_refl _)
theorem an_subF_ok {G F : List (Nat × Nat)} (h : an_subF G F = true) {p j : Nat} (hf : an_inF F p j = false) : an_inF G p j = false := by
  rcases hb : an_inF G p j with _ | _
  · rfl
  · exfalso
    obtain ⟨q, h1, h2, h3⟩ := an_inF_mem.mp hb
    have hq := List.all_eq_true.mp h q h1
    have key : an_inF F p j = true := by
      split at hq
      · rename_i e9
        have e9' := Nat.eq_of_beq_eq_true e9
        have := an_inR_ok hq j
        obtain ⟨q', m1, m2, m3⟩ := an_inF_mem.mp this
        refine an_inF_mem.mpr ⟨q', m1, ?_, m3⟩
        rcases m2 with m2 | m2
        · rcases h2 with h2 | h2
          · exact Or.inl (by omega)
          · exact Or.inr (by omega)
        · exact Or.inr m2
      · rename_i e9
        have e9' : q.2 ≠ 9999 := fun z => by rw [z] at e9; cases e9
        obtain ⟨q', m1, m2, m3⟩ := an_inF_mem.mp hq
        refine an_inF_mem.mpr ⟨q', m1, ?_, ?_⟩
        · rcases m2 with m2 | m2
          · rcases h2 with h2 | h2
            · exact Or.inl (by omega)
            · exact Or.inr (by omega)
          · exact Or.inr m2
        · rcases m3 with m3 | m3
          · rcases h3 with h3 | h3
            · exact Or.inl (by omega)
            · exact absurd h3 e9'
          · exact Or.inr m3
    rw [key] at hf
    cases hf
section RUN
variable {B : an_B} {F : List (Nat × Nat)} {σ0 : pm_S} {ρ : Nat → Int} {A : an_A} {σ : pm_S}
theorem an_arg_ok (h : an_ok B F σ0 ρ A σ) {v : Value} {a : an_V} {q : an_P} (hv : an_cv A.1 ρ v a) (hk : an_arg A a q = true) : an_sarg v q := by
  unfold an_arg at hk
  unfold an_sarg
  split at hk
  · obtain ⟨w, e, -, b1, b2⟩ := an_in_ok h hk hv
    exact ⟨w, e, b1, b2⟩
  · rw [Bool.and_eq_true] at hk
    have := an_cv_ref hv (Nat.eq_of_beq_eq_true hk.1)
    rw [this, Nat.eq_of_beq_eq_true hk.2]
  · rw [Bool.and_eq_true] at hk
    have := an_cv_txt hv (Nat.eq_of_beq_eq_true hk.1)
    rw [this, Nat.eq_of_beq_eq_true hk.2]
  · exact an_cv_long hv (Nat.eq_of_beq_eq_true hk)
  · exact an_c1_ok hv hk
  · rw [Bool.and_eq_true] at hk
    obtain ⟨w, e, hw, b1, b2⟩ := an_in_ok h hk.1 hv
    exact ⟨w, e, b1, b2, an_nz_ok h hw hk.2⟩
  · trivial
theorem an_args_ok (h : an_ok B F σ0 ρ A σ) : ∀ {vs : List Value} {as : List an_V} {qs : List an_P}, an_ls A.1 ρ vs as → an_args A as qs = true → an_sargs vs qs
  | [], [], [], _, _ => trivial
  | v :: vs, a :: as, q :: qs, hv, hk => by
    unfold an_args at hk
    rw [Bool.and_eq_true] at hk
    exact ⟨an_arg_ok h hv.1 hk.1, an_args_ok h hv.2 hk.2⟩
  | [], [], _ :: _, _, hk => by cases hk
  | _ :: _, _ :: _, [], _, hk => by cases hk
  | [], _ :: _, _, hv, _ => hv.elim
  | _ :: _, [], _, hv, _ => hv.elim
theorem an_kin_ok (h : an_ok B F σ0 ρ A σ) {w : Int32} {v : an_V} {l g : Int} (hw : an_w A.1 ρ w v) (hk : an_kin A v l g = true) : l ≤ w.toInt ∧ w.toInt ≤ g := by
  unfold an_kin at hk
  rw [Bool.and_eq_true] at hk
  have h2 := hk.2
  split at h2
  · rename_i x hx
    rw [Bool.and_eq_true, an_le_iff, an_le_iff] at h2
    have key := an_kv_ok h hw hx
    omega
  · cases h2
/-- a cell that is known, by its number -/
theorem an_cnj (h : an_ok B F σ0 ρ A σ) {p j : Nat} {v : an_V} (e : an_cell A.2.2.2.2 p (an_nj j) = some v) : an_w A.1 ρ (σ.1 p j) v := (h.2.2.2.1 _ (an_cell_ok e)).2.2.2
theorem an_cels_ok (h : an_ok B F σ0 ρ A σ) {cs : List an_P} (hk : an_cels B A cs = true) : an_scel σ cs := by
  intro q hq
  have := List.all_eq_true.mp hk q hq
  split at this
  · rename_i v e
    have hw := an_cnj h e
    rw [Bool.or_eq_true] at this
    rcases this with this | this
    · obtain ⟨w, e1, -, b1, b2⟩ := an_in_ok h this (an_cv_of hw)
      cases e1
      exact ⟨b1, b2⟩
    · exact an_kin_ok h hw this
  · simp only [Bool.and_eq_true, an_le_iff] at this
    have hl := Nat.le_of_ble_eq_true this.2
    have hb := h.2.2.2.2.1 q.1 q.2.1 (by omega)
    omega
theorem an_pcs_ok {τ : pm_S} {k : an_A → Bool} : ∀ {cs : List an_P} {ρ : Nat → Int} {A : an_A}, an_ok B F σ0 ρ A τ → an_scel τ cs → an_pcs cs A k = true → ∃ ρ' A', an_ok B F σ0 ρ' A' τ ∧ an_ext ρ ρ' A.1 ∧ A.1 ≤ A'.1 ∧ k A' = true
  | [], ρ, A, h, _, hk => ⟨ρ, A, h, an_ext_rf _ _, Nat.le_refl _, hk⟩
  | q :: cs, ρ, A, h, hc, hk => by
    unfold an_pcs at hk
    have hb := hc q List.mem_cons_self
    obtain ⟨ρ', A', a, g1, g2, g3, g4, g5, -⟩ := an_new_ok h hk hb.1 hb.2
    have g1' : an_ok B F σ0 ρ' (an_setC A' ((q.1, an_nj q.2.1, a) :: A'.2.2.2.2)) τ := by
      refine ⟨g1.1, g1.2.1, g1.2.2.1, fun x hx => ?_, g1.2.2.2.2⟩
      rcases List.mem_cons.mp hx with e | e
      · rw [e]
        have nj := an_njw A'.1 q.2.1 ρ'
        exact ⟨nj.1, nj.2.1, nj.2.2.1, g4⟩
      · exact g1.2.2.2.1 x e
    obtain ⟨ρ2, A2, k1, k2, k3, k4⟩ := an_pcs_ok (cs := cs) g1' (fun x hx => hc x (List.mem_cons_of_mem _ hx)) g5
    exact ⟨ρ2, A2, k1, an_ext_tr g2 k2 g3, Nat.le_trans g3 k3, k4⟩
theorem an_app_ok (h : an_ok B F σ0 ρ A σ) {e : an_S} {k : Option an_V → an_A → Bool} (hk : an_app F e A k = true) {r : Option Value} {τ : pm_S} (h1 : an_GB B τ) (h2 : an_spost r e.2.2.2.2.1) (h3 : ∀ p j, an_inF e.2.2.2.2.2.1 p j = false → τ.1 p j = σ.1 p j) (h4 : an_scel τ e.2.2.2.2.2.2) : ∃ ρ' A' a, an_ok B F σ0 ρ' A' τ ∧ an_ext ρ ρ' A.1 ∧ A.1 ≤ A'.1 ∧ an_ro A'.1 ρ' r a ∧ k a A' = true := by
  unfold an_app at hk
  rw [Bool.and_eq_true] at hk
  have hA : an_ok B F σ0 ρ (an_setC A (an_dropF e.2.2.2.2.2.1 A.2.2.2.2)) τ := by
    refine ⟨h.1, h.2.1, h.2.2.1, fun q hq => ?_, h1, fun p j hf => ?_⟩
    · obtain ⟨m1, m2⟩ := an_dropF_ok hq
      obtain ⟨c1, c2, c3, c4⟩ := h.2.2.2.1 q m1
      refine ⟨c1, c2, c3, ?_⟩
      rw [h3 _ _ (m2 ρ)]
      exact c4
    · rw [h3 _ _ (an_subF_ok hk.1 hf)]
      exact h.2.2.2.2.2 p j hf
  obtain ⟨ρ', A', g1, g2, g3, g4⟩ := an_pcs_ok hA h4 hk.2
  unfold an_spost at h2
  split at g4
  · rename_i e0
    rw [e0] at h2
    exact ⟨ρ', A', none, g1, g2, g3, by rw [show r = none from h2]; trivial, g4⟩
  · rename_i e0
    rw [e0] at h2
    obtain ⟨w, e1, b1, b2⟩ := h2
    obtain ⟨ρ2, A2, a, k1, k2, k3, k4, k5, -⟩ := an_new_ok g1 g4 b1 b2
    exact ⟨ρ2, A2, some a, k1, an_ext_tr g2 k2 g3, Nat.le_trans g3 k3, by rw [e1]; exact an_cv_of k4, k5⟩
  · rename_i g5 g6
    split at h2
    · rename_i e; exact absurd e g5
    · rename_i e; exact absurd e g6
    · obtain ⟨w, e1⟩ := h2
      exact ⟨ρ', A', some (4, 0, 0), g1, g2, g3, by rw [e1]; exact (show an_cv A'.1 ρ' (.long w) (4, 0, 0) from an_cv4 w), g4⟩
theorem an_rv_ok {n : Nat} {r : Option Value} {a : Option an_V} {stc : List Value} {st : List an_V} (h : an_ro n ρ r a) (hs : an_ls n ρ stc st) : an_ls n ρ (pm_rv r stc) (an_rv a st) := by
  cases r with
  | none =>
    cases a with
    | none => exact hs
    | some a => exact h.elim
  | some v =>
    cases a with
    | none => exact h.elim
    | some a => exact an_ls_c h hs
theorem an_L0_ok {n m : Nat} : ∀ {vs : List Value} {as : List an_V}, an_ls n ρ vs as → an_ls n ρ (vs ++ List.replicate m pm_un) (as ++ List.replicate m (5, 0, 0))
  | [], [], _ => by
    show an_ls n ρ (List.replicate m pm_un) (List.replicate m (5, 0, 0))
    induction m with
    | zero => exact trivial
    | succ m ih => exact an_ls_c (show an_cv n ρ pm_un (5, 0, 0) from rfl) ih
  | _ :: _, _ :: _, hv => an_ls_c hv.1 (an_L0_ok hv.2)
  | [], _ :: _, hv => hv.elim
  | _ :: _, [], hv => hv.elim
theorem an_ls_len {n : Nat} : ∀ {vs : List Value} {as : List an_V}, an_ls n ρ vs as → vs.length = as.length
  | [], [], _ => rfl
  | _ :: _, _ :: _, hv => by rw [List.length_cons, List.length_cons, an_ls_len hv.2]
  | [], _ :: _, hv => hv.elim
  | _ :: _, [], hv => hv.elim
theorem an_ac_ok {n m : Nat} {vs : List Value} {as : List an_V} (hv : an_ls n ρ vs as) (h : an_ac m as = true) : pm_ac m vs = true := by
  unfold an_ac at h
  unfold pm_ac
  rw [Bool.and_eq_true] at h ⊢
  refine ⟨by rw [an_ls_len hv]; exact h.1, ?_⟩
  have h2 := h.2
  clear h
  induction vs generalizing as with
  | nil => rfl
  | cons v vs ih =>
    cases as with
    | nil => exact hv.elim
    | cons a as =>
      rw [List.all_cons, Bool.and_eq_true] at h2 ⊢
      refine ⟨by rw [an_c1_ok hv.1 h2.1]; rfl, ih hv.2 h2.2⟩
/-- what a relation speaks of -/
def an_tv (σ : pm_S) (Lc : List Value) (r : an_R) (tv : Int32) : Prop := match r.1 with
  | 0 => tv = σ.1 r.2.1 r.2.2.1
  | 2 => tv = σ.1 r.2.1 r.2.2.1
  | _ => pm_nth Lc r.2.1 = some (.int tv)
def an_srel (σ : pm_S) (Lc : List Value) (r : an_R) : Prop := ∃ tv sv : Int32, pm_nth Lc r.2.2.2.2.1 = some (.int sv) ∧ an_tv σ Lc r tv ∧ (match r.1 with
  | 0 => tv.toInt = .ofNat r.2.2.2.1 * sv.toInt + r.2.2.2.2.2.1
  | _ => r.2.2.2.2.2.2 ≤ tv.toInt ∧ tv.toInt ≤ .ofNat r.2.2.2.1 * sv.toInt + r.2.2.2.2.2.1)
theorem an_tgt_ok (h : an_ok B F σ0 ρ A σ) {Lc : List Value} {L : List an_V} (hL : an_ls A.1 ρ Lc L) {r : an_R} {v : an_V} (ev : an_tgt r L A.2.2.2.2 = some v) {tv : Int32} (ht : an_tv σ Lc r tv) (hv : an_isI v = true) : an_w A.1 ρ tv v := by
  unfold an_tgt at ev
  unfold an_tv at ht
  split at ev
  · rename_i e0
    rw [e0] at ht
    rw [show tv = σ.1 r.2.1 r.2.2.1 from ht]; exact an_cnj h ev
  · rename_i e0
    rw [e0] at ht
    rw [show tv = σ.1 r.2.1 r.2.2.1 from ht]; exact an_cnj h ev
  · rename_i g0 g2
    have ht' : pm_nth Lc r.2.1 = some (.int tv) := by
      split at ht
      · rename_i z; exact absurd z g0
      · rename_i z; exact absurd z g2
      · exact ht
    obtain ⟨u, e1, hu⟩ := an_ls_nth hL ev
    rw [ht'] at e1
    cases e1
    obtain ⟨w, ew, hw⟩ := an_cv_int hu hv
    cases ew
    exact hw
theorem an_tgt_ex (h : an_ok B F σ0 ρ A σ) {Lc : List Value} {L : List an_V} (hL : an_ls A.1 ρ Lc L) {r : an_R} {v : an_V} (ev : an_tgt r L A.2.2.2.2 = some v) (hv : an_isI v = true) : ∃ tv, an_tv σ Lc r tv := by
  unfold an_tgt at ev
  unfold an_tv
  split at ev
  · exact ⟨_, rfl⟩
  · exact ⟨_, rfl⟩
  · obtain ⟨u, e1, hu⟩ := an_ls_nth hL ev
    obtain ⟨w, ew, hw⟩ := an_cv_int hu hv
    exact ⟨w, by rw [e1, ew]⟩
theorem an_addR (h : an_ok B F σ0 ρ A σ) {q : Nat × Nat × Nat × Int} (h1 : q.2.1 < A.1) (h2 : q.2.2.1 < A.1) (h3 : an_rs ρ q) : an_ok B F σ0 ρ (A.1, A.2.1, q :: A.2.2.1, A.2.2.2) σ := by
  refine ⟨h.1, fun x hx => ?_, h.2.2⟩
  rcases List.mem_cons.mp hx with e | e
  · rw [e]; exact ⟨h1, h2, h3⟩
  · exact h.2.1 x e
theorem an_mulm {m : Nat} {a b : Int} (h : a ≤ b) : (Int.ofNat m) * a ≤ (Int.ofNat m) * b := Int.mul_le_mul_of_nonneg_left h (Int.natCast_nonneg m)
theorem an_rls_ok {Lc : List Value} {L : List an_V} {k : an_A → Bool} : ∀ {rs : List an_R} {A : an_A}, an_ok B F σ0 ρ A σ → an_ls A.1 ρ Lc L → (∀ r ∈ rs, an_srel σ Lc r) → an_rls rs L A k = true → ∃ A', an_ok B F σ0 ρ A' σ ∧ A'.1 = A.1 ∧ k A' = true
  | [], A, h, _, _, hk => ⟨A, h, rfl, hk⟩
  | r :: rs, A, h, hL, hr, hk => by
    obtain ⟨tv, sv, h1, ht, h2⟩ := hr r List.mem_cons_self
    unfold an_rls at hk
    split at hk
    · rename_i v a ev ea
      obtain ⟨sv', e1, hs⟩ := an_ls_nth hL ea
      rw [h1] at e1
      cases e1
      split at hk
      · rename_i q
        simp only [Bool.and_eq_true, an_eq_iff] at q
        obtain ⟨⟨⟨⟨q1, q2⟩, q3⟩, q4⟩, q5⟩ := q
        have q1' := Nat.eq_of_beq_eq_true q1
        have q4' := Nat.le_of_ble_eq_true q4
        have q5' := Nat.le_of_ble_eq_true q5
        obtain ⟨w, ew, hw⟩ := an_cv_int hs (Nat.ble_eq_true_of_le (show a.1 ≤ 1 by omega))
        cases ew
        have ra := an_rg_ok h hw
        obtain ⟨sa1, sa2⟩ := an_w_sym hw (by omega)
        have hv := an_tgt_ok h hL ev ht (Nat.ble_eq_true_of_le (show v.1 ≤ 1 by omega))
        obtain ⟨sv1, sv2⟩ := an_w_sym hv (show v.1 = 0 by omega)
        split at hk
        · rename_i e0
          rw [e0] at h2
          have t2 : tv.toInt = .ofNat r.2.2.2.1 * sv.toInt + r.2.2.2.2.2.1 := h2
          rw [an_fI_eq, an_fI_eq] at hk
          have m1 := an_mulm (m := r.2.2.2.1) ra.1
          have m2 := an_mulm (m := r.2.2.2.1) ra.2
          have g1 := an_addF h (s := v.2.1) (l := .ofNat r.2.2.2.1 * (an_rg A.2.1 a).1 + r.2.2.2.2.2.1) (g := .ofNat r.2.2.2.1 * (an_rg A.2.1 a).2 + r.2.2.2.2.2.1) sv1 (by omega) (by omega)
          have g2 := an_addR g1 (q := (100 + r.2.2.2.1, v.2.1, a.2.1, r.2.2.2.2.2.1)) sv1 sa1 (by
            unfold an_rs
            split
            · rename_i z; dsimp only at z; omega
            · rename_i z; dsimp only at z; omega
            · rename_i z; dsimp only at z; omega
            · rename_i z; dsimp only at z; omega
            · dsimp only
              refine ⟨fun _ => ?_, fun z => by omega⟩
              rw [show 100 + r.2.2.2.1 - 100 = r.2.2.2.1 by omega]
              have t2' : tv.toInt = (r.2.2.2.1 : Int) * sv.toInt + r.2.2.2.2.2.1 := t2
              rw [sv2, sa2, q2, q3, Int.add_zero, Int.add_zero] at t2'
              exact t2')
          have fin := an_rls_ok g2 hL (fun x hx => hr x (List.mem_cons_of_mem _ hx)) hk
          exact fin
        · rename_i e0
          have e0' : ¬ r.1 = 0 := fun z => e0 z
          have h2' : r.2.2.2.2.2.2 ≤ tv.toInt ∧ tv.toInt ≤ .ofNat r.2.2.2.1 * sv.toInt + r.2.2.2.2.2.1 := by
            split at h2
            · rename_i z; exact absurd z e0'
            · exact h2
          obtain ⟨t2, t3⟩ := h2'
          rw [an_fI_eq] at hk
          have m2 := an_mulm (m := r.2.2.2.1) ra.2
          have g1 := an_addF h (s := v.2.1) (l := r.2.2.2.2.2.2) (g := .ofNat r.2.2.2.1 * (an_rg A.2.1 a).2 + r.2.2.2.2.2.1) sv1 (by omega) (by omega)
          have g2 := an_addR g1 (q := (200 + r.2.2.2.1, v.2.1, a.2.1, r.2.2.2.2.2.1)) sv1 sa1 (by
            unfold an_rs
            split
            · rename_i z; dsimp only at z; omega
            · rename_i z; dsimp only at z; omega
            · rename_i z; dsimp only at z; omega
            · rename_i z; dsimp only at z; omega
            · dsimp only
              refine ⟨fun z => by omega, fun _ => ?_⟩
              rw [show 200 + r.2.2.2.1 - 200 = r.2.2.2.1 by omega]
              have t3' : tv.toInt ≤ (r.2.2.2.1 : Int) * sv.toInt + r.2.2.2.2.2.1 := t3
              rw [sv2, sa2, q2, q3, Int.add_zero, Int.add_zero] at t3'
              exact t3')
          have fin := an_rls_ok g2 hL (fun x hx => hr x (List.mem_cons_of_mem _ hx)) hk
          exact fin
      · cases hk
    · cases hk
theorem an_rlk_ok {n u s : Nat} {c : Int} : ∀ {R : List (Nat × Nat × Nat × Int)}, an_rlk R n u s c = true → (n, u, s, c) ∈ R := by
  intro R
  induction R with
  | nil => intro h; cases h
  | cons q qs ih =>
    intro h
    unfold an_rlk at h
    rw [Bool.or_eq_true] at h
    rcases h with h | h
    · simp only [Bool.and_eq_true, an_eq_iff] at h
      have e1 := Nat.eq_of_beq_eq_true h.1.1.1
      have e2 := Nat.eq_of_beq_eq_true h.1.1.2
      have e3 := Nat.eq_of_beq_eq_true h.1.2
      rw [← e1, ← e2, ← e3, ← h.2]
      exact List.mem_cons_self
    · exact List.mem_cons_of_mem _ (ih h)
theorem an_crl_ok (h : an_ok B F σ0 ρ A σ) {Lc : List Value} {L : List an_V} (hL : an_ls A.1 ρ Lc L) {r : an_R} (hk : an_crl A L r = true) : an_srel σ Lc r := by
  unfold an_crl at hk
  split at hk
  · rename_i v a ev ea
    simp only [Bool.and_eq_true] at hk
    obtain ⟨⟨⟨⟨k1, k2⟩, k3⟩, k4⟩, k5⟩ := hk
    have k3' := Nat.le_of_ble_eq_true k3
    have k4' := Nat.le_of_ble_eq_true k4
    obtain ⟨av, e1, ha⟩ := an_ls_nth hL ea
    obtain ⟨sv, es, hs⟩ := an_cv_int ha k2
    rw [es] at e1
    obtain ⟨tv, ht⟩ := an_tgt_ex h hL ev k1
    have hv := an_tgt_ok h hL ev ht k1
    unfold an_srel
    split at k5
    · rename_i e0
      refine ⟨tv, sv, e1, ht, ?_⟩
      rw [Bool.or_eq_true] at k5
      rcases k5 with q | q
      · rw [Bool.and_eq_true] at q
        have := an_kin_ok h hv q.2
        rw [an_w_num hs (Nat.eq_of_beq_eq_true q.1)]
        omega
      · simp only [Bool.and_eq_true, an_eq_iff] at q
        have z := Nat.eq_of_beq_eq_true q.1.1
        have := (h.2.1 _ (an_rlk_ok q.1.2)).2.2
        unfold an_rs at this
        have this2 : ρ v.2.1 = (r.2.2.2.1 : Int) * ρ a.2.1 + r.2.2.2.2.2.1 := by
          split at this
          · rename_i z; dsimp only at z; omega
          · rename_i z; dsimp only at z; omega
          · rename_i z; dsimp only at z; omega
          · rename_i z; dsimp only at z; omega
          · have := this.1 (by dsimp only; omega)
            dsimp only at this
            rw [show 100 + r.2.2.2.1 - 100 = r.2.2.2.1 by omega] at this
            exact this
        obtain ⟨-, w1⟩ := an_w_sym hv (show v.1 = 0 by omega)
        obtain ⟨-, w2⟩ := an_w_sym hs (show a.1 = 0 by omega)
        rw [w1, w2, this2, q.2]
        show _ = (r.2.2.2.1 : Int) * (ρ a.2.1 + a.2.2) + r.2.2.2.2.2.1
        rw [Int.mul_add]
        have : (Int.ofNat r.2.2.2.1) * a.2.2 = (r.2.2.2.1 : Int) * a.2.2 := rfl
        omega
    · rename_i e0
      have e0' : ¬ r.1 = 0 := fun z => e0 z
      have rv := an_rg_ok h hv
      have ra := an_rg_ok h hs
      rw [Bool.and_eq_true, an_le_iff, Bool.or_eq_true] at k5
      refine ⟨tv, sv, e1, ht, ?_⟩
      have key : tv.toInt ≤ .ofNat r.2.2.2.1 * sv.toInt + r.2.2.2.2.2.1 := by
        rcases k5.2 with q | q
        · rw [an_le_iff] at q
          have m1 := an_mulm (m := r.2.2.2.1) ra.1
          omega
        · simp only [Bool.and_eq_true, an_le_iff] at q
          have z := Nat.eq_of_beq_eq_true q.1.1
          have := (h.2.1 _ (an_rlk_ok q.1.2)).2.2
          unfold an_rs at this
          have this2 : ρ v.2.1 ≤ (r.2.2.2.1 : Int) * ρ a.2.1 + r.2.2.2.2.2.1 := by
            split at this
            · rename_i z; dsimp only at z; omega
            · rename_i z; dsimp only at z; omega
            · rename_i z; dsimp only at z; omega
            · rename_i z; dsimp only at z; omega
            · have := this.2 (by dsimp only; omega)
              dsimp only at this
              rw [show 200 + r.2.2.2.1 - 200 = r.2.2.2.1 by omega] at this
              exact this
          obtain ⟨-, w1⟩ := an_w_sym hv (show v.1 = 0 by omega)
          obtain ⟨-, w2⟩ := an_w_sym hs (show a.1 = 0 by omega)
          rw [w1, w2]
          show _ ≤ (r.2.2.2.1 : Int) * (ρ a.2.1 + a.2.2) + r.2.2.2.2.2.1
          rw [Int.mul_add]
          have : (Int.ofNat r.2.2.2.1) * a.2.2 = (r.2.2.2.1 : Int) * a.2.2 := rfl
          omega
      exact ⟨by omega, key⟩
  · cases hk
end RUN
