/-! rounds, the class: spot by spot -/
section GO
variable {c : cxt} {s n : Nat} {R : Nat → Nat} {t : P3}
/-- coins within bounds -/
abbrev tkR (D : Nat) (t : P3) : Prop := ∀ d, d < D → 0 ≤ (t.1 d).toInt ∧ (t.1 d).toInt ≤ 99999
theorem trc_lt (h : trc (c.E t s) (nt c.db) (nt c.cr) R n) {i : Nat} (hi : i < n) : R i < c.D := (h.rd i hi).1.1
theorem trc_in (h : trc (c.E t s) (nt c.db) (nt c.cr) R n) : ∀ a b, a < n → b < n → R a = R b → a = b := fun a b ha hb e => h.inj ha hb (congrArg (nt c.db) e)
theorem go_tk (h : trc (c.E t s) (nt c.db) (nt c.cr) R n) (ht : tkR c.D t) : tkR c.D (c.go R n t) := fun d hd =>
  cnF_bd (trc_in h) (lsF_b n (fun i hi => (ht _ (trc_lt h hi)).1)).1 (fun i hi => lsF_le _ _ _ n i hi) (ht d hd)
theorem go_kp (d : Nat) (h : t.2.2.1 d ≠ 0) : (c.go R n t).2.2.1 d ≠ 0 := cnF_k h n
theorem go_op (h : trc (c.E t s) (nt c.db) (nt c.cr) R n) (ht : tkR c.D t) : opnd (c.go R n t).2.2.1 c.D < opnd t.2.2.1 c.D := by
  have h1 := h.1
  obtain ⟨i, hi, y⟩ := cnF_y (su := c.su) (m := 1073741824) (R := R) (t := t) (n := n) (by omega) (fun i hi => by have := (ht _ (trc_lt h hi)).2; omega) (trc_in h)
  exact opnd_lt (fun d z => go_kp (c := c) (R := R) (n := n) d z) (trc_lt h hi) (h.rd i hi).1.2.1 y
theorem go_n : (c.go R n t).2.2.2 ≤ t.2.2.2 + n := cnF_n _ _ _ _ n
end GO
abbrev cC (σ : pm_S) (D : Nat) : cxt := (bsC σ, σ.1 17, σ.1 14, σ.1 15, σ.1 1 1, D)
abbrev FCa : List (Nat × Nat) := [(16, 9999), (19, 9999), (20, 9999), (74, 5), (76, 9999), (77, 9999), (78, 9999)]
/-- the rows of the debts are t's -/
abbrev rwC (t : P3) (τ : pm_S) : Prop := τ.1 16 = t.1 ∧ τ.1 19 = t.2.1 ∧ τ.1 20 = t.2.2.1
theorem rwC.fq {t : P3} {σ τ : pm_S} {G : List (Nat × Nat)} (h : rwC t σ) (F : FQ G σ τ) (h1 : an_inP G 16 = false) (h2 : an_inP G 19 = false) (h3 : an_inP G 20 = false) : rwC t τ := ⟨(row_fq F h1).trans h.1, (row_fq F h2).trans h.2.1, (row_fq F h3).trans h.2.2⟩
/-- the spots ahead of s -/
def rdsC (c : cxt) : Nat → P3 → P3 → Prop
  | 0, a, b => a = b
  | s + 1, a, b => ∃ m k, rdsC c s a m ∧ rdc c s k m b
section CAL
variable {σ : pm_S} {D P S : Nat}
/-- what is asked: how many spots, people, debts; those of a debt are people, unlike -/
abbrev caH (σ : pm_S) (D P S : Nat) : Prop := D ≤ 30 ∧ P ≤ 10 ∧ S ≤ 10 ∧ sI σ 13 0 = (D : Int) ∧ sI σ 7 0 = (P : Int) ∧ sI σ 3 0 = (S : Int) ∧ (∀ d, d < D → nt (σ.1 14) d < P ∧ nt (σ.1 15) d < P) ∧ (∀ d, d < D → nt (σ.1 14) d ≠ nt (σ.1 15) d)
set_option maxRecDepth 20000 in
/-- one spot -/
theorem x_cai (H : caH σ D P S) {m : Nat} (hm : m < 1024) {s : Nat} (hs : s < S) {a0 : P3} (h1 : ¬ Nat.testBit m s = true → ∀ d d', (cC σ D).E a0 s d → (cC σ D).E a0 s d' → d = d') {Q : Option Value → pm_S → Prop} : ∀ (k n : Nat) (t : P3) (τ : pm_S), opnd t.2.2.1 D ≤ k → n + opnd t.2.2.1 D ≤ 30 → t.2.2.2 + 10 * opnd t.2.2.1 D ≤ 300 → (∀ d, a0.2.2.1 d ≠ 0 → t.2.2.1 d ≠ 0) → tkR D t → rwC t τ → an_GB pm_B τ → FQ FCa σ τ → (∀ (b : P3) (v4 : Value) (τ' : pm_S), v4.category = 1 → (∃ k, rdc (cC σ D) s k t b) → b.2.2.2 + 10 * opnd b.2.2.1 D ≤ 300 → (∀ d, t.2.2.1 d ≠ 0 → b.2.2.1 d ≠ 0) → tkR D b → rwC b τ' → an_GB pm_B τ' → FQ FCa σ τ' → Ok 96 15 7 [.ref 74, .int (Int32.ofInt ((b.2.2.2 : Nat) : Int)), .int (Int32.ofInt (m : Int)), .int (Int32.ofInt ((s : Int) + 1)), v4] [] τ' Q) → Ok 96 15 15 [.ref 74, .int (Int32.ofInt ((t.2.2.2 : Nat) : Int)), .int (Int32.ofInt (m : Int)), .int (Int32.ofInt (s : Int)), .int (Int32.ofInt (n : Int))] [] τ Q := by
  obtain ⟨hD, hP, hS, eD, eP, eS, hpp, hu⟩ := H
  intro k
  induction k with
  | zero =>
    intro n t τ hk hn hb hkp ht hr hB F hQ
    -- none is open
    have none : ∀ d, (cC σ D).E t s d → ∀ j, j ≤ 9 → ¬ pth ((cC σ D).E t s) (nt (cC σ D).db) (nt (cC σ D).cr) j (nt (cC σ D).cr d) (nt (cC σ D).db d) := fun d e => by
      have := opnd_pos (hw := t.2.2.1) (D := D) e.1 e.2.1
      exfalso
      omega
    refine rf_a15 ((t.2.2.2 : Nat) : Int) m s n hB ⟨by omega, by omega, by omega, by omega, trivial⟩ ?_ ?_ ?_
    · intro τ1 y1 hB1 F1 _ _ _ _
      exact hQ t _ τ1 rfl ⟨0, rfl, none⟩ hb (fun _ z => z) ht (hr.fq F1 rfl rfl rfl) hB1 (FQ.tr F (FQ.up (G := []) rfl F1))
    · intro τ1 y1 hB1 F1 _ _ _ _
      exact hQ t _ τ1 rfl ⟨0, rfl, none⟩ hb (fun _ z => z) ht (hr.fq F1 rfl rfl rfl) hB1 (FQ.tr F (FQ.up (G := []) rfl F1))
    · intro τ1 y1 hB1 F1 _ _ _ _
      have G1 : FQ FCa σ τ1 := FQ.tr F (FQ.up (G := []) rfl F1)
      have r1 := hr.fq F1 rfl rfl rfl
      have cE1 : cEs τ1 D s = (cC σ D).E t s := by
        show eR (bsC τ1) (τ1.1 17) (τ1.1 20) D s = eR (bsC σ) (σ.1 17) t.2.2.1 D s
        rw [bsC_fq G1 rfl rfl rfl rfl, row_fq G1 (P := 17) rfl, r1.2.2]
      have e14 := row_fq G1 (P := 14) rfl
      have e15 := row_fq G1 (P := 15) rfl
      refine Ok.cv rfl rfl rfl rfl rfl rfl rfl ?_
      refine (x_fro (σ := τ1) (D := D) (P := P) (s := s) (by omega) hD hP ((congrArg Int32.toInt (G1 13 0 rfl)).trans eD) ((congrArg Int32.toInt (G1 7 0 rfl)).trans eP) (by rw [e14, e15]; exact hpp) (by rw [e14, e15]; exact hu) hB1).use (by decide) (fun r τ2 q => ?_)
      obtain ⟨hB2, F2, ⟨rfl, q⟩ | ⟨rfl, R, n', q, _⟩⟩ := q
      · refine rf_a25 ((t.2.2.2 : Nat) : Int) m s n 0 hB2 ⟨by omega, by omega, by omega, by omega, by omega, trivial⟩ ?_ ?_
        · intro τ3 y3 hB3 F3 _ _ _ _
          exact hQ t _ τ3 rfl ⟨0, rfl, none⟩ hb (fun _ z => z) ht ((r1.fq F2 rfl rfl rfl).fq F3 rfl rfl rfl) hB3 (FQ.tr G1 (FQ.tr (FQ.up (G := FFr) rfl F2) (FQ.up (G := []) rfl F3)))
        · intro τ3 y3 _ _ f _ _ _
          have f4 := f.2.2.2.2.1
          exfalso
          omega
      · rw [cE1, e14, e15] at q
        have e := (q.rd 0 (by have := q.1; omega)).1
        have := opnd_pos (hw := t.2.2.1) (D := D) e.1 e.2.1
        exfalso
        omega
  | succ k ih =>
    intro n t τ hk hn hb hkp ht hr hB F hQ
    refine rf_a15 ((t.2.2.2 : Nat) : Int) m s n hB ⟨by omega, by omega, by omega, by omega, trivial⟩ ?_ ?_ ?_
    · intro τ1 y1 hB1 F1 f _ _ _
      have f3 := f.2.2.2.1
      refine hQ t _ τ1 rfl ⟨0, rfl, fun d e => ?_⟩ hb (fun _ z => z) ht (hr.fq F1 rfl rfl rfl) hB1 (FQ.tr F (FQ.up (G := []) rfl F1))
      have := opnd_pos (hw := t.2.2.1) (D := D) e.1 e.2.1
      exfalso
      omega
    · intro τ1 y1 hB1 F1 f _ d _
      have f5 := f.2.2.2.2.2.1
      have nb := zbF hm (by omega) d.1 d.2.1 f5.2
      -- two debts would be on it
      have un := h1 nb
      have inE : ∀ d, (cC σ D).E t s d → (cC σ D).E a0 s d := fun d e => ⟨e.1, by
        by_cases z : a0.2.2.1 d = 0
        · exact z
        · exact absurd e.2.1 (hkp d z), e.2.2⟩
      refine hQ t _ τ1 rfl ⟨0, rfl, fun d e j _ => ?_⟩ hb (fun _ z => z) ht (hr.fq F1 rfl rfl rfl) hB1 (FQ.tr F (FQ.up (G := []) rfl F1))
      exact pth.two (E := (cC σ D).E t s) (fun d e => hu d e.1) (fun d d' e e' => un d d' (inE d e) (inE d' e')) e j
    · intro τ1 y1 hB1 F1 f _ d _
      have f3 := f.2.2.2.1
      have G1 : FQ FCa σ τ1 := FQ.tr F (FQ.up (G := []) rfl F1)
      have r1 := hr.fq F1 rfl rfl rfl
      have cE1 : cEs τ1 D s = (cC σ D).E t s := by
        show eR (bsC τ1) (τ1.1 17) (τ1.1 20) D s = eR (bsC σ) (σ.1 17) t.2.2.1 D s
        rw [bsC_fq G1 rfl rfl rfl rfl, row_fq G1 (P := 17) rfl, r1.2.2]
      have e14 := row_fq G1 (P := 14) rfl
      have e15 := row_fq G1 (P := 15) rfl
      refine Ok.cv rfl rfl rfl rfl rfl rfl rfl ?_
      refine (x_fro (σ := τ1) (D := D) (P := P) (s := s) (by omega) hD hP ((congrArg Int32.toInt (G1 13 0 rfl)).trans eD) ((congrArg Int32.toInt (G1 7 0 rfl)).trans eP) (by rw [e14, e15]; exact hpp) (by rw [e14, e15]; exact hu) hB1).use (by decide) (fun r τ2 q => ?_)
      obtain ⟨hB2, F2, ⟨rfl, q⟩ | ⟨rfl, R, n', q, q5, qr, ql⟩⟩ := q
      · rw [cE1, e14, e15] at q
        refine rf_a25 ((t.2.2.2 : Nat) : Int) m s n 0 hB2 ⟨by omega, by omega, by omega, by omega, by omega, trivial⟩ ?_ ?_
        · intro τ3 y3 hB3 F3 _ _ _ _
          exact hQ t _ τ3 rfl ⟨0, rfl, q⟩ hb (fun _ z => z) ht ((r1.fq F2 rfl rfl rfl).fq F3 rfl rfl rfl) hB3 (FQ.tr G1 (FQ.tr (FQ.up (G := FFr) rfl F2) (FQ.up (G := []) rfl F3)))
        · intro τ3 y3 _ _ f _ _ _
          have f4 := f.2.2.2.2.1
          exfalso
          omega
      · rw [cE1, e14, e15] at q
        have n2 := q.1
        have n10 := q.2.1
        refine rf_a25 ((t.2.2.2 : Nat) : Int) m s n 1 hB2 ⟨by omega, by omega, by omega, by omega, by omega, trivial⟩ ?_ ?_
        · intro τ3 y3 _ _ f _ _ _
          have f4 := f.2.2.2.2.1
          exfalso
          omega
        intro τ3 y3 hB3 F3 _ _ _ _
        have G3 : FQ FCa σ τ3 := FQ.tr G1 (FQ.tr (FQ.up (G := FFr) rfl F2) (FQ.up (G := []) rfl F3))
        have r3 := (r1.fq F2 rfl rfl rfl).fq F3 rfl rfl rfl
        refine Ok.cv rfl rfl rfl rfl rfl rfl rfl ?_
        refine (x_car (σ := τ3) (D := D) (n := n') (R := R) hD ((congrArg Int32.toInt (G3 13 0 rfl)).trans eD) ⟨by omega, n10⟩ ((congrArg Int32.toInt (F3 74 5 rfl)).trans q5) (fun j hj => (congrArg Int32.toInt (F3 78 j rfl)).trans (qr j hj)) ql (fun d hd => by show 0 ≤ (τ3.1 16 d).toInt ∧ (τ3.1 16 d).toInt ≤ 99999; rw [r3.1]; exact ht d hd) hB3).use (by decide) (fun r τ4 q4 => ?_)
        obtain ⟨rfl, hB4, F4, s16, s19, s20⟩ := q4
        -- the same as from t
        have eK : cnK τ3 R n' n' = cnF (cC σ D).su (Int32.ofInt (lsF 1073741824 t.1 R n')) R (t.1, t.2.1, t.2.2.1, 0) n' := by
          show cnF (τ3.1 1 1) (Int32.ofInt (lsF 1073741824 (τ3.1 16) R n')) R (τ3.1 16, τ3.1 19, τ3.1 20, 0) n' = _
          rw [r3.1, r3.2.1, r3.2.2, show τ3.1 1 1 = σ.1 1 1 from G3 1 1 rfl]
        have eg : (cC σ D).go R n' t = ((cnK τ3 R n' n').1, (cnK τ3 R n' n').2.1, (cnK τ3 R n' n').2.2.1, t.2.2.2 + (cnK τ3 R n' n').2.2.2) := by
          rw [eK]
          exact cnF_sh _ _ _ t.1 t.2.1 t.2.2.1 t.2.2.2 n'
        have qn : (cnK τ3 R n' n').2.2.2 ≤ 0 + n' := cnF_n _ _ _ _ n'
        have op := go_op (c := cC σ D) q ht
        have op : opnd ((cC σ D).go R n' t).2.2.1 D < opnd t.2.2.1 D := op
        have gn : ((cC σ D).go R n' t).2.2.2 = t.2.2.2 + (cnK τ3 R n' n').2.2.2 := by rw [eg]
        refine rf_a29 ((t.2.2.2 : Nat) : Int) m s n (((cnK τ3 R n' n').2.2.2 : Nat) : Int) hB4 ⟨by omega, by omega, by omega, by omega, by omega, trivial⟩ ?_
        intro τ5 y5 hB5 F5 _ _ d5 _
        have e5 : y5 5 = ((((cC σ D).go R n' t).2.2.2 : Nat) : Int) := by
          have z := d5.1
          rw [sum0 (by omega) (by omega) (by omega) (by omega) (by omega) (by omega)] at z
          omega
        rw [e5, show (n : Int) + 1 = ((n + 1 : Nat) : Int) by omega]
        refine ih (n + 1) ((cC σ D).go R n' t) τ5 (by omega) (by omega) (by omega) (fun d z => go_kp (c := cC σ D) d (hkp d z)) (go_tk (c := cC σ D) q ht) ?_ hB5 (FQ.tr G3 (FQ.tr (FQ.up (G := FCr) rfl F4) (FQ.up (G := []) rfl F5))) (fun b v4 τ' c4 hk' hb' hkp' ht' hr' hB' F' => ?_)
        · rw [eg]
          exact ⟨(row_fq F5 rfl).trans s16, (row_fq F5 rfl).trans s19, (row_fq F5 rfl).trans s20⟩
        · obtain ⟨k', hk'⟩ := hk'
          exact hQ b v4 τ' c4 ⟨k' + 1, R, n', q, hk'⟩ hb' (fun d z => hkp' d (go_kp (c := cC σ D) d z)) ht' hr' hB' F'
abbrev tC (σ : pm_S) : P3 := (σ.1 16, σ.1 19, σ.1 20, 0)
set_option maxRecDepth 20000 in
theorem x_cal (H : caH σ D P S) (hc : ∀ d, d < D → 0 ≤ sI σ 16 d ∧ sI σ 16 d ≤ 99999) (hB0 : an_GB pm_B σ) : Sp 96 15 [.ref 74] σ (fun r τ => ∃ b : P3, r = some (.int (Int32.ofInt ((b.2.2.2 : Nat) : Int))) ∧ b.2.2.2 ≤ 300 ∧ rdsC (cC σ D) S (tC σ) b ∧ tkR D b ∧ rwC b τ ∧ an_GB pm_B τ ∧ FQ FCa σ τ) := by
  have H0 := H
  obtain ⟨hD, hP, hS, eD, eP, eS, hpp, hu⟩ := H
  refine Sp.at rfl rfl ?_
  refine rf_a0 _ _ _ _ rfl rfl rfl rfl hB0 ?_
  intro τ1 y1 v2 v3 v4 c2 c3 c4 hB1 F1 _ _ _ _
  refine Ok.cv rfl rfl rfl rfl rfl rfl rfl ?_
  refine (x_w2d (σ := τ1) hD ((congrArg Int32.toInt (F1 13 0 rfl)).trans eD) hB1).use (by decide) (fun r τ2 q => ?_)
  obtain ⟨⟨m, rfl, hm, h1⟩, hB2, F2⟩ := q
  have cE1 : ∀ s, cEs τ1 D s = (cC σ D).E (tC σ) s := fun s => by
    show eR (bsC τ1) (τ1.1 17) (τ1.1 20) D s = eR (bsC σ) (σ.1 17) (σ.1 20) D s
    rw [bsC_fq F1 rfl rfl rfl rfl, row_fq F1 (P := 17) rfl, row_fq F1 (P := 20) rfl]
  have op30 : opnd (tC σ).2.2.1 D ≤ D := cntP_le _ D
  have lp : ∀ (k s : Nat) (t : P3) (τ : pm_S) (v4 : Value), s + k = S → v4.category = 1 → rdsC (cC σ D) s (tC σ) t → t.2.2.2 + 10 * opnd t.2.2.1 D ≤ 300 → (∀ d, (tC σ).2.2.1 d ≠ 0 → t.2.2.1 d ≠ 0) → tkR D t → rwC t τ → an_GB pm_B τ → FQ FCa σ τ → Ok 96 15 7 [.ref 74, .int (Int32.ofInt ((t.2.2.2 : Nat) : Int)), .int (Int32.ofInt (m : Int)), .int (Int32.ofInt (s : Int)), v4] [] τ (fun r τ => ∃ b : P3, r = some (.int (Int32.ofInt ((b.2.2.2 : Nat) : Int))) ∧ b.2.2.2 ≤ 300 ∧ rdsC (cC σ D) S (tC σ) b ∧ tkR D b ∧ rwC b τ ∧ an_GB pm_B τ ∧ FQ FCa σ τ) := by
    intro k
    induction k with
    | zero =>
      intro s t τ v4 hs c4 hd hb hkp ht hr hB F
      refine rf_a7 ((t.2.2.2 : Nat) : Int) m s S v4 c4 hB ⟨by omega, by omega, by omega, by omega, trivial⟩ ⟨(congrArg Int32.toInt (F 3 0 rfl)).trans eS, trivial⟩ ?_
      intro τ1 y1 w4 k4 hB1 F1 _ _ _ _
      refine Ok.ic rfl rfl (by omega) (by omega) (by omega) (by omega) (fun g => ?_) (fun g => ?_)
      · refine rf_a35 ((t.2.2.2 : Nat) : Int) _ _ w4 rfl rfl k4 hB1 ⟨by omega, trivial⟩ ?_
        intro τ2 y2 hB2 F2 _ _ _ _
        have e : s = S := by omega
        rw [e] at hd
        exact ⟨t, rfl, by omega, hd, ht, (hr.fq F1 rfl rfl rfl).fq F2 rfl rfl rfl, hB2, FQ.tr F (FQ.up (G := []) rfl (FQ.tr F1 F2))⟩
      · have g : (s : Int) < (S : Int) := g
        exfalso
        omega
    | succ k ih =>
      intro s t τ v4 hs c4 hd hb hkp ht hr hB F
      have hsS : s < S := by omega
      refine rf_a7 ((t.2.2.2 : Nat) : Int) m s S v4 c4 hB ⟨by omega, by omega, by omega, by omega, trivial⟩ ⟨(congrArg Int32.toInt (F 3 0 rfl)).trans eS, trivial⟩ ?_
      intro τ1 y1 w4 k4 hB1 F1 _ _ _ _
      refine Ok.ic rfl rfl (by omega) (by omega) (by omega) (by omega) (fun g => ?_) (fun g => ?_)
      · have g : (S : Int) ≤ (s : Int) := g
        exfalso
        omega
      refine rf_a13 ((t.2.2.2 : Nat) : Int) m s w4 k4 hB1 ⟨by omega, by omega, by omega, trivial⟩ ?_
      intro τ2 y2 hB2 F2 _ _ _ _
      have ob : opnd t.2.2.1 D ≤ D := cntP_le _ D
      refine x_cai H0 hm hsS (a0 := tC σ) (fun nb d d' e e' => ?_) (opnd t.2.2.1 D) 0 t τ2 (Nat.le_refl _) (by omega) hb hkp ht ((hr.fq F1 rfl rfl rfl).fq F2 rfl rfl rfl) hB2 (FQ.tr F (FQ.up (G := []) rfl (FQ.tr F1 F2))) (fun b v4 τ' c4' hk' hb' hkp' ht' hr' hB' F' => ?_)
      · have z := h1 s (by omega) nb d d'
        rw [cE1 s] at z
        exact z e e'
      · obtain ⟨k', hk'⟩ := hk'
        rw [show (s : Int) + 1 = ((s + 1 : Nat) : Int) by omega]
        exact ih (s + 1) b τ' v4 (by omega) c4' ⟨t, k', hd, hk'⟩ hb' (fun d z => hkp' d (hkp d z)) ht' hr' hB' F'
  refine rf_a4 m v2 v3 v4 c2 c3 c4 hB2 ⟨by omega, trivial⟩ ?_
  intro τ3 y3 w4 k4 hB3 F3 _ _ _ _
  have G3 : FQ [] σ τ3 := FQ.tr F1 (FQ.tr F2 F3)
  exact lp S 0 (tC σ) τ3 w4 (Nat.zero_add _) k4 rfl (by show 0 + 10 * opnd (tC σ).2.2.1 D ≤ 300; omega) (fun _ z => z) hc ⟨row_fq G3 rfl, row_fq G3 rfl, row_fq G3 rfl⟩ hB3 (FQ.up (G := []) rfl G3)
end CAL
