/-! steps by hand; cells by hand -/
def put (σ : pm_S) (p y : Nat) (w : Int32) : pm_S := (va_up σ.1 p (upd (σ.1 p) y w), σ.2)
theorem put_get (σ : pm_S) (p y : Nat) (w : Int32) (p' j' : Nat) : (put σ p y w).1 p' j' = if p' = p ∧ j' = y then w else σ.1 p' j' := an_upk σ p y w p' j'
theorem put_eq {σ : pm_S} {p y : Nat} {w : Int32} : (put σ p y w).1 p y = w := by rw [put_get, if_pos ⟨rfl, rfl⟩]
theorem put_ne {σ : pm_S} {p y : Nat} {w : Int32} {p' j' : Nat} (h : ¬ (p' = p ∧ j' = y)) : (put σ p y w).1 p' j' = σ.1 p' j' := by rw [put_get, if_neg h]
theorem put_nr {σ : pm_S} {p y : Nat} {w : Int32} {p' j' : Nat} (h : p' ≠ p) : (put σ p y w).1 p' j' = σ.1 p' j' := put_ne (fun z => h z.1)
theorem put_nj {σ : pm_S} {p y : Nat} {w : Int32} {j' : Nat} (h : j' ≠ y) : (put σ p y w).1 p j' = σ.1 p j' := put_ne (fun z => h z.2)
theorem put_GB {σ : pm_S} {p y : Nat} {w : Int32} (hB : an_GB pm_B σ) (hb : (an_bd pm_B p y).1 ≤ w.toInt ∧ w.toInt ≤ (an_bd pm_B p y).2) : an_GB pm_B (put σ p y w) := by
  intro p' j' hj
  rw [put_get]
  split
  · rename_i e
    rw [e.1, e.2]
    exact hb
  · exact hB p' j' hj
/-- the model's own numbers -/
abbrev cI (σ : pm_S) (j : Nat) : Int := (σ.1 93 j).toInt
def FQ (F : List (Nat × Nat)) (σ τ : pm_S) : Prop := ∀ p j, an_inF F p j = false → τ.1 p j = σ.1 p j
theorem FQ.rf (F : List (Nat × Nat)) (σ : pm_S) : FQ F σ σ := fun _ _ _ => rfl
theorem FQ.tr {F : List (Nat × Nat)} {σ τ υ : pm_S} (h : FQ F σ τ) (h' : FQ F τ υ) : FQ F σ υ := fun p j q => (h' p j q).trans (h p j q)
theorem FQ.up {G F : List (Nat × Nat)} {σ τ : pm_S} (hs : an_subF G F = true) (h : FQ G σ τ) : FQ F σ τ := fun p j q => h p j (an_subF_ok hs q)
theorem FQ.put {F : List (Nat × Nat)} {σ : pm_S} {p y : Nat} {w : Int32} (h : an_inR F p = true) : FQ F σ (put σ p y w) := fun p' j' q => put_ne (fun z => by
  rw [z.1] at q
  rw [an_inR_ok h j'] at q
  cases q)
theorem oI (w : Int32) : Int32.ofInt w.toInt = w := ai_as w
theorem sum0 {a b : Int} (ha : -2147483648 ≤ a) (ha' : a ≤ 2147483647) (hb : -2147483648 ≤ b) (hb' : b ≤ 2147483647) (h : -2147483648 ≤ a + b) (h' : a + b ≤ 2147483647) : (an_f 0 (Int32.ofInt a) (Int32.ofInt b)).toInt = a + b := by
  show (Int32.ofInt a + Int32.ofInt b).toInt = a + b
  rw [ai_add, ai_of ha ha', ai_of hb hb'] <;> rw [ai_of ha ha', ai_of hb hb'] <;> assumption
section STEP
variable {k D idx : Nat} {M : pm_M} {L st : List Value} {σ : pm_S} {Q : Option Value → pm_S → Prop} {pc ln x y m : Nat} {zs : List Nat}
theorem Ok.cv (hM : pm_nth pm_tab k = some M) {off : Nat} (hi : pm_nth M.2.2.2.2.2 idx = some (pc, .invokevirtual off, ln, x, y, zs)) {p cj : Nat} {As rest : List Value} (hx : Nat.ble x 255 = true) (hp : pm_pop y [] st = some (As, .ref p :: rest)) (hc : Nat.ble (pm_cs rest) 8 = true) (hz : zs = [cj]) (hl : (pm_OS none).2.2.2.2.2.2.2.1 σ p = some cj) (h : Sp x D (.ref p :: As) σ (fun r τ => Ok k (D + 1) (idx + 1) L (pm_rv r rest) τ Q)) : Ok k (D + 1) idx L st σ Q := by
  refine Ok.one (by rw [← pm_nth_eq]; exact hM) hi ?_
  unfold pm_go
  dsimp only
  unfold pm_gcV
  rw [hx]
  dsimp only
  rw [hp]
  dsimp only
  rw [hc]
  dsimp only
  rw [hl, hz]
  dsimp only
  rw [Nat.beq_refl]
  exact h
theorem Ok.ic (hM : pm_nth pm_tab k = some M) {c : Jvm.ClassFile.Cond} {off : Int} (hi : pm_nth M.2.2.2.2.2 idx = some (pc, .if_icmp c off, ln, x, y, zs)) {a b : Int} (a1 : -2147483648 ≤ a) (a2 : a ≤ 2147483647) (b1 : -2147483648 ≤ b) (b2 : b ≤ 2147483647) (ht : an_sem (an_cn c) a b → Ok k (D + 1) x L st σ Q) (hf : an_sem (an_ng (an_cn c)) a b → Ok k (D + 1) (idx + 1) L st σ Q) : Ok k (D + 1) idx L (.int (Int32.ofInt b) :: .int (Int32.ofInt a) :: st) σ Q := by
  refine Ok.one (by rw [← pm_nth_eq]; exact hM) hi ?_
  unfold pm_go
  dsimp only
  have h := an_cc_sem (c := c) (x := Int32.ofInt a) (y := Int32.ofInt b)
  rw [ai_of a1 a2, ai_of b1 b2] at h
  exact ⟨fun q => ht (h.1 q), fun q => hf (h.2 q)⟩
theorem idxI {j : Int} {n : Nat} (h0 : 0 ≤ j) (h1 : j < n) (hn : n ≤ 20000) : (¬ ((Int32.ofInt j) < 0 ∨ n ≤ (Int32.ofInt j).toNatClampNeg)) ∧ (Int32.ofInt j).toNatClampNeg = j.toNat := by
  have e : (Int32.ofInt j).toInt = j := ai_of (by omega) (by omega)
  have e2 : (Int32.ofInt j).toNatClampNeg = j.toNat := by show (Int32.ofInt j).toInt.toNat = j.toNat; rw [e]
  refine ⟨?_, e2⟩
  rw [e2]
  intro z
  rcases z with z | z
  · have := Int32.lt_iff_toInt_lt.mp z
    rw [e] at this
    have e0 : (0 : Int32).toInt = 0 := rfl
    omega
  · omega
theorem Ok.ald (hM : pm_nth pm_tab k = some M) (hi : pm_nth M.2.2.2.2.2 idx = some (pc, .iaload, ln, x, y, zs)) {p n : Nat} (hp : pm_nth pm_lay p = some (.inl (0, n))) (hn : n ≤ 20000) {j : Int} (h0 : 0 ≤ j) (h1 : j < n) (h : Ok k (D + 1) (idx + 1) L (.int (Int32.ofInt (σ.1 p j.toNat).toInt) :: st) σ Q) : Ok k (D + 1) idx L (.int (Int32.ofInt j) :: .ref p :: st) σ Q := by
  refine Ok.one (by rw [← pm_nth_eq]; exact hM) hi ?_
  obtain ⟨g1, g2⟩ := idxI h0 h1 hn
  unfold pm_go
  dsimp only
  unfold pm_gald
  dsimp only
  have e : (pm_OS none).2.2.1 σ p = some (0, n, σ.1 p) := by show (match pm_nth pm_lay p with | some (.inl (k, n)) => _ | _ => none) = _; rw [hp]
  rw [e]
  dsimp only
  refine ⟨fun _ => ?_, fun q => absurd g1 q⟩
  rw [g2]
  rw [oI] at h
  exact h
theorem Ok.ast (hM : pm_nth pm_tab k = some M) (hi : pm_nth M.2.2.2.2.2 idx = some (pc, .iastore, ln, x, y, zs)) {p n : Nat} (hp : pm_nth pm_lay p = some (.inl (0, n))) (hn : n ≤ 20000) {j : Int} (h0 : 0 ≤ j) (h1 : j < n) {v : Int32} (h : Ok k (D + 1) (idx + 1) L st (put σ p j.toNat v) Q) : Ok k (D + 1) idx L (.int v :: .int (Int32.ofInt j) :: .ref p :: st) σ Q := by
  refine Ok.one (by rw [← pm_nth_eq]; exact hM) hi ?_
  obtain ⟨g1, g2⟩ := idxI h0 h1 hn
  unfold pm_go
  dsimp only
  unfold pm_gast
  dsimp only
  have e : (pm_OS none).2.2.1 σ p = some (0, n, σ.1 p) := by show (match pm_nth pm_lay p with | some (.inl (k, n)) => _ | _ => none) = _; rw [hp]
  rw [e]
  dsimp only
  refine ⟨fun _ => ?_, fun q => absurd g1 q⟩
  rw [g2]
  exact h
/-- a method from its first place -/
theorem Sp.at {av : List Value} (hM : pm_nth pm_tab k = some M) (hac : pm_ac M.2.2.1 av = true) (h : Ok k D 0 (pm_L0 M.2.2.1 av) [] σ Q) : Sp k D av σ Q := Sp.of (by rw [← pm_nth_eq]; exact hM) hac h
end STEP
