/-! cleared in the class: the fewest, the greatest, all of it -/
section KQX
variable {m : Nat} {C : Nat → Bool}
theorem gT_s {T : Nat} {r q : Nat → Int} (h : gT T C r) (hT : T ≠ 0) (hq : ∀ t, t < T → q t = r t) (hv : ∃ b, Nat.testBit T b = true ∧ (∀ t, t < b → Nat.testBit T t = false) ∧ (C T = true → q T = 1) ∧ (C T = false → cMin 10 (fun u => u ≠ 0 ∧ sbs u (T ^^^ 2 ^ b) ∧ C (T ^^^ u) = true) (fun u => 1 + r u) (q T))) : gT (T + 1) C q := by
  have up : ∀ (S : Nat) (v : Int), S ≤ T → (∃ b, Nat.testBit S b = true ∧ (∀ t, t < b → Nat.testBit S t = false) ∧ (C S = true → v = 1) ∧ (C S = false → cMin 10 (fun u => u ≠ 0 ∧ sbs u (S ^^^ 2 ^ b) ∧ C (S ^^^ u) = true) (fun u => 1 + r u) v)) → ∃ b, Nat.testBit S b = true ∧ (∀ t, t < b → Nat.testBit S t = false) ∧ (C S = true → v = 1) ∧ (C S = false → cMin 10 (fun u => u ≠ 0 ∧ sbs u (S ^^^ 2 ^ b) ∧ C (S ^^^ u) = true) (fun u => 1 + q u) v) := fun S v hS h => by
    obtain ⟨b, b1, b2, b3, b4⟩ := h
    refine ⟨b, b1, b2, b3, fun c => cMin_cg (fun _ => Iff.rfl) (fun u hu => ?_) (b4 c)⟩
    have l1 := sbs_le hu.2.1
    have l2 := xlt (sbs_one b1) (Nat.ne_of_gt (Nat.two_pow_pos b))
    rw [hq u (by omega)]
  refine ⟨(hq 0 (by omega)).trans h.1, fun S h0 hS => ?_⟩
  by_cases e : S = T
  · rw [e]
    exact up T (q T) (Nat.le_refl _) hv
  · rw [hq S (by omega)]
    exact up S (r S) (by omega) (h.2 S h0 (by omega))
theorem x_few {σ : pm_S} (hm : m ≤ 10) {r : Nat → Int} {S b : Nat} (hS : S < 2 ^ m) (hb : Nat.testBit S b = true) (h82 : ∀ P, P < S → sI σ 82 P = tvI (C P)) (h83 : ∀ P, P < S → sI σ 83 P = r P ∧ 0 ≤ r P ∧ r P ≤ 10) (hB : an_GB pm_B σ) : Sp 72 7 [.ref 79, .int (Int32.ofInt ((2 ^ b : Nat) : Int)), .int (Int32.ofInt ((S ^^^ 2 ^ b : Nat) : Int))] σ (fun w τ => (∃ v : Int, w = some (.int (Int32.ofInt v)) ∧ (0 ≤ v ∧ v ≤ 10) ∧ cMin 10 (fun u => u ≠ 0 ∧ sbs u (S ^^^ 2 ^ b) ∧ C (S ^^^ u) = true) (fun u => 1 + r u) v) ∧ an_GB pm_B τ ∧ FQ [] σ τ) := by
  have h1024 := p1024 hm
  have bm := tb_lt hS hb
  have s1 : sbs (2 ^ b) S := sbs_one hb
  have p2 := Nat.two_pow_pos b
  have pS := sbs_le s1
  have rl := xlt s1 (Nat.ne_of_gt p2)
  have rS : sbs (S ^^^ 2 ^ b) S := xsbs s1
  have nb : Nat.testBit (S ^^^ 2 ^ b) b = false := by rw [xtb s1, hb, Nat.testBit_two_pow, decide_eq_true rfl]; rfl
  generalize hR : S ^^^ 2 ^ b = R at *
  have go : ∀ (n p : Nat) (v : Int) (τ : pm_S), p ≤ n → sbs p R → (0 ≤ v ∧ v ≤ 10) → cMin 10 (fun u => (u ≠ 0 ∧ sbs u R ∧ C (S ^^^ u) = true) ∧ p < u) (fun u => 1 + r u) v → an_GB pm_B τ → FQ [] σ τ → Ok 72 7 4 [.ref 79, .int (Int32.ofInt ((2 ^ b : Nat) : Int)), .int (Int32.ofInt (R : Int)), .int (Int32.ofInt v), .int (Int32.ofInt (p : Int))] [] τ (fun w τ => (∃ v : Int, w = some (.int (Int32.ofInt v)) ∧ (0 ≤ v ∧ v ≤ 10) ∧ cMin 10 (fun u => u ≠ 0 ∧ sbs u R ∧ C (S ^^^ u) = true) (fun u => 1 + r u) v) ∧ an_GB pm_B τ ∧ FQ [] σ τ) := by
    intro n
    induction n with
    | zero =>
      intro p v τ hp hps hv hm hB F
      refine kc_4 ((2 ^ b : Nat) : Int) R v p hB ⟨by omega, by omega, by omega, by omega, trivial⟩ ?_ ?_
      · intro τ1 y1 hB1 F1 _ _ _ _
        exact ⟨⟨v, rfl, hv, cMin_cg (fun P => ⟨fun h => h.1, fun h => ⟨h, by have := h.1; omega⟩⟩) (fun _ _ => rfl) hm⟩, hB1, F.tr F1⟩
      · intro τ1 y1 hB1 F1 f1 _ _ _
        exfalso
        omega
    | succ n ih =>
      intro p v τ hp hps hv hm hB F
      have pR := sbs_le hps
      refine kc_4 ((2 ^ b : Nat) : Int) R v p hB ⟨by omega, by omega, by omega, by omega, trivial⟩ ?_ ?_
      · intro τ1 y1 hB1 F1 f1 _ _ _
        exact ⟨⟨v, rfl, hv, cMin_cg (fun P => ⟨fun h => h.1, fun h => ⟨h, by have := h.1; omega⟩⟩) (fun _ _ => rfl) hm⟩, hB1, F.tr F1⟩
      · intro τ1 y1 hB1 F1 f1 _ d1 _
        have p0 : p ≠ 0 := by omega
        have pS2 : sbs p S := sbs_tr hps rS
        have lt := xlt pS2 p0
        have np : (p - 1) &&& R ≤ p - 1 := Nat.and_le_left
        have e5 : y1 5 = ((R ^^^ p : Nat) : Int) := andX (by omega) hps d1.1 d1.2.1
        have eS : 2 ^ b ^^^ (R ^^^ p) = S ^^^ p := by rw [← hR, Nat.xor_assoc, ← Nat.xor_assoc (2 ^ b) S, Nat.xor_comm (2 ^ b) S, Nat.xor_assoc S, ← Nat.xor_assoc (2 ^ b) (2 ^ b), Nat.xor_self, Nat.zero_xor]
        have lx := sbs_le (xsbs hps)
        have e6 : y1 6 = ((S ^^^ p : Nat) : Int) := by
          rw [← eS]
          refine orX (a := 2 ^ b) (b := R ^^^ p) (by omega) (by omega) (fun t ht => ?_) (by rw [← e5]; exact d1.2.2.1)
          rw [Nat.testBit_two_pow] at ht
          rw [← of_decide_eq_true ht, xtb hps, nb]
          rfl
        rw [e6]
        refine Ok.bld (n := 1024) rfl rfl rfl (by decide) (by omega) (by omega) ?_
        rw [show (((S ^^^ p : Nat) : Int)).toNat = S ^^^ p by omega]
        have G1 : FQ [] σ τ1 := F.tr F1
        have g : (τ1.1 82 (S ^^^ p)).toInt = tvI (C (S ^^^ p)) := (congrArg Int32.toInt (G1 82 _ rfl)).trans (h82 _ lt)
        rw [g]
        cases hc : C (S ^^^ p) with
        | false =>
          refine kc_16n ((2 ^ b : Nat) : Int) R v p hB1 ⟨by omega, by omega, by omega, by omega, trivial⟩ ?_
          intro τ2 y2 hB2 F2 f2 _ d2 _
          have e4 : y2 4 = (((p - 1) &&& R : Nat) : Int) := dnC (by omega) p0 (by omega) d2.1
          rw [e4]
          refine ih ((p - 1) &&& R) v τ2 (by omega) and_sbs hv (cMin_cg (fun u => ⟨fun h => ⟨h.1, (dn_iff hps p0 h.1.2.1).mpr (Or.inl h.2)⟩, fun h => ⟨h.1, ?_⟩⟩) (fun _ _ => rfl) hm) hB2 (G1.tr F2)
          rcases (dn_iff hps p0 h.1.2.1).mp h.2 with q | q
          · exact q
          · have := h.1.2.2
            rw [q, hc] at this
            cases this
        | true =>
          have hx := h83 p (by omega)
          refine kc_16 ((2 ^ b : Nat) : Int) R v p (r p) hB1 ⟨by omega, by omega, by omega, by omega, by omega, trivial⟩ ⟨(congrArg Int32.toInt (G1 83 p rfl)).trans hx.1, trivial⟩ ?_
          intro τ2 y2 hB2 F2 f2 _ d2 _
          have e5' : y2 5 = min v (1 + r p) := by
            rw [show (1 : Int) + r p = r p + 1 by omega]
            exact zbM (by omega) (by omega) d2.1
          have e6' : y2 6 = (((p - 1) &&& R : Nat) : Int) := dnC (by omega) p0 (by omega) d2.2.1
          rw [e5', e6']
          refine ih ((p - 1) &&& R) _ τ2 (by omega) and_sbs (by omega) (cMin_y (f := fun u => 1 + r u) (p := p) (fun u => ⟨fun h => ?_, fun h => ?_⟩) hm) hB2 (G1.tr F2)
          · rcases (dn_iff hps p0 h.1.2.1).mp h.2 with q | q
            · exact Or.inl ⟨h.1, q⟩
            · exact Or.inr q
          · rcases h with h | h
            · exact ⟨h.1, (dn_iff hps p0 h.1.2.1).mpr (Or.inl h.2)⟩
            · rw [h]
              exact ⟨⟨p0, hps, hc⟩, by omega⟩
  refine Sp.at rfl rfl ?_
  refine kc_0 ((2 ^ b : Nat) : Int) R _ _ rfl rfl hB ⟨by omega, by omega, trivial⟩ ?_
  intro τ y hB1 F1 _ _ _ _
  exact go R R 10 τ (Nat.le_refl _) (sbs_rf R) (by omega) ⟨Int.le_refl _, fun P hP => absurd (sbs_le hP.1.2.1) (by omega), Or.inl rfl⟩ hB1 F1
theorem x_grs {σ : pm_S} (hm : m ≤ 10) {F : Nat → Int} {S : Nat} (hS : S < 2 ^ m) (h82 : ∀ P, P < 2 ^ m → sI σ 82 P = tvI (C P)) (h83 : ∀ P, P < 2 ^ m → sI σ 83 P = F P ∧ 0 ≤ F P ∧ F P ≤ 1000) (hB : an_GB pm_B σ) : Sp 74 7 [.ref 79, .int (Int32.ofInt (S : Int))] σ (fun w τ => w = some (.int (Int32.ofInt ((grS C F S : Nat) : Int))) ∧ an_GB pm_B τ ∧ FQ [] σ τ) := by
  have h1024 := p1024 hm
  have hFS := h83 S hS
  have go : ∀ (n p : Nat) (τ : pm_S), p ≤ n → sbs p S → an_GB pm_B τ → FQ [] σ τ → Ok 74 7 2 [.ref 79, .int (Int32.ofInt (S : Int)), .int (Int32.ofInt (p : Int))] [] τ (fun w τ => w = some (.int (Int32.ofInt ((dnF (gqQ C F S) S n p : Nat) : Int))) ∧ an_GB pm_B τ ∧ FQ [] σ τ) := by
    intro n
    induction n with
    | zero =>
      intro p τ hp hps hB G
      refine kd_2z S p hB ⟨by omega, by omega, trivial⟩ ?_
      intro τ1 y1 hB1 F1 _ _ _ _
      exact ⟨rfl, hB1, G.tr F1⟩
    | succ n ih =>
      intro p τ hp hps hB G
      by_cases p0 : p = 0
      · refine kd_2z S p hB ⟨by omega, by omega, trivial⟩ ?_
        intro τ1 y1 hB1 F1 _ _ _ _
        refine ⟨?_, hB1, G.tr F1⟩
        rw [show dnF (gqQ C F S) S (n + 1) p = 0 from if_pos p0]
        rfl
      have ps := sbs_le hps
      have lt := xlt hps p0
      have np : (p - 1) &&& S ≤ p - 1 := Nat.and_le_left
      have c0 : sI τ 82 p = tvI (C p) := (congrArg Int32.toInt (G 82 p rfl)).trans (h82 p (by omega))
      have next : gqQ C F S p = false → ∀ τ2 : pm_S, an_GB pm_B τ2 → FQ [] σ τ2 → Ok 74 7 26 [.ref 79, .int (Int32.ofInt (S : Int)), .int (Int32.ofInt (p : Int))] [] τ2 (fun w τ => w = some (.int (Int32.ofInt ((dnF (gqQ C F S) S (n + 1) p : Nat) : Int))) ∧ an_GB pm_B τ ∧ FQ [] σ τ) := by
        intro hq τ2 hB2 F2
        refine kd_26 S p hB2 ⟨by omega, by omega, trivial⟩ ?_
        intro τ3 y3 hB3 F3 f3 _ d3 _
        have e3 : y3 2 = (((p - 1) &&& S : Nat) : Int) := dnC (by omega) p0 (by omega) d3.1
        rw [e3, show dnF (gqQ C F S) S (n + 1) p = dnF (gqQ C F S) S n ((p - 1) &&& S) from (if_neg p0).trans (if_neg (by rw [hq]; decide))]
        exact ih ((p - 1) &&& S) τ3 (by omega) and_sbs hB3 (F2.tr F3)
      cases hc : C p with
      | false =>
        refine kd_2n S p 0 hB ⟨by omega, by omega, by omega, trivial⟩ ⟨c0.trans (tvI_n hc), trivial⟩ ?_
        intro τ1 y1 hB1 F1 _ _ _ _
        refine next ?_ τ1 hB1 (G.tr F1)
        show (C p && _) = false
        rw [hc]
        rfl
      | true =>
        have hx := h83 (S ^^^ p) (by omega)
        refine kd_2y S p 1 hB ⟨by omega, by omega, by omega, trivial⟩ ⟨c0.trans (tvI_y hc), trivial⟩ ?_
        intro τ1 y1 hB1 F1 f1 _ d1 _
        have e5 : y1 4 = ((S ^^^ p : Nat) : Int) := andX (by omega) hps d1.1 d1.2.1
        rw [e5]
        refine Ok.ald (n := 1024) rfl rfl rfl (by decide) (by omega) (by omega) ?_
        rw [show (((S ^^^ p : Nat) : Int)).toNat = S ^^^ p by omega]
        have G1 : FQ [] σ τ1 := G.tr F1
        have g : (τ1.1 83 (S ^^^ p)).toInt = F (S ^^^ p) := (congrArg Int32.toInt (G1 83 _ rfl)).trans hx.1
        rw [g]
        refine kd_17 S p (F (S ^^^ p)) (F S) hB1 ⟨by omega, by omega, by omega, by omega, trivial⟩ ⟨(congrArg Int32.toInt (G1 83 _ rfl)).trans hFS.1, trivial⟩ ?_
        intro τ2 y2 hB2 F2 _ _ _ _
        have G2 : FQ [] σ τ2 := G1.tr F2
        refine Ok.ic rfl rfl (by omega) (by omega) (by omega) (by omega) (fun h => ?_) (fun h => ?_)
        · have h : F (S ^^^ p) ≠ F S + (-1) := h
          refine next ?_ τ2 hB2 G2
          show (C p && decide (F (S ^^^ p) = F S - 1)) = false
          rw [hc, Bool.true_and]
          exact decide_eq_false (by omega)
        · have h : F (S ^^^ p) = F S + (-1) := h
          refine kd_24 S p hB2 ⟨by omega, by omega, trivial⟩ ?_
          intro τ3 y3 hB3 F3 _ _ _ _
          have hq : gqQ C F S p = true := by
            show (C p && decide (F (S ^^^ p) = F S - 1)) = true
            rw [hc, Bool.true_and]
            exact decide_eq_true (by omega)
          refine ⟨?_, hB3, G2.tr F3⟩
          rw [show dnF (gqQ C F S) S (n + 1) p = p from (if_neg p0).trans (if_pos hq)]
  refine Sp.at rfl rfl ?_
  refine kd_0 S _ rfl hB ⟨by omega, trivial⟩ ?_
  intro τ y hB1 F1 _ _ _ _
  exact go 1023 S τ (by omega) (sbs_rf S) hB1 F1
theorem x_sos {σ : pm_S} (hm : m ≤ 10) {F : Nat → Int} (h82 : ∀ P, P < 2 ^ m → sI σ 82 P = tvI (C P)) (h83 : ∀ P, P < 2 ^ m → sI σ 83 P = F P ∧ 0 ≤ F P ∧ F P ≤ 1000) (hB : an_GB pm_B σ) {K : Nat} (hK : K < 10) : Sp 73 9 [.ref 79, .int (Int32.ofInt (K : Int)), .int (Int32.ofInt ((2 ^ m - 1 : Nat) : Int))] σ (fun w τ => w = some (.int (Int32.ofInt ((grS C F (lfS m C F K) : Nat) : Int))) ∧ an_GB pm_B τ ∧ FQ [] σ τ) := by
  have h1024 := p1024 hm
  have go : ∀ (N k part : Nat) (τ : pm_S), k + N = K + 1 → part < 1024 → (k = K + 1 → part = grS C F (lfS m C F K)) → an_GB pm_B τ → FQ [] σ τ → Ok 73 9 6 [.ref 79, .int (Int32.ofInt (K : Int)), .int (Int32.ofInt ((2 ^ m - 1 : Nat) : Int)), .int (Int32.ofInt ((lfS m C F k : Nat) : Int)), .int (Int32.ofInt (part : Int)), .int (Int32.ofInt (k : Int))] [] τ (fun w τ => w = some (.int (Int32.ofInt ((grS C F (lfS m C F K) : Nat) : Int))) ∧ an_GB pm_B τ ∧ FQ [] σ τ) := by
    intro N
    induction N with
    | zero =>
      intro k part τ hN hp he hB G
      have lf := lfS_lt (m := m) (C := C) (F := F) k
      refine ke_6 K ((2 ^ m - 1 : Nat) : Int) ((lfS m C F k : Nat) : Int) part k hB ⟨by omega, by omega, by omega, by omega, by omega, trivial⟩ ?_
      intro τ1 y1 hB1 F1 _ _ _ _
      refine Ok.ic rfl rfl (by omega) (by omega) (by omega) (by omega) (fun h => ?_) (fun h => ?_)
      · refine ke_24 K ((2 ^ m - 1 : Nat) : Int) ((lfS m C F k : Nat) : Int) part k hB1 ⟨by omega, by omega, by omega, by omega, by omega, trivial⟩ ?_
        intro τ2 y2 hB2 F2 _ _ _ _
        refine ⟨?_, hB2, G.tr (F1.tr F2)⟩
        rw [he (by omega)]
      · exfalso
        have h : (k : Int) ≤ (K : Int) := h
        omega
    | succ N ih =>
      intro k part τ hN hp he hB G
      have lf := lfS_lt (m := m) (C := C) (F := F) k
      refine ke_6 K ((2 ^ m - 1 : Nat) : Int) ((lfS m C F k : Nat) : Int) part k hB ⟨by omega, by omega, by omega, by omega, by omega, trivial⟩ ?_
      intro τ1 y1 hB1 F1 _ _ _ _
      refine Ok.ic rfl rfl (by omega) (by omega) (by omega) (by omega) (fun h => ?_) (fun h => ?_)
      · exfalso
        have h : (K : Int) < (k : Int) := h
        omega
      · refine ke_9 K ((2 ^ m - 1 : Nat) : Int) ((lfS m C F k : Nat) : Int) part k hB1 ⟨by omega, by omega, by omega, by omega, by omega, trivial⟩ ?_
        intro τ2 y2 hB2 F2 _ _ _ _
        have G2 : FQ [] σ τ2 := G.tr (F1.tr F2)
        refine Ok.cv rfl rfl rfl rfl rfl rfl rfl ?_
        refine (x_grs (C := C) hm (F := F) lf (fun P hP => (congrArg Int32.toInt (G2 82 P rfl)).trans (h82 P hP)) (fun P hP => ⟨(congrArg Int32.toInt (G2 83 P rfl)).trans (h83 P hP).1, (h83 P hP).2⟩) hB2).use (by decide) (fun r τ3 q3 => ?_)
        obtain ⟨rfl, hB3, F3⟩ := q3
        have gs : sbs (grS C F (lfS m C F k)) (lfS m C F k) := dnF_s 1023 _ (sbs_rf _)
        have gl := sbs_le gs
        refine ke_15 K ((2 ^ m - 1 : Nat) : Int) ((lfS m C F k : Nat) : Int) k ((grS C F (lfS m C F k) : Nat) : Int) _ rfl hB3 ⟨by omega, by omega, by omega, by omega, by omega, trivial⟩ ?_
        intro τ4 y4 hB4 F4 f4 _ d4 _
        have e6 : y4 6 = ((lfS m C F (k + 1) : Nat) : Int) := andX (by omega) gs d4.1 d4.2.1
        rw [e6]
        exact ih (k + 1) (grS C F (lfS m C F k)) τ4 (by omega) (by omega) (fun z => by rw [show k = K by omega]) hB4 (G2.tr (F3.tr F4))
  refine Sp.at rfl rfl ?_
  refine ke_0 K ((2 ^ m - 1 : Nat) : Int) _ _ _ rfl rfl rfl hB ⟨by omega, by omega, trivial⟩ ?_
  intro τ y hB1 F1 _ _ _ _
  exact go (K + 1) 0 0 τ (by omega) (by omega) (fun z => by omega) hB1 F1
end KQX
section KQY
variable {m : Nat} {l : List Nat} {X : Nat → Nat → Bool}
theorem gT_r {C : Nat → Bool} (hC : cOk m C) {T : Nat} (hT : T ≤ 2 ^ m) {r : Nat → Int} (h : gT T C r) {t : Nat} (ht : t < T) : 0 ≤ r t ∧ r t ≤ 10 := by
  have h1024 := p1024 hC.1
  have a := gT_b hC hT h t t (Nat.le_refl _) ht
  have p := pcn_10 t (by omega)
  omega
abbrev FJs : List (Nat × Nat) := [(82, 9999), (83, 9999)]
theorem x_cou {σ : pm_S} (hm : m ≤ 10) (hs : ∀ i j, X i j = X j i) (hr : ∀ i, X i i = false) (h81 : ∀ i, i < m → sI σ 81 i = ((clB X i m : Nat) : Int)) (hB : an_GB pm_B σ) : Sp 71 9 [.ref 79, .int (Int32.ofInt ((2 ^ m - 1 : Nat) : Int))] σ (fun r τ => r = none ∧ an_GB pm_B τ ∧ FQ FJs σ τ ∧ (∀ P, P < 2 ^ m → sI τ 82 P = tvI (cB m X P)) ∧ gT (2 ^ m) (cB m X) (sI τ 83)) := by
  have h1024 := p1024 hm
  have h1 := Nat.two_pow_pos m
  have hC : cOk m (cB m X) := cB_ok hm hr
  have go : ∀ (N T : Nat) (τ : pm_S) (v3 v4 v5 : Value), v3.category = 1 → v4.category = 1 → v5.category = 1 → T + N = 2 ^ m → 1 ≤ T → an_GB pm_B τ → FQ FJs σ τ → (∀ P, P < T → sI τ 82 P = tvI (cB m X P)) → gT T (cB m X) (sI τ 83) → Ok 71 9 12 [.ref 79, .int (Int32.ofInt ((2 ^ m - 1 : Nat) : Int)), .int (Int32.ofInt (T : Int)), v3, v4, v5] [] τ (fun r τ => r = none ∧ an_GB pm_B τ ∧ FQ FJs σ τ ∧ (∀ P, P < 2 ^ m → sI τ 82 P = tvI (cB m X P)) ∧ gT (2 ^ m) (cB m X) (sI τ 83)) := by
    intro N
    induction N with
    | zero =>
      intro T τ v3 v4 v5 c3 c4 c5 hN hT hB F hJ hg
      refine kb_12 ((2 ^ m - 1 : Nat) : Int) T v3 v4 v5 c3 c4 c5 hB ⟨by omega, by omega, trivial⟩ ?_
      intro τ1 y1 w3 w4 w5 d3 d4 d5 hB1 F1 _ _ _ _
      refine Ok.ic rfl rfl (by omega) (by omega) (by omega) (by omega) (fun h => ?_) (fun h => ?_)
      · refine kb_67 ((2 ^ m - 1 : Nat) : Int) T w3 w4 w5 d3 d4 d5 hB1 ⟨by omega, by omega, trivial⟩ ?_
        intro τ2 y2 hB2 F2 _ _ _ _
        have H2 : FQ [] τ τ2 := F1.tr F2
        refine ⟨rfl, hB2, F.tr (FQ.up (G := []) rfl H2), fun P hP => (congrArg Int32.toInt (H2 82 P rfl)).trans (hJ P (by omega)), ?_⟩
        rw [show sI τ2 83 = sI τ 83 from funext fun j => congrArg Int32.toInt (H2 83 j rfl), ← show T = 2 ^ m by omega]
        exact hg
      · exfalso
        have h : (T : Int) ≤ ((2 ^ m - 1 : Nat) : Int) := h
        omega
    | succ N ih =>
      intro T τ v3 v4 v5 c3 c4 c5 hN hT hB F hJ hg
      refine kb_12 ((2 ^ m - 1 : Nat) : Int) T v3 v4 v5 c3 c4 c5 hB ⟨by omega, by omega, trivial⟩ ?_
      intro τ1 y1 w3 w4 w5 d3 d4 d5 hB1 F1 _ _ _ _
      refine Ok.ic rfl rfl (by omega) (by omega) (by omega) (by omega) (fun h => ?_) (fun h => ?_)
      · exfalso
        have h : ((2 ^ m - 1 : Nat) : Int) < (T : Int) := h
        omega
      · have hT2 : T < 2 ^ m := by omega
        have lw := lw_f T (by omega) hT
        generalize hbn : lwN T = b at lw
        have hl : ∀ t, t < b → Nat.testBit T t = false := fun t ht => lw_l (by omega) hT (by rw [hbn]; exact ht)
        have hb := lw.2.1
        have bm := tb_lt hT2 hb
        have s1 : sbs (2 ^ b) T := sbs_one hb
        have p2 := Nat.two_pow_pos b
        have rlt := xlt s1 (Nat.ne_of_gt p2)
        have ple := sbs_le s1
        refine kb_15 ((2 ^ m - 1 : Nat) : Int) T w3 w4 w5 d3 d4 d5 hB1 ⟨by omega, by omega, trivial⟩ ?_
        intro τ2 y2 hB2 F2 f2 _ d2 _
        have e3 : y2 3 = ((2 ^ b : Nat) : Int) := by
          rw [← lw.2.2.2.1, ← d2.2.1, ← d2.1, oI]
        have e5 : y2 5 = ((T ^^^ 2 ^ b : Nat) : Int) := andX (by omega) s1 (by rw [← e3]; exact d2.2.2.1) d2.2.2.2.1
        have e6 : y2 6 = (b : Int) := by
          rw [← lw.2.2.2.2, ← d2.2.2.2.2.1, e3, lw.2.2.2.1]
        rw [e3, e5, e6]
        have H2 : FQ [] τ τ2 := F1.tr F2
        have G2 : FQ FJs σ τ2 := F.tr (FQ.up (G := []) rfl H2)
        have eC := cB_one hs hr hT2 hb
        -- where the number is known
        have fin : ∀ (τ5 : pm_S) (v : Int), (0 ≤ v ∧ v ≤ 10) → an_GB pm_B τ5 → FQ FJs σ τ5 → (∀ P, P < T + 1 → sI τ5 82 P = tvI (cB m X P)) → (∀ t, t < T → sI τ5 83 t = sI τ 83 t) → (cB m X T = true → v = 1) → (cB m X T = false → cMin 10 (fun u => u ≠ 0 ∧ sbs u (T ^^^ 2 ^ b) ∧ cB m X (T ^^^ u) = true) (fun u => 1 + sI τ 83 u) v) → Ok 71 9 64 [.ref 79, .int (Int32.ofInt ((2 ^ m - 1 : Nat) : Int)), .int (Int32.ofInt (T : Int)), .int (Int32.ofInt ((2 ^ b : Nat) : Int)), .int (Int32.ofInt ((T ^^^ 2 ^ b : Nat) : Int)), .int (Int32.ofInt (b : Int))] [.int (Int32.ofInt v), .int (Int32.ofInt (T : Int)), .ref 83] τ5 (fun r τ => r = none ∧ an_GB pm_B τ ∧ FQ FJs σ τ ∧ (∀ P, P < 2 ^ m → sI τ 82 P = tvI (cB m X P)) ∧ gT (2 ^ m) (cB m X) (sI τ 83)) := by
          intro τ5 v hv hB5 G5 J5 K5 hy hn
          refine Ok.ast (n := 1024) rfl rfl rfl (by decide) (by omega) (by omega) ?_
          rw [show ((T : Int)).toNat = T by omega]
          have hB6 : an_GB pm_B (put τ5 83 T (Int32.ofInt v)) := put_GB hB5 (ai_rng _)
          have G6 : FQ FJs σ (put τ5 83 T (Int32.ofInt v)) := G5.tr (FQ.put rfl)
          have J6 : ∀ P, P < T + 1 → sI (put τ5 83 T (Int32.ofInt v)) 82 P = tvI (cB m X P) := fun P hP => by
            show ((put τ5 83 T (Int32.ofInt v)).1 82 P).toInt = _
            rw [put_nr (by decide)]
            exact J5 P hP
          have ev : sI (put τ5 83 T (Int32.ofInt v)) 83 T = v := by
            show ((put τ5 83 T (Int32.ofInt v)).1 83 T).toInt = _
            rw [put_eq, ti_of (by omega) (by omega)]
          have K6 : gT (T + 1) (cB m X) (sI (put τ5 83 T (Int32.ofInt v)) 83) := by
            refine gT_s hg (by omega) (fun t ht => ?_) ⟨b, hb, hl, by rw [ev]; exact hy, by rw [ev]; exact hn⟩
            show ((put τ5 83 T (Int32.ofInt v)).1 83 t).toInt = _
            rw [put_nj (by omega)]
            exact K5 t ht
          generalize put τ5 83 T (Int32.ofInt v) = τ6 at hB6 G6 J6 K6 ⊢
          refine kb_65 ((2 ^ m - 1 : Nat) : Int) T ((2 ^ b : Nat) : Int) ((T ^^^ 2 ^ b : Nat) : Int) b hB6 ⟨by omega, by omega, by omega, by omega, by omega, trivial⟩ ?_
          intro τ7 y7 hB7 F7 _ _ _ _
          refine ih (T + 1) τ7 _ _ _ rfl rfl rfl (by omega) (by omega) hB7 (G6.tr (FQ.up (G := []) rfl F7)) (fun P hP => (congrArg Int32.toInt (F7 82 P rfl)).trans (J6 P hP)) ?_
          rw [show sI τ7 83 = sI τ6 83 from funext fun j => congrArg Int32.toInt (F7 83 j rfl)]
          exact K6
        -- where it is known whether it can be
        have bst : ∀ (τ4 : pm_S) (z : Bool), z = cB m X T → an_GB pm_B τ4 → FQ [] τ τ4 → Ok 71 9 49 [.ref 79, .int (Int32.ofInt ((2 ^ m - 1 : Nat) : Int)), .int (Int32.ofInt (T : Int)), .int (Int32.ofInt ((2 ^ b : Nat) : Int)), .int (Int32.ofInt ((T ^^^ 2 ^ b : Nat) : Int)), .int (Int32.ofInt (b : Int))] [.int (Int32.ofInt (tvI z)), .int (Int32.ofInt (T : Int)), .ref 82] τ4 (fun r τ => r = none ∧ an_GB pm_B τ ∧ FQ FJs σ τ ∧ (∀ P, P < 2 ^ m → sI τ 82 P = tvI (cB m X P)) ∧ gT (2 ^ m) (cB m X) (sI τ 83)) := by
          intro τ4 z hz hB4 F4
          rw [hz]
          refine Ok.bst (n := 1024) rfl rfl rfl (by decide) (by omega) (by omega) (tv_01 _) ?_
          rw [show ((T : Int)).toNat = T by omega]
          have hB5 : an_GB pm_B (put τ4 82 T (Int32.ofInt (tvI (cB m X T)))) := put_GB hB4 (by
            show (0 : Int) ≤ (Int32.ofInt (tvI (cB m X T))).toInt ∧ (Int32.ofInt (tvI (cB m X T))).toInt ≤ 1
            rw [tv_i]
            exact tvI_r _)
          have G5 : FQ FJs σ (put τ4 82 T (Int32.ofInt (tvI (cB m X T)))) := (F.tr (FQ.up (G := []) rfl F4)).tr (FQ.put rfl)
          have J5 : ∀ P, P < T + 1 → sI (put τ4 82 T (Int32.ofInt (tvI (cB m X T)))) 82 P = tvI (cB m X P) := fun P hP => by
            show ((put τ4 82 T (Int32.ofInt (tvI (cB m X T)))).1 82 P).toInt = _
            by_cases e : P = T
            · rw [e, put_eq, tv_i]
            · rw [put_nj e, F4 82 P rfl]
              exact hJ P (by omega)
          have K5 : ∀ t, sI (put τ4 82 T (Int32.ofInt (tvI (cB m X T)))) 83 t = sI τ 83 t := fun t => by
            show ((put τ4 82 T (Int32.ofInt (tvI (cB m X T)))).1 83 t).toInt = _
            rw [put_nr (by decide), F4 83 t rfl]
          generalize put τ4 82 T (Int32.ofInt (tvI (cB m X T))) = τ5 at hB5 G5 J5 K5 ⊢
          have cT := J5 T (by omega)
          cases q : cB m X T with
          | true =>
            rw [tvI_y q] at cT
            refine kb_50y ((2 ^ m - 1 : Nat) : Int) T ((2 ^ b : Nat) : Int) ((T ^^^ 2 ^ b : Nat) : Int) b 1 hB5 ⟨by omega, by omega, by omega, by omega, by omega, by omega, trivial⟩ ⟨cT, trivial⟩ ?_
            intro τ6 y6 hB6 F6 _ _ _ _
            exact fin τ6 1 (by omega) hB6 (G5.tr (FQ.up (G := []) rfl F6)) (fun P hP => (congrArg Int32.toInt (F6 82 P rfl)).trans (J5 P hP)) (fun t _ => (congrArg Int32.toInt (F6 83 t rfl)).trans (K5 t)) (fun _ => rfl) (fun z => by rw [q] at z; cases z)
          | false =>
            rw [tvI_n q] at cT
            refine kb_50n ((2 ^ m - 1 : Nat) : Int) T ((2 ^ b : Nat) : Int) ((T ^^^ 2 ^ b : Nat) : Int) b 0 hB5 ⟨by omega, by omega, by omega, by omega, by omega, by omega, trivial⟩ ⟨cT, trivial⟩ ?_
            intro τ6 y6 hB6 F6 _ _ _ _
            refine Ok.cv rfl rfl rfl rfl rfl rfl rfl ?_
            refine (x_few (C := cB m X) hm (r := sI τ 83) hT2 hb (fun P hP => (congrArg Int32.toInt (F6 82 P rfl)).trans (J5 P (by omega))) (fun P hP => ⟨(congrArg Int32.toInt (F6 83 P rfl)).trans (K5 P), gT_r hC (by omega) hg hP⟩) hB6).use (by decide) (fun r τ7 q7 => ?_)
            obtain ⟨⟨v, rfl, hv, hmn⟩, hB7, F7⟩ := q7
            have F67 := F6.tr F7
            exact fin τ7 v hv hB7 (G5.tr (FQ.up (G := []) rfl F67)) (fun P hP => (congrArg Int32.toInt (F67 82 P rfl)).trans (J5 P hP)) (fun t _ => (congrArg Int32.toInt (F67 83 t rfl)).trans (K5 t)) (fun z => by rw [q] at z; cases z) (fun _ => hmn)
        refine Ok.bld (n := 1024) rfl rfl rfl (by decide) (by omega) (by omega) ?_
        rw [show (((T ^^^ 2 ^ b : Nat) : Int)).toNat = T ^^^ 2 ^ b by omega]
        have g : (τ2.1 82 (T ^^^ 2 ^ b)).toInt = tvI (cB m X (T ^^^ 2 ^ b)) := (congrArg Int32.toInt (H2 82 _ rfl)).trans (hJ _ rlt)
        rw [g]
        cases hc : cB m X (T ^^^ 2 ^ b) with
        | false =>
          refine kb_38n ((2 ^ m - 1 : Nat) : Int) T ((2 ^ b : Nat) : Int) ((T ^^^ 2 ^ b : Nat) : Int) b hB2 ⟨by omega, by omega, by omega, by omega, by omega, trivial⟩ ?_
          intro τ3 y3 hB3 F3 _ _ _ _
          exact bst τ3 false (by rw [eC, hc]; rfl) hB3 (H2.tr F3)
        | true =>
          have cl : clB X b m < 2 ^ m := clB_lt m
          refine kb_38 ((2 ^ m - 1 : Nat) : Int) T ((2 ^ b : Nat) : Int) ((T ^^^ 2 ^ b : Nat) : Int) b ((clB X b m : Nat) : Int) hB2 ⟨by omega, by omega, by omega, by omega, by omega, by omega, trivial⟩ ⟨(congrArg Int32.toInt (G2 81 b rfl)).trans (h81 b bm), trivial⟩ ?_ ?_
          · intro τ3 y3 hB3 F3 f3 _ d3 _
            have ea : y3 6 = ((clB X b m &&& (T ^^^ 2 ^ b) : Nat) : Int) := d3.1.symm.trans (andN (by omega) (by omega))
            exact bst τ3 false (by rw [eC, hc, decide_eq_false (by omega)]; rfl) hB3 (H2.tr F3)
          · intro τ3 y3 hB3 F3 f3 _ d3 _
            have ea : y3 6 = ((clB X b m &&& (T ^^^ 2 ^ b) : Nat) : Int) := d3.1.symm.trans (andN (by omega) (by omega))
            exact bst τ3 true (by rw [eC, hc, decide_eq_true (by omega)]; rfl) hB3 (H2.tr F3)
  refine Sp.at rfl rfl ?_
  refine kb_0 ((2 ^ m - 1 : Nat) : Int) _ _ _ _ rfl rfl rfl rfl hB ⟨by omega, trivial⟩ ?_
  intro τ1 y1 v2 v3 v4 v5 c2 c3 c4 c5 hB1 F1 _ _ _ _
  refine Ok.bst (n := 1024) rfl rfl rfl (by decide) (by omega) (by omega) (Or.inr (by decide)) ?_
  have hB2 : an_GB pm_B (put τ1 82 (0 : Int).toNat (Int32.ofInt 1)) := put_GB hB1 (by
    show (0 : Int) ≤ (Int32.ofInt 1).toInt ∧ (Int32.ofInt 1).toInt ≤ 1
    decide)
  have G2 : FQ FJs σ (put τ1 82 (0 : Int).toNat (Int32.ofInt 1)) := (FQ.up (G := []) rfl F1).tr (FQ.put rfl)
  have K2 : sI (put τ1 82 (0 : Int).toNat (Int32.ofInt 1)) 82 0 = 1 := by
    show ((put τ1 82 (0 : Int).toNat (Int32.ofInt 1)).1 82 (0 : Int).toNat).toInt = 1
    rw [put_eq]
    decide
  generalize put τ1 82 (0 : Int).toNat (Int32.ofInt 1) = τ2 at hB2 G2 K2 ⊢
  refine kb_5 ((2 ^ m - 1 : Nat) : Int) v2 v3 v4 v5 c2 c3 c4 c5 hB2 ⟨by omega, trivial⟩ ?_
  intro τ3 y3 u2 u3 u4 u5 k2 k3 k4 k5 hB3 F3 _ _ _ _
  refine Ok.ast (n := 1024) rfl rfl rfl (by decide) (by omega) (by omega) ?_
  have hB4 : an_GB pm_B (put τ3 83 (0 : Int).toNat (Int32.ofInt 0)) := put_GB hB3 (ai_rng _)
  have G4 : FQ FJs σ (put τ3 83 (0 : Int).toNat (Int32.ofInt 0)) := (G2.tr (FQ.up (G := []) rfl F3)).tr (FQ.put rfl)
  have K4 : sI (put τ3 83 (0 : Int).toNat (Int32.ofInt 0)) 83 0 = 0 := by
    show ((put τ3 83 (0 : Int).toNat (Int32.ofInt 0)).1 83 (0 : Int).toNat).toInt = 0
    rw [put_eq]
    rfl
  have L4 : sI (put τ3 83 (0 : Int).toNat (Int32.ofInt 0)) 82 0 = 1 := by
    show ((put τ3 83 (0 : Int).toNat (Int32.ofInt 0)).1 82 0).toInt = 1
    rw [put_nr (by decide), F3 82 0 rfl]
    exact K2
  generalize put τ3 83 (0 : Int).toNat (Int32.ofInt 0) = τ4 at hB4 G4 K4 L4 ⊢
  refine kb_10 ((2 ^ m - 1 : Nat) : Int) u2 u3 u4 u5 k2 k3 k4 k5 hB4 ⟨by omega, trivial⟩ ?_
  intro τ5 y5 t3 t4 t5 s3 s4 s5 hB5 F5 _ _ _ _
  have c0 : cB m X 0 = true := (cB_iff h1).mpr (fun i j hi _ => by rw [Nat.zero_testBit] at hi; cases hi)
  refine go (2 ^ m - 1) 1 τ5 t3 t4 t5 s3 s4 s5 (by omega) (by omega) hB5 (G4.tr (FQ.up (G := []) rfl F5)) (fun P hP => ?_) ⟨(congrArg Int32.toInt (F5 83 0 rfl)).trans K4, fun S s0 hS => by omega⟩
  rw [show P = 0 by omega, tvI_y c0]
  exact (congrArg Int32.toInt (F5 82 0 rfl)).trans L4
end KQY
abbrev FCk : List (Nat × Nat) := [(79, 2), (80, 9999), (81, 9999), (82, 9999), (83, 9999)]
theorem x_cle {σ : pm_S} (what : Int) (hw : (-2147483648) ≤ what ∧ what ≤ 2147483647) {D : Nat} (hD : D ≤ 30) (eD : sI σ 13 0 = (D : Int)) {P : Nat → Bool} (hP : P = (fun d => decide (σ.1 20 d = 0))) {l : List Nat} (hl : l = opL P D) {X : Nat → Nat → Bool} (hX : ∀ i j, i < l.length → j < l.length → X i j = xcl (sI σ 14) (sI σ 15) (sI σ 17) l i j) (hs : ∀ i j, X i j = X j i) (hr : ∀ i, X i i = false) (hB : an_GB pm_B σ) : Sp 68 13 [.ref 79, .int (Int32.ofInt what)] σ (fun r τ => an_GB pm_B τ ∧ FQ FCk σ τ ∧ ((11 ≤ l.length ∧ r = some (.int (Int32.ofInt (-1)))) ∨ (l.length ≤ 10 ∧ ∃ q : Nat → Int, fT (2 ^ l.length) (cB l.length X) q ∧ r = some (.int (Int32.ofInt (clV l.length (cB l.length X) (nF l.length q) what)))))) := by
  have ll := opL_le P D
  rw [← hl] at ll
  refine Sp.at rfl rfl ?_
  refine kf_0 what _ rfl hB ⟨hw, trivial⟩ ?_
  intro τ1 y1 v2 c2 hB1 F1 _ _ _ _
  have E1 := FQ.e1 F1
  refine Ok.cv rfl rfl rfl rfl rfl rfl rfl ?_
  refine (x_gat hD (show sI τ1 13 0 = (D : Int) by show (τ1.1 13 0).toInt = _; rw [E1]; exact eD) (P := P) (by rw [hP, E1]) hB1).use (by decide) (fun r τ2 q => ?_)
  obtain ⟨hB2, F2, q⟩ := q
  rw [← hl] at q
  have G2 : FQ FGa σ τ2 := (FQ.up (G := []) rfl F1).tr F2
  rcases q with ⟨l10, rfl, q2, q3⟩ | ⟨q9, rfl⟩
  · generalize hm : l.length = m at *
    have h1024 := p1024 l10
    have h1 := Nat.two_pow_pos m
    refine kf_4 what m v2 c2 hB2 ⟨hw, by omega, trivial⟩ ⟨q2, trivial⟩ ?_
    intro τ3 y3 hB3 F3 f3 _ d3 _
    have e3 : y3 2 = ((2 ^ m : Nat) : Int) := shlI (i := (m : Int)) ⟨by omega, by omega⟩ d3.1
    rw [show y3 2 + (-1) = ((2 ^ m - 1 : Nat) : Int) by omega]
    have G3 : FQ FGa σ τ3 := G2.tr (FQ.up (G := []) rfl F3)
    have JX : jX τ3 m l X := by
      refine ⟨l10, (congrArg Int32.toInt (F3 79 2 rfl)).trans q2, fun i hi => ⟨(congrArg Int32.toInt (F3 80 i rfl)).trans (q3 i (by omega)), ?_⟩, fun i j hi hj => ?_⟩
      · have h := opL_m (P := P) (n := D) (x := l.getD i 0) (by rw [← hl]; exact getD_mem (by omega))
        omega
      · rw [hX i j hi hj]
        have e : ∀ P, an_inP FGa P = false → sI τ3 P = sI σ P := fun P h => funext fun j => congrArg Int32.toInt (G3 P j (an_inP_ok h j))
        rw [e 14 rfl, e 15 rfl, e 17 rfl]
    have hC : cOk m (cB m X) := cB_ok l10 hr
    refine Ok.cv rfl rfl rfl rfl rfl rfl rfl ?_
    refine (x_noc JX hB3).use (by decide) (fun r τ4 q4 => ?_)
    obtain ⟨rfl, hB4, F4, c4⟩ := q4
    refine kf_16 what ((2 ^ m - 1 : Nat) : Int) hB4 ⟨hw, by omega, trivial⟩ ?_
    intro τ5 y5 hB5 F5 _ _ _ _
    refine Ok.cv rfl rfl rfl rfl rfl rfl rfl ?_
    refine (x_cou (X := X) l10 hs hr (fun i hi => (congrArg Int32.toInt (F5 81 i rfl)).trans (c4 i hi)) hB5).use (by decide) (fun r τ6 q6 => ?_)
    obtain ⟨rfl, hB6, F6, J6, g6⟩ := q6
    have G6 : FQ FCk σ τ6 := (FQ.up (G := FGa) rfl G3).tr ((FQ.up (G := FJr) rfl F4).tr ((FQ.up (G := []) rfl F5).tr (FQ.up (G := FJs) rfl F6)))
    have f6 := gT_f hC (Nat.le_refl _) g6
    have f6n := fT_n f6
    have rg : ∀ P, P < 2 ^ m → sI τ6 83 P = nF m (sI τ6 83) P ∧ 0 ≤ nF m (sI τ6 83) P ∧ nF m (sI τ6 83) P ≤ 10 := fun P hP => ⟨(nF_e hP).symm, fT_r hC (Nat.le_refl _) f6n hP⟩
    have rf := rg (2 ^ m - 1) (by omega)
    refine kf_19 what ((2 ^ m - 1 : Nat) : Int) (nF m (sI τ6 83) (2 ^ m - 1)) hB6 ⟨hw, by omega, by omega, trivial⟩ ⟨rf.1, trivial⟩ ?_ ?_ ?_
    · intro τ7 y7 hB7 F7 f7 rl _ _
      have r0 := rl.1
      refine ⟨hB7, G6.tr (FQ.up (G := []) rfl F7), Or.inr ⟨l10, _, f6, ?_⟩⟩
      unfold clV
      rw [if_neg r0, if_neg (by omega)]
    · intro τ7 y7 hB7 F7 f7 rl _ _
      have r0 := rl.1
      refine Ok.ic rfl rfl (by omega) (by omega) (by omega) (by omega) (fun h => ?_) (fun h => ?_)
      · have h : nF m (sI τ6 83) (2 ^ m - 1) ≤ what + (-10) := h
        refine kf_44 what ((2 ^ m - 1 : Nat) : Int) hB7 ⟨hw, by omega, trivial⟩ ?_
        intro τ8 y8 hB8 F8 _ _ _ _
        refine ⟨hB8, G6.tr (FQ.up (G := []) rfl (F7.tr F8)), Or.inr ⟨l10, _, f6, ?_⟩⟩
        unfold clV
        rw [if_neg r0, if_neg (by omega)]
      · have h : what + (-10) < nF m (sI τ6 83) (2 ^ m - 1) := h
        refine kf_37 what ((2 ^ m - 1 : Nat) : Int) hB7 ⟨by omega, by omega, trivial⟩ ?_
        intro τ8 y8 hB8 F8 _ _ _ _
        have F78 : FQ [] τ6 τ8 := F7.tr F8
        rw [show what + (-10) = (((what - 10).toNat : Nat) : Int) by omega]
        refine Ok.cv rfl rfl rfl rfl rfl rfl rfl ?_
        refine (x_sos (C := cB m X) l10 (F := nF m (sI τ6 83)) (fun P hP => (congrArg Int32.toInt (F78 82 P rfl)).trans (J6 P hP)) (fun P hP => ⟨(congrArg Int32.toInt (F78 83 P rfl)).trans (rg P hP).1, by have := rg P hP; omega⟩) hB8 (K := (what - 10).toNat) (by omega)).use (by decide) (fun r τ9 q9 => ?_)
        obtain ⟨rfl, hB9, F9⟩ := q9
        have gl := sbs_le (dnF_s (Q := gqQ (cB m X) (nF m (sI τ6 83)) (lfS m (cB m X) (nF m (sI τ6 83)) (what - 10).toNat)) 1023 _ (sbs_rf (lfS m (cB m X) (nF m (sI τ6 83)) (what - 10).toNat)))
        have lf := lfS_lt (m := m) (C := cB m X) (F := nF m (sI τ6 83)) (what - 10).toNat
        have gr : grS (cB m X) (nF m (sI τ6 83)) (lfS m (cB m X) (nF m (sI τ6 83)) (what - 10).toNat) < 2 ^ m := Nat.lt_of_le_of_lt gl lf
        refine kf_43 what ((2 ^ m - 1 : Nat) : Int) ((grS (cB m X) (nF m (sI τ6 83)) (lfS m (cB m X) (nF m (sI τ6 83)) (what - 10).toNat) : Nat) : Int) hB9 ⟨hw, by omega, by omega, trivial⟩ ?_
        intro τa ya hBa Fa _ _ _ _
        refine ⟨hBa, G6.tr (FQ.up (G := []) rfl (F78.tr (F9.tr Fa))), Or.inr ⟨l10, _, f6, ?_⟩⟩
        unfold clV
        rw [if_neg r0, if_pos (by omega)]
    · intro τ7 y7 hB7 F7 f7 _ _ _
      refine ⟨hB7, G6.tr (FQ.up (G := []) rfl F7), Or.inr ⟨l10, _, f6, ?_⟩⟩
      unfold clV
      rw [if_pos (by omega)]
  · refine kf_4n what v2 c2 hB2 ⟨hw, trivial⟩ ?_
    intro τ3 y3 hB3 F3 _ _ _ _
    exact ⟨hB3, (FQ.up (G := FGa) rfl G2).tr (FQ.up (G := []) rfl F3), Or.inl ⟨q9, rfl⟩⟩
theorem x_clc {σ : pm_S} (what : Int) (hw : (-2147483648) ≤ what ∧ what ≤ 2147483647) {D : Nat} (hD : D ≤ 30) (eD : sI σ 13 0 = (D : Int)) {P : Nat → Bool} (hP : P = (fun d => decide (σ.1 20 d = 0))) {l : List Nat} (hl : l = opL P D) {X : Nat → Nat → Bool} (hX : ∀ i j, i < l.length → j < l.length → X i j = xcl (sI σ 14) (sI σ 15) (sI σ 17) l i j) (hs : ∀ i j, X i j = X j i) (hr : ∀ i, X i i = false) (hB : an_GB pm_B σ) : Sp 143 22 [.ref 0, .int (Int32.ofInt what)] σ (fun r τ => an_GB pm_B τ ∧ FQ FCk σ τ ∧ ((11 ≤ l.length ∧ r = some (.int (Int32.ofInt (-1)))) ∨ (l.length ≤ 10 ∧ ∃ q : Nat → Int, fT (2 ^ l.length) (cB l.length X) q ∧ r = some (.int (Int32.ofInt (clV l.length (cB l.length X) (nF l.length q) what)))))) := by
  refine Sp.at rfl rfl ?_
  refine kg_0 what hB ⟨hw, trivial⟩ ?_
  intro τ1 y1 hB1 F1 _ _ _ _
  have E1 := FQ.e1 F1
  have e : ∀ P, sI τ1 P = sI σ P := fun P => funext fun j => by show (τ1.1 P j).toInt = _; rw [E1]
  refine Ok.cv rfl rfl rfl rfl rfl rfl rfl ?_
  refine (x_cle what hw hD (show sI τ1 13 0 = (D : Int) by rw [e 13]; exact eD) (P := P) (by rw [hP, E1]) hl (X := X) (by rw [e 14, e 15, e 17]; exact hX) hs hr hB1).use (by decide) (fun r τ2 q => ?_)
  obtain ⟨hB2, F2, q⟩ := q
  have G2 : FQ FCk σ τ2 := (FQ.up (G := []) rfl F1).tr F2
  rcases q with ⟨q1, rfl⟩ | ⟨q1, f, q2, rfl⟩
  · refine kg_4 what (-1) hB2 ⟨hw, by omega, trivial⟩ ?_
    intro τ3 y3 hB3 F3 _ _ _ _
    exact ⟨hB3, G2.tr (FQ.up (G := []) rfl F3), Or.inl ⟨q1, rfl⟩⟩
  · generalize ev : clV l.length (cB l.length X) (nF l.length f) what = v
    rw [show Value.int (Int32.ofInt v) = Value.int (Int32.ofInt (Int32.ofInt v).toInt) by rw [oI]]
    refine kg_4 what (Int32.ofInt v).toInt hB2 ⟨hw, ai_rng _, trivial⟩ ?_
    intro τ3 y3 hB3 F3 _ _ _ _
    refine ⟨hB3, G2.tr (FQ.up (G := []) rfl F3), Or.inr ⟨q1, f, q2, ?_⟩⟩
    rw [ev, oI]
set_option maxRecDepth 20000 in
theorem tt_cleared (a1 : Int32) : Two 1 true IT IT 143 220 [.int a1] := by
  rw [← oI a1]
  have o1 := ai_rng a1
  generalize a1.toInt = w at o1
  refine two_TE (GC := FCk) (GM := FMk) (by decide +kernel) (by decide +kernel) rfl rfl (fun σ v τ => ∃ (D N S : Nat) (ls : List (List Int)), TW D N S ls σ ∧ ∃ l : List Nat, l = opL (fun d => decide (σ.1 20 d = 0)) D ∧ ((11 ≤ l.length ∧ v = -1) ∨ (l.length ≤ 10 ∧ ∃ q : Nat → Int, fT (2 ^ l.length) (cB l.length (xcl (sI σ 14) (sI σ 15) (sI σ 17) l)) q ∧ v = clV l.length (cB l.length (xcl (sI σ 14) (sI σ 15) (sI σ 17) l)) (nF l.length q) w))) (fun σ hI => ?_) (fun σ τ v hI x F1 hB1 _ => ?_)
  · obtain ⟨D, N, S, ls, w'⟩ := RT.o hI.2.2.1.2.1
    have hb := w'.2.1.1
    refine (x_clc w o1 hb.1 w'.1.1 rfl rfl (X := xcl (sI σ 14) (sI σ 15) (sI σ 17) (opL (fun d => decide (σ.1 20 d = 0)) D)) (fun i j _ _ => rfl) (xcl_s _ _ _ _) (xcl_i _ _ _ _) hI.1).use (by decide) (fun r τ q => ?_)
    obtain ⟨hB, F, ⟨q1, rfl⟩ | ⟨q1, f, q2, rfl⟩⟩ := q
    · exact ⟨-1, rfl, hB, F, D, N, S, ls, w', _, rfl, Or.inl ⟨q1, rfl⟩⟩
    · exact ⟨_, rfl, hB, F, D, N, S, ls, w', _, rfl, Or.inr ⟨q1, f, q2, rfl⟩⟩
  · obtain ⟨D, N, S, ls, w', l, el0, x⟩ := x
    have wt : TW D N S ls τ := w'.fq rfl rfl rfl rfl rfl rfl rfl rfl rfl rfl F1
    have hb := wt.2.1.1
    obtain ⟨_, ⟨_, _, _, _, hd, _⟩, _⟩ := w'
    have el : opL (fun d => decide (τ.1 107 d = 0)) D = l := by
      rw [el0]
      refine opL_e D (fun i hi => ?_)
      have h := hd i hi
      show decide (τ.1 107 i = 0) = decide (σ.1 20 i = 0)
      rw [F1 107 i rfl, ← h.2.2.2.2.2.2]
    refine (x_clm w o1 hb.1 wt.1.2.2.2.1 rfl (l := l) el.symm (X := xcl (sI σ 14) (sI σ 15) (sI σ 17) l) (fun i j hi hj => ?_) (xcl_s _ _ _ _) (xcl_i _ _ _ _) hB1).use (by decide) (fun r τ2 q => ?_)
    · have mi := opL_m (P := fun d => decide (σ.1 20 d = 0)) (n := D) (x := l.getD i 0) (by rw [← el0]; exact getD_mem hi)
      have mj := opL_m (P := fun d => decide (σ.1 20 d = 0)) (n := D) (x := l.getD j 0) (by rw [← el0]; exact getD_mem hj)
      have di := hd _ mi.1
      have dj := hd _ mj.1
      have e1 : ∀ d, d < D → sI σ 14 d = sI τ 101 d ∧ sI σ 15 d = sI τ 102 d ∧ sI σ 17 d = sI τ 104 d := fun d hdd => by
        have h := hd d hdd
        refine ⟨congrArg Int32.toInt (h.1.trans (F1 101 d rfl).symm), congrArg Int32.toInt (h.2.1.trans (F1 102 d rfl).symm), congrArg Int32.toInt (h.2.2.2.1.trans (F1 104 d rfl).symm)⟩
      have a := e1 _ mi.1
      have b := e1 _ mj.1
      unfold xcl
      rw [a.1, a.2.1, a.2.2, b.1, b.2.1, b.2.2]
    · obtain ⟨hB2, F2, q⟩ := q
      have w2 : TW D N S ls τ2 := wt.fq rfl rfl rfl rfl rfl rfl rfl rfl rfl rfl F2
      refine ⟨?_, hB2, F2, D, N, S, ls, w2⟩
      rcases q with ⟨q1, rfl⟩ | ⟨q1, f, q2, rfl⟩
      · rcases x with ⟨x, rfl⟩ | ⟨x, _⟩
        · rfl
        · omega
      · rcases x with ⟨x, _⟩ | ⟨x, g, x2, rfl⟩
        · omega
        · rw [fT_eq (cB_ok q1 (xcl_i _ _ _ _)) q2 x2]
