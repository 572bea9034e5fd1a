/-! cleared in the model: the fewest, the greatest -/
section KNX
variable {m : Nat} {C : Nat → Bool}
/-- the next part downwards -/
theorem dn_iff {S p P : Nat} (hp : sbs p S) (h0 : p ≠ 0) (hP : sbs P S) : (p - 1) &&& S < P ↔ (p < P ∨ P = p) := by
  constructor
  · intro h
    by_cases c : P < p
    · have := down1 p p S P (Nat.le_refl _) hp hP c
      omega
    · omega
  · intro h
    have : (p - 1) &&& S ≤ p - 1 := Nat.and_le_left
    omega
theorem m_lea {σ : pm_S} (hm : m ≤ 10) {r : Nat → Int} {S : Nat} (hS : S < 2 ^ m) (h127 : ∀ P, P ≠ 0 → P < 2 ^ m → sI σ 127 P = tvI (C P)) (h126 : ∀ P, P < S → sI σ 126 P = r P ∧ 0 ≤ r P ∧ r P ≤ 1000) (hB : an_GB pm_B σ) : Sp 218 6 [.ref 93, .int (Int32.ofInt (S : Int))] σ (fun w τ => (∃ v : Int, w = some (.int (Int32.ofInt v)) ∧ (0 ≤ v ∧ v ≤ 1000000000) ∧ cMin 1000000000 (qS C S) (fun P => r (S ^^^ P) + 1) v) ∧ an_GB pm_B τ ∧ FQ [] σ τ) := by
  have h1024 := p1024 hm
  have go : ∀ (n p : Nat) (v : Int) (τ : pm_S), p ≤ n → sbs p S → (0 ≤ v ∧ v ≤ 1000000000) → cMin 1000000000 (fun P => qS C S P ∧ p < P) (fun P => r (S ^^^ P) + 1) v → an_GB pm_B τ → FQ [] σ τ → Ok 218 6 4 [.ref 93, .int (Int32.ofInt (S : Int)), .int (Int32.ofInt v), .int (Int32.ofInt (p : Int))] [] τ (fun w τ => (∃ v : Int, w = some (.int (Int32.ofInt v)) ∧ (0 ≤ v ∧ v ≤ 1000000000) ∧ cMin 1000000000 (qS C S) (fun P => r (S ^^^ P) + 1) v) ∧ an_GB pm_B τ ∧ FQ [] σ τ) := by
    have zero : ∀ (p : Nat) (v : Int) (τ : pm_S), p = 0 → (0 ≤ v ∧ v ≤ 1000000000) → cMin 1000000000 (fun P => qS C S P ∧ p < P) (fun P => r (S ^^^ P) + 1) v → an_GB pm_B τ → FQ [] σ τ → Ok 218 6 4 [.ref 93, .int (Int32.ofInt (S : Int)), .int (Int32.ofInt v), .int (Int32.ofInt (p : Int))] [] τ (fun w τ => (∃ v : Int, w = some (.int (Int32.ofInt v)) ∧ (0 ≤ v ∧ v ≤ 1000000000) ∧ cMin 1000000000 (qS C S) (fun P => r (S ^^^ P) + 1) v) ∧ an_GB pm_B τ ∧ FQ [] σ τ) := by
      intro p v τ hp hv hm hB F
      refine lc_4z S v p hB ⟨by omega, hv, by omega, trivial⟩ ?_
      intro τ1 y1 hB1 F1 _ _ _ _
      refine ⟨⟨v, rfl, hv, cMin_cg (fun P => ⟨fun h => h.1, fun h => ⟨h, ?_⟩⟩) (fun _ _ => rfl) hm⟩, hB1, F.tr F1⟩
      have := h.1
      omega
    intro n
    induction n with
    | zero =>
      intro p v τ hp hps hv hm hB F
      exact zero p v τ (by omega) hv hm hB F
    | succ n ih =>
      intro p v τ hp hps hv hm hB F
      by_cases p0 : p = 0
      · exact zero p v τ p0 hv hm hB F
      have ps := sbs_le hps
      have lt := xlt hps p0
      have np : (p - 1) &&& S ≤ p - 1 := Nat.and_le_left
      have c0 : sI τ 127 p = tvI (C p) := (congrArg Int32.toInt (F 127 p rfl)).trans (h127 p p0 (by omega))
      -- where it goes on
      have next : ∀ (τ2 : pm_S) (v2 : Int), (0 ≤ v2 ∧ v2 ≤ 1000000000) → cMin 1000000000 (fun P => qS C S P ∧ (p - 1) &&& S < P) (fun P => r (S ^^^ P) + 1) v2 → an_GB pm_B τ2 → FQ [] σ τ2 → Ok 218 6 34 [.ref 93, .int (Int32.ofInt (S : Int)), .int (Int32.ofInt v2), .int (Int32.ofInt (p : Int))] [] τ2 (fun w τ => (∃ v : Int, w = some (.int (Int32.ofInt v)) ∧ (0 ≤ v ∧ v ≤ 1000000000) ∧ cMin 1000000000 (qS C S) (fun P => r (S ^^^ P) + 1) v) ∧ an_GB pm_B τ ∧ FQ [] σ τ) := by
        intro τ2 v2 hv2 hm2 hB2 F2
        refine lc_34 S v2 p hB2 ⟨by omega, hv2, by omega, trivial⟩ ?_
        intro τ3 y3 hB3 F3 f3 _ d3 _
        have e3 : y3 3 = (((p - 1) &&& S : Nat) : Int) := dnC (by omega) p0 (by omega) d3.1
        rw [e3]
        exact ih ((p - 1) &&& S) v2 τ3 (by omega) and_sbs hv2 hm2 hB3 (F2.tr F3)
      cases hc : C p with
      | false =>
        refine lc_4n S v p 0 hB ⟨by omega, hv, by omega, by omega, trivial⟩ ⟨c0.trans (tvI_n hc), trivial⟩ ?_
        intro τ1 y1 hB1 F1 _ _ _ _
        refine next τ1 v hv (cMin_cg (fun P => ⟨fun h => ⟨h.1, (dn_iff hps p0 h.1.2.1).mpr (Or.inl h.2)⟩, fun h => ⟨h.1, ?_⟩⟩) (fun _ _ => rfl) hm) hB1 (F.tr F1)
        rcases (dn_iff hps p0 h.1.2.1).mp h.2 with q | q
        · exact q
        · have := h.1.2.2
          rw [q, hc] at this
          cases this
      | true =>
        have hx := h126 (S ^^^ p) (by omega)
        have my : cMin 1000000000 (fun P => qS C S P ∧ (p - 1) &&& S < P) (fun P => r (S ^^^ P) + 1) (min v (r (S ^^^ p) + 1)) := by
          refine cMin_y (p := p) (fun P => ⟨fun h => ?_, fun h => ?_⟩) hm
          · rcases (dn_iff hps p0 h.1.2.1).mp h.2 with q | q
            · exact Or.inl ⟨h.1, q⟩
            · exact Or.inr q
          · rcases h with h | h
            · exact ⟨h.1, (dn_iff hps p0 h.1.2.1).mpr (Or.inl h.2)⟩
            · rw [h]
              exact ⟨⟨p0, hps, hc⟩, by omega⟩
        refine lc_4y S v p 1 hB ⟨by omega, hv, by omega, by omega, trivial⟩ ⟨c0.trans (tvI_y hc), trivial⟩ ?_
        intro τ1 y1 hB1 F1 f1 _ d1 _
        have e5 : y1 5 = ((S ^^^ p : Nat) : Int) := andX (by omega) hps d1.1 d1.2.1
        rw [e5]
        refine Ok.ald (n := 1024) rfl rfl rfl (by decide) (by omega) (by omega) ?_
        rw [show (((S ^^^ p : Nat) : Int)).toNat = S ^^^ p by omega]
        have g : (τ1.1 126 (S ^^^ p)).toInt = r (S ^^^ p) := (congrArg Int32.toInt ((F.tr F1) 126 _ rfl)).trans hx.1
        rw [g]
        refine lc_19 S v p (r (S ^^^ p)) hB1 ⟨by omega, hv, by omega, by omega, trivial⟩ ?_
        intro τ2 y2 hB2 F2 _ _ _ _
        have G2 : FQ [] σ τ2 := F.tr (F1.tr F2)
        refine Ok.ic rfl rfl (by omega) (by omega) (by omega) (by omega) (fun h => ?_) (fun h => ?_)
        · have h : v ≤ r (S ^^^ p) + 1 := h
          rw [show min v (r (S ^^^ p) + 1) = v by omega] at my
          exact next τ2 v hv my hB2 G2
        · have h : r (S ^^^ p) + 1 < v := h
          rw [show min v (r (S ^^^ p) + 1) = r (S ^^^ p) + 1 by omega] at my
          refine lc_23 S v p hB2 ⟨by omega, hv, by omega, trivial⟩ ?_
          intro τ3 y3 hB3 F3 f3 _ d3 _
          have e4 : y3 4 = ((S ^^^ p : Nat) : Int) := andX (by omega) hps d3.1 d3.2.1
          rw [e4]
          refine Ok.ald (n := 1024) rfl rfl rfl (by decide) (by omega) (by omega) ?_
          rw [show (((S ^^^ p : Nat) : Int)).toNat = S ^^^ p by omega]
          have g : (τ3.1 126 (S ^^^ p)).toInt = r (S ^^^ p) := (congrArg Int32.toInt ((G2.tr F3) 126 _ rfl)).trans hx.1
          rw [g]
          refine lc_31 S p (r (S ^^^ p)) _ rfl hB3 ⟨by omega, by omega, by omega, trivial⟩ ?_
          intro τ4 y4 hB4 F4 _ _ _ _
          exact next τ4 _ (by omega) my hB4 (G2.tr (F3.tr F4))
  refine Sp.at rfl rfl ?_
  refine lc_0 S _ _ rfl rfl hB ⟨by omega, trivial⟩ ?_
  intro τ y hB1 F1 _ _ _ _
  exact go S S 1000000000 τ (Nat.le_refl _) (sbs_rf S) (by omega) ⟨Int.le_refl _, fun P hP => absurd (sbs_le hP.1.2.1) (by omega), Or.inl rfl⟩ hB1 F1
theorem m_gre {σ : pm_S} (hm : m ≤ 10) {F : Nat → Int} {S : Nat} (hS : S < 2 ^ m) (h127 : ∀ P, P ≠ 0 → P < 2 ^ m → sI σ 127 P = tvI (C P)) (h126 : ∀ P, P < 2 ^ m → sI σ 126 P = F P ∧ 0 ≤ F P ∧ F P ≤ 1000) (hB : an_GB pm_B σ) : Sp 217 6 [.ref 93, .int (Int32.ofInt (S : Int)), .int (Int32.ofInt (F S + (-1)))] σ (fun w τ => w = some (.int (Int32.ofInt ((grS C F S : Nat) : Int))) ∧ an_GB pm_B τ ∧ FQ [] σ τ) := by
  have h1024 := p1024 hm
  have hFS := h126 S hS
  have go : ∀ (n p : Nat) (τ : pm_S), p ≤ n → sbs p S → an_GB pm_B τ → FQ [] σ τ → Ok 217 6 2 [.ref 93, .int (Int32.ofInt (S : Int)), .int (Int32.ofInt (F S + (-1))), .int (Int32.ofInt (p : Int))] [] τ (fun w τ => w = some (.int (Int32.ofInt ((dnF (gqQ C F S) S n p : Nat) : Int))) ∧ an_GB pm_B τ ∧ FQ [] σ τ) := by
    intro n
    induction n with
    | zero =>
      intro p τ hp hps hB G
      refine lb_2z S _ p hB ⟨by omega, by omega, by omega, trivial⟩ ?_
      intro τ1 y1 hB1 F1 _ _ _ _
      exact ⟨rfl, hB1, G.tr F1⟩
    | succ n ih =>
      intro p τ hp hps hB G
      by_cases p0 : p = 0
      · refine lb_2z S _ p hB ⟨by omega, by omega, by omega, trivial⟩ ?_
        intro τ1 y1 hB1 F1 _ _ _ _
        refine ⟨?_, hB1, G.tr F1⟩
        rw [show dnF (gqQ C F S) S (n + 1) p = 0 from if_pos p0]
        rfl
      have ps := sbs_le hps
      have lt := xlt hps p0
      have np : (p - 1) &&& S ≤ p - 1 := Nat.and_le_left
      have c0 : sI τ 127 p = tvI (C p) := (congrArg Int32.toInt (G 127 p rfl)).trans (h127 p p0 (by omega))
      have next : gqQ C F S p = false → ∀ τ2 : pm_S, an_GB pm_B τ2 → FQ [] σ τ2 → Ok 217 6 19 [.ref 93, .int (Int32.ofInt (S : Int)), .int (Int32.ofInt (F S + (-1))), .int (Int32.ofInt (p : Int))] [] τ2 (fun w τ => w = some (.int (Int32.ofInt ((dnF (gqQ C F S) S (n + 1) p : Nat) : Int))) ∧ an_GB pm_B τ ∧ FQ [] σ τ) := by
        intro hq τ2 hB2 F2
        refine lb_19 S _ p hB2 ⟨by omega, by omega, by omega, trivial⟩ ?_
        intro τ3 y3 hB3 F3 f3 _ d3 _
        have e3 : y3 3 = (((p - 1) &&& S : Nat) : Int) := dnC (by omega) p0 (by omega) d3.1
        rw [e3, show dnF (gqQ C F S) S (n + 1) p = dnF (gqQ C F S) S n ((p - 1) &&& S) from (if_neg p0).trans (if_neg (by rw [hq]; decide))]
        exact ih ((p - 1) &&& S) τ3 (by omega) and_sbs hB3 (F2.tr F3)
      cases hc : C p with
      | false =>
        refine lb_2n S _ p 0 hB ⟨by omega, by omega, by omega, by omega, trivial⟩ ⟨c0.trans (tvI_n hc), trivial⟩ ?_
        intro τ1 y1 hB1 F1 _ _ _ _
        refine next ?_ τ1 hB1 (G.tr F1)
        show (C p && _) = false
        rw [hc]
        rfl
      | true =>
        have hx := h126 (S ^^^ p) (by omega)
        refine lb_2y S _ p 1 hB ⟨by omega, by omega, by omega, by omega, trivial⟩ ⟨c0.trans (tvI_y hc), trivial⟩ ?_
        intro τ1 y1 hB1 F1 f1 _ d1 _
        have e5 : y1 5 = ((S ^^^ p : Nat) : Int) := andX (by omega) hps d1.1 d1.2.1
        rw [e5]
        refine Ok.ald (n := 1024) rfl rfl rfl (by decide) (by omega) (by omega) ?_
        rw [show (((S ^^^ p : Nat) : Int)).toNat = S ^^^ p by omega]
        have g : (τ1.1 126 (S ^^^ p)).toInt = F (S ^^^ p) := (congrArg Int32.toInt ((G.tr F1) 126 _ rfl)).trans hx.1
        rw [g]
        refine lb_17 S _ p (F (S ^^^ p)) hB1 ⟨by omega, by omega, by omega, by omega, trivial⟩ ?_
        intro τ2 y2 hB2 F2 _ _ _ _
        have G2 : FQ [] σ τ2 := G.tr (F1.tr F2)
        refine Ok.ic rfl rfl (by omega) (by omega) (by omega) (by omega) (fun h => ?_) (fun h => ?_)
        · have h : F (S ^^^ p) = F S + (-1) := h
          refine lb_26 S _ p hB2 ⟨by omega, by omega, by omega, trivial⟩ ?_
          intro τ3 y3 hB3 F3 _ _ _ _
          have hq : gqQ C F S p = true := by
            show (C p && decide (F (S ^^^ p) = F S - 1)) = true
            rw [hc, Bool.true_and]
            exact decide_eq_true (by omega)
          refine ⟨?_, hB3, G2.tr F3⟩
          rw [show dnF (gqQ C F S) S (n + 1) p = p from (if_neg p0).trans (if_pos hq)]
        · have h : F (S ^^^ p) ≠ F S + (-1) := h
          refine next ?_ τ2 hB2 G2
          show (C p && decide (F (S ^^^ p) = F S - 1)) = false
          rw [hc, Bool.true_and]
          exact decide_eq_false (by omega)
  refine Sp.at rfl rfl ?_
  refine lb_0 S (F S + (-1)) _ rfl hB ⟨by omega, by omega, trivial⟩ ?_
  intro τ y hB1 F1 _ _ _ _
  exact go 1023 S τ (by omega) (sbs_rf S) hB1 F1
end KNX
